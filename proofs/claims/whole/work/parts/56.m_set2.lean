/-- not by rfl: the kernel would unfold the wrong side -/
theorem zlet_e {α β : Type} (x : α) (f : α → β) : zlet x f = f x := Eq.trans (Eq.refl _) (Eq.refl _)
section MSet2
variable {S : t_Script} {n L L1 : Nat}
theorem set144_t {i : Nat} {M : t_Model} {p v sg line h : Nat} (hL : L ≤ 60) (hv16 : v ≤ 16) (hh : h = hereN sg v (L - line)) (hx : ¬ v ≤ L - line → 2 ≤ v ∧ sg ≤ L - line) : j_X7_sets_144 (nI i) (nI L) M (nI p) (nI v) (nI line) (nI (L - line)) (nI sg) = j_X7_sets_182 (nI i) (nI L) M (nI p) (nI v) (nI line) (nI sg) (nI h) := by
  unfold j_X7_sets_144
  by_cases hc : v ≤ L - line
  · have e : h = v := by rw [hh]; unfold hereN; rw [if_pos hc]
    rw [e, if_neg (nI_nlt hc (by omega))]
  · obtain ⟨x1, x2⟩ := hx hc
    rw [if_pos (nI_lt (by omega) (by omega))]
    simp only [zlet_e]
    rw [show (2 : Int32) = nI 2 from rfl, pk_sub x1, pk_sub x2]
    by_cases c : L - line - sg < v - 2
    · have e : h = L - line - sg := by rw [hh]; unfold hereN; rw [if_neg hc, if_pos c]
      rw [e, if_neg (nI_ge c (by omega))]
    · have e : h = v - 2 := by rw [hh]; unfold hereN; rw [if_neg hc, if_neg c]
      rw [e, if_pos (nI_le (by omega) (by omega))]
theorem set121_t (hS : SOK S n L) {M : t_Model} (hM : MR S M.1 n L1) {i : Nat} (hi : i < n) {p v sg line h : Nat} (hv16 : v ≤ 16) (hsg : sg = if S.2.2.1 i = 3 then 1 else 0) (hlL : line ≤ L) (hh : h = hereN sg v (L - line)) (hx : ¬ v ≤ L - line → 2 ≤ v ∧ sg ≤ L - line) : j_X7_sets_121 (nI i) (nI L) M (nI p) (nI v) (nI line) = j_X7_sets_182 (nI i) (nI L) M (nI p) (nI v) (nI line) (nI sg) (nI h) := by
  have hL := hS.2.2.2.2.1
  rw [← set144_t hL hv16 hh hx, ← pk_sub hlL]
  unfold j_X7_sets_121
  simp only [zlet_e]
  rw [of_kd hS hM hi, Option.bind_some]
  by_cases hk : S.2.2.1 i = 3
  · rw [if_pos hk] at hsg
    rw [if_pos hk, hsg]
    rfl
  · rw [if_neg hk] at hsg
    rw [if_neg hk, hsg]
    rfl
theorem set89_t0 (hS : SOK S n L) {M : t_Model} (hM : MR S M.1 n L1) {i : Nat} (hi : i < n) {p v : Nat} (hp : p < 60) (hv : X5_linesOf S (nI i) = nI v) (hfil : M.2.2.2.2.2.2.2.2.2.2.2.2.1 p = 0) : j_X7_sets_89 (nI i) (nI L) M (nI p) = j_X7_sets_121 (nI i) (nI L) M (nI p) (nI v) 0 := by
  unfold j_X7_sets_89
  rw [lines_t hS hM hi, Option.bind_some, hv]
  simp only [zlet_e]
  rw [zix_nI (by omega) (by decide), nI_clamp (by omega), hfil, if_pos rfl]
theorem set89_t1 (hS : SOK S n L) {M : t_Model} (hM : MR S M.1 n L1) {i : Nat} (hi : i < n) {p q v b : Nat} (hp : p < 60) (hq : q ≤ 60) (h0 : 0 < q) (hv : X5_linesOf S (nI i) = nI v) (hb : X5_blanksAhead S (nI i) = nI b) (hfil : M.2.2.2.2.2.2.2.2.2.2.2.2.1 p = nI q) : j_X7_sets_89 (nI i) (nI L) M (nI p) = j_X7_sets_121 (nI i) (nI L) M (nI p) (nI v) (nI (q + b)) := by
  unfold j_X7_sets_89
  rw [lines_t hS hM hi, Option.bind_some, hv]
  simp only [zlet_e]
  rw [zix_nI (by omega) (by decide), nI_clamp (by omega), hfil, if_neg (nI_ne0 h0 (by omega)), zix_nI (by omega) (by decide), blanks_t hS hM hi, Option.bind_some, hb, nI_add]
theorem set_t (hS : SOK S n L) {M : t_Model} (hM : MR S M.1 n L1) {i : Nat} (hi : i < n) {p q v b sg line h : Nat} (hp : p < 60) (hq : q ≤ 60) (hv : X5_linesOf S (nI i) = nI v) (hv16 : v ≤ 16) (hb : X5_blanksAhead S (nI i) = nI b) (hsg : sg = if S.2.2.1 i = 3 then 1 else 0) (hline : line = lineN q b) (hlL : line ≤ L) (hh : h = hereN sg v (L - line)) (hx : ¬ v ≤ L - line → 2 ≤ v ∧ sg ≤ L - line) (hfil : M.2.2.2.2.2.2.2.2.2.2.2.2.1 p = nI q) :
    j_X7_sets_89 (nI i) (nI L) M (nI p) = j_X7_sets_182 (nI i) (nI L) M (nI p) (nI v) (nI line) (nI sg) (nI h) := by
  refine Eq.trans ?_ (set121_t hS hM hi hv16 hsg hlL hh hx)
  by_cases h0 : 0 < q
  · have e : line = q + b := by rw [hline]; exact if_neg (by omega)
    rw [e]
    exact set89_t1 hS hM hi hp hq h0 hv hb hfil
  · have e : line = 0 := by rw [hline]; exact if_pos (by omega)
    have e2 : q = 0 := by omega
    rw [e]
    exact set89_t0 hS hM hi hp hv (by rw [hfil, e2]; exact nI_0)
theorem set_x (hS : SOK S n L) {i : Nat} (hi : i < n) {p q v b sg line h : Nat} (hp : p < 60) (hq : q ≤ 60) (hv : X5_linesOf S (nI i) = nI v) (hv16 : v ≤ 16) (hb : X5_blanksAhead S (nI i) = nI b) (hsg : sg = if S.2.2.1 i = 3 then 1 else 0) (hline : line = lineN q b) (hlL : line ≤ L) (hh : h = hereN sg v (L - line)) (hx : ¬ v ≤ L - line → 2 ≤ v ∧ sg ≤ L - line ∧ p + 1 < 60)
    (mk sp : Int32) (nd pl tp pt nu ex fi fs bg : Rw) :
    X1_setElement (nI (p + 1), mk, sp, nI L, nI q, nd, pl, tp, pt, nu, ex, fi, fs, bg) S (nI i) =
      if v ≤ L - line then (nI (p + 1), mk, sp, nI L, nI (line + h), nd, upd pl i (nI p), upd tp i (nI line), upd pt i (nI h), nu, ex, upd fi p (nI (line + h)), (if fs p = -1 then upd fs p (nI i) else fs), upd bg p (bg p + 1))
      else (nI (p + 1 + 1), mk, sp + 1, nI L, nI (v - h + sg), nd, upd pl i (nI p), upd tp i (nI line), upd pt i (nI h), nu, ex, upd (upd fi p (nI (line + h + sg))) (p + 1) (nI (v - h + sg)), upd (if fs p = -1 then upd fs p (nI i) else fs) (p + 1) (-1), upd (upd bg p (bg p + 1)) (p + 1) 0) := by
  unfold X1_setElement
  unfold lineN at hline
  by_cases h0 : q = 0
  · subst h0
    rw [if_pos rfl] at hline
    rw [if_pos (show nI 0 ≤ 0 by decide), ← hline]
    exact set16_x hS hi hp hv hv16 hsg hlL hh hx _ _ _ _ _ _ _ _ _ _ _
  · rw [if_neg h0] at hline
    rw [if_neg (nI_nle (by omega) (by omega))]
    simp only [zlet_e]
    rw [hb, fill_x _ _ _ _ _ _ _ _ _ _ _ _ _ _ hp, nI_add, ← hline, set16_x hS hi hp hv hv16 hsg hlL hh hx, upd2, upd2]
end MSet2

-- all elements set on pages, class and reference side by side
def PG (i c : Nat) (pl tp pt fi fs bg onP onL setH fil fon beg : Rw) : Prop :=
  (∀ r, r < c → fil r = fi r ∧ fon r = fs r ∧ beg r = bg r ∧ (fs r = -1 ∨ ∃ e, e < i ∧ fs r = nI e)) ∧ ∀ e, e < i → onP e = pl e ∧ onL e = tp e ∧ setH e = pt e
section MA
variable {S : t_Script} {n L L1 : Nat}
theorem PG_row {i : Nat} {pl tp pt onP onL setH : Rw} {x y z : Int32} (h : ∀ e, e < i → onP e = pl e ∧ onL e = tp e ∧ setH e = pt e) : ∀ e, e < i + 1 → upd onP i x e = upd pl i x e ∧ upd onL i y e = upd tp i y e ∧ upd setH i z e = upd pt i z e := by
  intro e he
  by_cases k : e = i
  · subst k
    rw [pk_us, pk_us, pk_us, pk_us, pk_us, pk_us]
    exact ⟨rfl, rfl, rfl⟩
  · rw [pk_un k, pk_un k, pk_un k, pk_un k, pk_un k, pk_un k]
    exact h e (by omega)
theorem PG_page {i p : Nat} {fi fs bg fil fon beg : Rw} {x : Int32} (h : ∀ r, r < p + 1 → fil r = fi r ∧ fon r = fs r ∧ beg r = bg r ∧ (fs r = -1 ∨ ∃ e, e < i ∧ fs r = nI e)) : ∀ r, r < p + 1 → upd fil p x r = upd fi p x r ∧ upd fon p (if fon p = -1 then nI i else fon p) r = (if fs p = -1 then upd fs p (nI i) else fs) r ∧ upd beg p (beg p + 1) r = upd bg p (bg p + 1) r ∧ ((if fs p = -1 then upd fs p (nI i) else fs) r = -1 ∨ ∃ e, e < i + 1 ∧ (if fs p = -1 then upd fs p (nI i) else fs) r = nI e) := by
  intro r hr
  obtain ⟨a1, a2, a3, a4⟩ := h p (by omega)
  obtain ⟨b1, b2, b3, b4⟩ := h r hr
  by_cases k : r = p
  · subst k
    rw [pk_us, pk_us, pk_us, pk_us, pk_us, a2, a3]
    by_cases z : fs r = -1
    · rw [if_pos z, if_pos z, pk_us]
      exact ⟨rfl, rfl, rfl, Or.inr ⟨i, by omega, rfl⟩⟩
    · rw [if_neg z, if_neg z]
      refine ⟨rfl, rfl, rfl, ?_⟩
      rcases a4 with a4 | ⟨e, e1, e2⟩
      · exact absurd a4 z
      · exact Or.inr ⟨e, by omega, e2⟩
  · rw [pk_un k, pk_un k, pk_un k, pk_un k, pk_un k]
    have e : (if fs p = -1 then upd fs p (nI i) else fs) r = fs r := by
      by_cases z : fs p = -1
      · rw [if_pos z, pk_un k]
      · rw [if_neg z]
    rw [e]
    refine ⟨b1, b2, b3, ?_⟩
    rcases b4 with b4 | ⟨e, e1, e2⟩
    · exact Or.inl b4
    · exact Or.inr ⟨e, by omega, e2⟩
theorem PG_turn {i p : Nat} {fi fs bg fil fon beg : Rw} {x : Int32} (h : ∀ r, r < p → fil r = fi r ∧ fon r = fs r ∧ beg r = bg r ∧ (fs r = -1 ∨ ∃ e, e < i ∧ fs r = nI e)) : ∀ r, r < p + 1 → upd fil p x r = upd fi p x r ∧ upd fon p (-1) r = upd fs p (-1) r ∧ upd beg p 0 r = upd bg p 0 r ∧ (upd fs p (-1) r = -1 ∨ ∃ e, e < i ∧ upd fs p (-1) r = nI e) := by
  intro r hr
  by_cases k : r = p
  · subst k
    rw [pk_us, pk_us, pk_us, pk_us, pk_us, pk_us]
    exact ⟨rfl, rfl, rfl, Or.inl rfl⟩
  · rw [pk_un k, pk_un k, pk_un k, pk_un k, pk_un k, pk_un k]
    exact h r (by omega)
theorem set_two (hS : SOK S n L) (s past aside : Rw) (pasts : Int32) (text : Rw) (typed thr sp : Int32) (onP onL setH fil fon beg lab : Rw) (at' num : Int32) (hh : Int64) (hM : MR S s n L1) {i : Nat} (hi : i < n) {p q v b sg line : Nat} (hp : p < 60) (hq : q ≤ 60) (hv : X5_linesOf S (nI i) = nI v) (hv1 : 1 ≤ v) (hv16 : v ≤ 16) (hb : X5_blanksAhead S (nI i) = nI b) (hsg : sg = if S.2.2.1 i = 3 then 1 else 0) (hline : line = lineN q b) (hlL : line ≤ L) (hx : ¬ v ≤ L - line → 4 ≤ v ∧ sg ≤ L - line ∧ 2 ≤ L - line ∧ p + 1 < 60)
    (mk : Int32) (nd pl tp pt nu ex fi fs bg : Rw) (hfil : fil p = nI q) (hPG : PG i (p + 1) pl tp pt fi fs bg onP onL setH fil fon beg) :
    ∃ c q' sp' pl' tp' pt' fi' fs' bg' onP' onL' setH' fil' fon' beg', X1_setElement (nI (p + 1), mk, sp, nI L, nI q, nd, pl, tp, pt, nu, ex, fi, fs, bg) S (nI i) = (nI (c + 1), mk, sp', nI L, nI q', nd, pl', tp', pt', nu, ex, fi', fs', bg') ∧
      j_X7_sets_89 (nI i) (nI L) (s, past, aside, pasts, text, typed, thr, nI (p + 1), sp, onP, onL, setH, fil, fon, beg, lab, at', num, hh) (nI p) = some (s, past, aside, pasts, text, typed, thr, nI (c + 1), sp', onP', onL', setH', fil', fon', beg', lab, at', num, hh) ∧
      (c = p ∨ (c = p + 1 ∧ ¬ v ≤ L - line)) ∧ 1 ≤ q' ∧ q' ≤ L ∧ fi' c = nI q' ∧ PG (i + 1) (c + 1) pl' tp' pt' fi' fs' bg' onP' onL' setH' fil' fon' beg' := by
  have hL := hS.2.2.2.2.1
  have hL20 := hS.2.2.2.1
  have hi60 := hS.lt hi
  obtain ⟨h, hh2⟩ : ∃ h, h = hereN sg v (L - line) := ⟨_, rfl⟩
  have hsg1 : sg ≤ 1 := by rw [hsg]; split <;> omega
  have hvh : h ≤ v := by
    rw [hh2]; unfold hereN
    split
    · omega
    · split <;> omega
  have e1 := set_x hS hi hp hq hv hv16 hb hsg hline hlL hh2 (fun z => ⟨by have := (hx z).1; omega, (hx z).2.1, (hx z).2.2.2⟩) mk sp nd pl tp pt nu ex fi fs bg
  have e2 := set_t (M := (s, past, aside, pasts, text, typed, thr, nI (p + 1), sp, onP, onL, setH, fil, fon, beg, lab, at', num, hh)) hS hM hi hp hq hv hv16 hb hsg hline hlL hh2 (fun z => ⟨by have := (hx z).1; omega, (hx z).2.1⟩) hfil
  have e3 := set182_t s past aside pasts text typed thr sp onP onL setH fil fon beg lab at' num hh (i := i) (L := L) (p := p) (v := v) (line := line) (sg := sg) (h := h) hi60 hp (by omega) hvh
  rw [e3] at e2
  by_cases hc : v ≤ L - line
  · have hhv : h = v := by rw [hh2]; unfold hereN; rw [if_pos hc]
    rw [if_pos hc] at e1
    rw [if_pos (show v ≤ h by omega)] at e2
    exact ⟨p, line + h, _, _, _, _, _, _, _, _, _, _, _, _, _, e1, e2, Or.inl rfl, by omega, by omega, pk_us, PG_page hPG.1, PG_row hPG.2⟩
  · obtain ⟨x1, x2, x3, x4⟩ := hx hc
    have hhv : h ≤ v - 2 := by
      rw [hh2]; unfold hereN; rw [if_neg hc]
      split <;> omega
    rw [if_neg hc] at e1
    rw [if_neg (show ¬ v ≤ h by omega)] at e2
    exact ⟨p + 1, v - h + sg, _, _, _, _, _, _, _, _, _, _, _, _, _, e1, e2, Or.inr ⟨rfl, hc⟩, by omega, by omega, pk_us, PG_turn (PG_page hPG.1), PG_row hPG.2⟩
theorem sets_t0 (hS : SOK S n L) {M : t_Model} (hM : MR S M.1 n L1) {i p : Nat} (hi : i < n) (hp : p < 60) (hpm : M.2.2.2.2.2.2.2.1 = nI (p + 1)) (hfil : M.2.2.2.2.2.2.2.2.2.2.2.2.1 p = 0) : X7_sets M (nI i) (nI L) = j_X7_sets_89 (nI i) (nI L) M (nI p) := by
  have e31 : j_X7_sets_31 (nI i) (nI L) M (nI p) = j_X7_sets_89 (nI i) (nI L) M (nI p) := by
    unfold j_X7_sets_31 j_X7_sets_32 j_X7_sets_69 j_X7_sets_70
    simp only [zlet_e]
    rw [zix_nI (by omega) (by decide), nI_clamp (by omega), hfil, if_pos (by decide), if_pos trivial, if_pos trivial]
  unfold X7_sets
  simp only [zlet_e]
  rw [hpm, nI_pred, of_mk hS hM hi, Option.bind_some]
  by_cases hm : S.2.2.2.2.2.1 i = -1
  · rw [if_pos hm]; exact e31
  · rw [if_neg hm, zix_nI (by omega) (by decide), nI_clamp (by omega), hfil, if_pos (by decide)]; exact e31
theorem sets_t1 (hS : SOK S n L) {M : t_Model} (hM : MR S M.1 n L1) {nd : Rw} (hN : ∀ i, i < n → NDi S n nd i) {i p q b w : Nat} (hi : i < n) (hp : p < 60) (hpm : M.2.2.2.2.2.2.2.1 = nI (p + 1)) (hq1 : 1 ≤ q) (hqL : q ≤ L) (hfil : M.2.2.2.2.2.2.2.2.2.2.2.2.1 p = nI q) (hb : X5_blanksAhead S (nI i) = nI b) (hb2 : b ≤ 2) (hw : nd i = nI w) (hw2 : w ≤ 2000) :
    X7_sets M (nI i) (nI L) = if S.2.2.2.2.2.1 i = -1 ∧ b + w ≤ L - q then j_X7_sets_89 (nI i) (nI L) M (nI p) else (X7_newPage M).bind fun q4 => j_X7_sets_89 (nI i) (nI L) q4 (nI (p + 1)) := by
  have hL := hS.2.2.2.2.1
  have e82 : j_X7_sets_82 (nI i) (nI L) M (nI p) = (X7_newPage M).bind fun q4 => j_X7_sets_89 (nI i) (nI L) q4 (nI (p + 1)) := by
    unfold j_X7_sets_82
    simp only [zlet_e, nI_1]
  have e32 : ∀ z0 : Int32, z0 = 0 ∨ z0 = 1 → j_X7_sets_32 (nI i) (nI L) M (nI p) z0 = if z0 = 0 ∧ b + w ≤ L - q then j_X7_sets_89 (nI i) (nI L) M (nI p) else (X7_newPage M).bind fun q4 => j_X7_sets_89 (nI i) (nI L) q4 (nI (p + 1)) := by
    intro z0 hz
    unfold j_X7_sets_32 j_X7_sets_69 j_X7_sets_70
    simp only [zlet_e]
    rw [zix_nI (by omega) (by decide), nI_clamp (by omega), hfil, if_neg (nI_nle (by omega) (by omega)), blanks_t hS hM hi, Option.bind_some, need_t hS hM hN hi, Option.bind_some, zix_nI (by omega) (by decide), hb, hw, nI_add, pk_sub hqL, e82]
    by_cases hc : b + w ≤ L - q
    · rw [if_pos (nI_le hc (by omega))]
      rcases hz with hz | hz
      · subst hz; simp [hc]
      · subst hz; simp [hc]
    · rw [if_neg (nI_ge (show L - q < b + w by omega) (by omega))]
      rcases hz with hz | hz
      · subst hz; simp [hc]
      · subst hz; simp [hc]
  unfold X7_sets
  simp only [zlet_e]
  rw [hpm, nI_pred, of_mk hS hM hi, Option.bind_some]
  by_cases hm : S.2.2.2.2.2.1 i = -1
  · rw [if_pos hm]
    unfold j_X7_sets_31
    rw [e32 0 (Or.inl rfl)]
    by_cases hc : b + w ≤ L - q
    · rw [if_pos ⟨rfl, hc⟩, if_pos ⟨hm, hc⟩]
    · rw [if_neg (fun h => hc h.2), if_neg (fun h => hc h.2)]
  · rw [if_neg hm, zix_nI (by omega) (by decide), nI_clamp (by omega), hfil, if_neg (nI_nle (by omega) (by omega)), e32 1 (Or.inr rfl), if_neg (fun h => absurd h.1 (by decide)), if_neg (fun h => hm h.1)]
theorem must_x (hS : SOK S n L) {i q b w : Nat} (hi : i < n) {G : t_Pages} (hGL : G.2.2.2.1 = nI L) (hGq : G.2.2.2.2.1 = nI q) (hq1 : 1 ≤ q) (hqL : q ≤ L) (hb : X5_blanksAhead S (nI i) = nI b) (hb2 : b ≤ 2) (hw : G.2.2.2.2.2.1 i = nI w) (hw2 : w ≤ 2000) :
    X1_mustTurn G S (nI i) = if S.2.2.2.2.2.1 i = -1 ∧ b + w ≤ L - q then 0 else 1 := by
  have hL := hS.2.2.2.2.1
  have hi60 := hS.lt hi
  unfold X1_mustTurn
  simp only [zlet_e]
  rw [hGq, if_neg (nI_ne0 (by omega) (by omega)), rAt_nI (by decide) _ hi60, rAt_nI (by decide) _ hi60, hb, hw, nI_add, hGL, pk_sub hqL]
  by_cases hm : S.2.2.2.2.2.1 i = -1
  · rw [if_pos hm]
    by_cases hc : b + w ≤ L - q
    · rw [if_pos (nI_le hc (by omega)), if_pos ⟨hm, hc⟩]
    · rw [if_neg (nI_ge (by omega) (by omega)), if_neg (fun h => hc h.2)]
  · rw [if_neg hm, if_neg (fun h => hm h.1)]
end MA

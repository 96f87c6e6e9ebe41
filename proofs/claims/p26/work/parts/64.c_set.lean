-- one element set on a page, by the class and by the reference
def lineN (q b : Nat) : Nat := if q = 0 then 0 else q + b
section MSx
variable {p i : Nat} (mk sp lim Q X : Int32) (nd pl tp pt nu ex fi fs bg : Rw)
theorem fill_x (hp : p < 60) : X1_fill (nI (p + 1), mk, sp, lim, Q, nd, pl, tp, pt, nu, ex, fi, fs, bg) X = (nI (p + 1), mk, sp, lim, Q + X, nd, pl, tp, pt, nu, ex, upd fi p (Q + X), fs, bg) := by
  unfold X1_fill
  simp only [zlet]
  rw [nI_pred, rPut_nI (by decide) _ hp]
theorem turn_x (hp : p < 60) : X1_turnPage (nI p, mk, sp, lim, Q, nd, pl, tp, pt, nu, ex, fi, fs, bg) = (nI (p + 1), mk, sp, lim, 0, nd, pl, tp, pt, nu, ex, upd fi p 0, upd fs p (-1), upd bg p 0) := by
  unfold X1_turnPage
  simp only [zlet]
  rw [nI_1, rPut_nI (by decide) _ hp, rPut_nI (by decide) _ hp, rPut_nI (by decide) _ hp]
theorem note_x (hp : p < 60) (hi : i < 60) : X1_noteBegin (nI (p + 1), mk, sp, lim, Q, nd, pl, tp, pt, nu, ex, fi, fs, bg) (nI i) X = (nI (p + 1), mk, sp, lim, Q, nd, upd pl i (nI p), upd tp i Q, upd pt i X, nu, ex, fi, (if fs p = -1 then upd fs p (nI i) else fs), upd bg p (bg p + 1)) := by
  unfold X1_noteBegin
  simp only [zlet]
  rw [nI_pred, rPut_nI (by decide) _ hi, rPut_nI (by decide) _ hi, rPut_nI (by decide) _ hi, rPlus_nI (by decide) _ hp, rAt_nI (by decide) _ hp, rPut_nI (by decide) _ hp]
  by_cases h : fs p = -1
  · rw [if_pos h, if_pos h]
  · rw [if_neg h, if_neg h]
theorem over_x (kd : Int32) {sg r : Nat} (hp : p + 1 < 60) (hsg : sg = if kd = 3 then 1 else 0) : X1_carryOver (nI (p + 1), mk, sp, lim, Q, nd, pl, tp, pt, nu, ex, fi, fs, bg) kd (nI r) = (nI (p + 1 + 1), mk, sp + 1, lim, nI (r + sg), nd, pl, tp, pt, nu, ex, upd (upd fi p (Q + nI sg)) (p + 1) (nI (r + sg)), upd fs (p + 1) (-1), upd bg (p + 1) 0) := by
  have key : j_X1_carryOver_10 kd (nI r) (nI (p + 1), mk, sp, lim, Q, nd, pl, tp, pt, nu, ex, fi, fs, bg) (nI sg) = (nI (p + 1 + 1), mk, sp + 1, lim, nI (r + sg), nd, pl, tp, pt, nu, ex, upd (upd fi p (Q + nI sg)) (p + 1) (nI (r + sg)), upd fs (p + 1) (-1), upd bg (p + 1) 0) := by
    unfold j_X1_carryOver_10
    simp only [zlet]
    rw [fill_x _ _ _ _ _ _ _ _ _ _ _ _ _ _ (by omega), turn_x _ _ _ _ _ _ _ _ _ _ _ _ _ hp, fill_x _ _ _ _ _ _ _ _ _ _ _ _ _ _ hp, nI_add, Int32.zero_add, upd2, Nat.add_comm sg r]
  unfold X1_carryOver
  by_cases h : kd = 3
  · rw [if_pos h] at hsg ⊢
    subst hsg
    exact key
  · rw [if_neg h] at hsg ⊢
    subst hsg
    exact key
end MSx
section MSet
variable {S : t_Script} {n L L1 : Nat}
theorem set16_x (hS : SOK S n L) {i : Nat} (hi : i < n) {p v sg line h : Nat} (hp : p < 60) (hv : X5_linesOf S (nI i) = nI v) (hv16 : v ≤ 16) (hsg : sg = if S.2.2.1 i = 3 then 1 else 0) (hlL : line ≤ L) (hh : h = hereN sg v (L - line)) (hx : ¬ v ≤ L - line → 2 ≤ v ∧ sg ≤ L - line ∧ p + 1 < 60)
    (mk sp : Int32) (nd pl tp pt nu ex fi fs bg : Rw) :
    j_X1_setElement_16 S (nI i) (nI (p + 1), mk, sp, nI L, nI line, nd, pl, tp, pt, nu, ex, fi, fs, bg) =
      if v ≤ L - line then (nI (p + 1), mk, sp, nI L, nI (line + h), nd, upd pl i (nI p), upd tp i (nI line), upd pt i (nI h), nu, ex, upd fi p (nI (line + h)), (if fs p = -1 then upd fs p (nI i) else fs), upd bg p (bg p + 1))
      else (nI (p + 1 + 1), mk, sp + 1, nI L, nI (v - h + sg), nd, upd pl i (nI p), upd tp i (nI line), upd pt i (nI h), nu, ex, upd (upd fi p (nI (line + h + sg))) (p + 1) (nI (v - h + sg)), upd (if fs p = -1 then upd fs p (nI i) else fs) (p + 1) (-1), upd (upd bg p (bg p + 1)) (p + 1) 0) := by
  have hL := hS.2.2.2.2.1
  have hi60 := hS.lt hi
  have ef : X1_firstPart (S.2.2.1 i) (nI v) (nI L - nI line) = nI h := by
    rw [pk_sub hlL, hh]
    exact first_x (by omega) (by omega) hsg (fun z => ⟨(hx z).1, (hx z).2.1⟩)
  unfold j_X1_setElement_16
  simp only [zlet]
  rw [rAt_nI (by decide) _ hi60, hv, ef, note_x _ _ _ _ _ _ _ _ _ _ _ _ _ _ hp hi60, fill_x _ _ _ _ _ _ _ _ _ _ _ _ _ _ hp, nI_add]
  by_cases hc : v ≤ L - line
  · have hhv : h = v := by rw [hh]; unfold hereN; rw [if_pos hc]
    rw [if_pos hc, if_pos (show nI v ≤ nI h by rw [hhv]; exact nI_le (Nat.le_refl _) (by omega))]
  · obtain ⟨x1, x2, x3⟩ := hx hc
    have hhv : h ≤ v - 2 := by
      rw [hh]; unfold hereN; rw [if_neg hc]
      split <;> omega
    rw [if_neg hc, if_neg (nI_ge (show h < v by omega) (by omega)), pk_sub (by omega), over_x _ _ _ _ _ _ _ _ _ _ _ _ _ _ x3 hsg, upd2, nI_add]
end MSet
/-- not by rfl: the kernel would unfold the wrong side -/
theorem zlet_e {α β : Type} (x : α) (f : α → β) : zlet x f = f x := Eq.trans (Eq.refl _) (Eq.refl _)
section MSet2
variable {S : t_Script} {n L L1 : Nat}
theorem set_x (hS : SOK S n L) {i : Nat} (hi : i < n) {p q v b sg line h : Nat} (hp : p < 60) (hq : q ≤ 60) (hv : X5_linesOf S (nI i) = nI v) (hv16 : v ≤ 16) (hb : X5_blanksAhead S (nI i) = nI b) (hsg : sg = if S.2.2.1 i = 3 then 1 else 0) (hline : line = lineN q b) (hlL : line ≤ L) (hh : h = hereN sg v (L - line)) (hx : ¬ v ≤ L - line → 2 ≤ v ∧ sg ≤ L - line ∧ p + 1 < 60)
    (mk sp : Int32) (nd pl tp pt nu ex fi fs bg : Rw) :
    X1_setElement (nI (p + 1), mk, sp, nI L, nI q, nd, pl, tp, pt, nu, ex, fi, fs, bg) S (nI i) =
      if v ≤ L - line then (nI (p + 1), mk, sp, nI L, nI (line + h), nd, upd pl i (nI p), upd tp i (nI line), upd pt i (nI h), nu, ex, upd fi p (nI (line + h)), (if fs p = -1 then upd fs p (nI i) else fs), upd bg p (bg p + 1))
      else (nI (p + 1 + 1), mk, sp + 1, nI L, nI (v - h + sg), nd, upd pl i (nI p), upd tp i (nI line), upd pt i (nI h), nu, ex, upd (upd fi p (nI (line + h + sg))) (p + 1) (nI (v - h + sg)), upd (if fs p = -1 then upd fs p (nI i) else fs) (p + 1) (-1), upd (upd bg p (bg p + 1)) (p + 1) 0) := by
  unfold X1_setElement
  unfold lineN at hline
  by_cases h0 : q = 0
  · subst h0
    rw [if_pos rfl] at hline
    rw [if_pos (show nI 0 ≤ 0 by decide), ← hline]
    exact set16_x hS hi hp hv hv16 hsg hlL hh hx _ _ _ _ _ _ _ _ _ _ _
  · rw [if_neg h0] at hline
    rw [if_neg (nI_nle (by omega) (by omega))]
    simp only [zlet_e]
    rw [hb, fill_x _ _ _ _ _ _ _ _ _ _ _ _ _ _ hp, nI_add, ← hline, set16_x hS hi hp hv hv16 hsg hlL hh hx, upd2, upd2]
end MSet2

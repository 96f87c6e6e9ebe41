-- one element set on a page, by the class and by the reference
def lineN (q b : Nat) : Nat := if q = 0 then 0 else q + b
section MSx
variable {p i : Nat} (mk sp lim Q X : Int32) (nd pl tp pt nu ex fi fs bg : Rw)
theorem fill_x (hp : p < 60) : X1_fill (nI (p + 1), mk, sp, lim, Q, nd, pl, tp, pt, nu, ex, fi, fs, bg) X = (nI (p + 1), mk, sp, lim, Q + X, nd, pl, tp, pt, nu, ex, upd fi p (Q + X), fs, bg) := by
  unfold X1_fill
  simp only [zlet]
  rw [nI_pred, rPut_nI (by decide) _ hp]
theorem turn_x (hp : p < 60) : X1_turnPage (nI p, mk, sp, lim, Q, nd, pl, tp, pt, nu, ex, fi, fs, bg) = (nI (p + 1), mk, sp, lim, 0, nd, pl, tp, pt, nu, ex, upd fi p 0, upd fs p (-1), upd bg p 0) := by
  unfold X1_turnPage
  simp only [zlet]
  rw [nI_1, rPut_nI (by decide) _ hp, rPut_nI (by decide) _ hp, rPut_nI (by decide) _ hp]
theorem note_x (hp : p < 60) (hi : i < 60) : X1_noteBegin (nI (p + 1), mk, sp, lim, Q, nd, pl, tp, pt, nu, ex, fi, fs, bg) (nI i) X = (nI (p + 1), mk, sp, lim, Q, nd, upd pl i (nI p), upd tp i Q, upd pt i X, nu, ex, fi, (if fs p = -1 then upd fs p (nI i) else fs), upd bg p (bg p + 1)) := by
  unfold X1_noteBegin
  simp only [zlet]
  rw [nI_pred, rPut_nI (by decide) _ hi, rPut_nI (by decide) _ hi, rPut_nI (by decide) _ hi, rPlus_nI (by decide) _ hp, rAt_nI (by decide) _ hp, rPut_nI (by decide) _ hp]
  by_cases h : fs p = -1
  · rw [if_pos h, if_pos h]
  · rw [if_neg h, if_neg h]
theorem over_x (kd : Int32) {sg r : Nat} (hp : p + 1 < 60) (hsg : sg = if kd = 3 then 1 else 0) : X1_carryOver (nI (p + 1), mk, sp, lim, Q, nd, pl, tp, pt, nu, ex, fi, fs, bg) kd (nI r) = (nI (p + 1 + 1), mk, sp + 1, lim, nI (r + sg), nd, pl, tp, pt, nu, ex, upd (upd fi p (Q + nI sg)) (p + 1) (nI (r + sg)), upd fs (p + 1) (-1), upd bg (p + 1) 0) := by
  have key : j_X1_carryOver_10 kd (nI r) (nI (p + 1), mk, sp, lim, Q, nd, pl, tp, pt, nu, ex, fi, fs, bg) (nI sg) = (nI (p + 1 + 1), mk, sp + 1, lim, nI (r + sg), nd, pl, tp, pt, nu, ex, upd (upd fi p (Q + nI sg)) (p + 1) (nI (r + sg)), upd fs (p + 1) (-1), upd bg (p + 1) 0) := by
    unfold j_X1_carryOver_10
    simp only [zlet]
    rw [fill_x _ _ _ _ _ _ _ _ _ _ _ _ _ _ (by omega), turn_x _ _ _ _ _ _ _ _ _ _ _ _ _ hp, fill_x _ _ _ _ _ _ _ _ _ _ _ _ _ _ hp, nI_add, Int32.zero_add, upd2, Nat.add_comm sg r]
  unfold X1_carryOver
  by_cases h : kd = 3
  · rw [if_pos h] at hsg ⊢
    subst hsg
    exact key
  · rw [if_neg h] at hsg ⊢
    subst hsg
    exact key
end MSx
section MSet
variable {S : t_Script} {n L L1 : Nat}
theorem set16_x (hS : SOK S n L) {i : Nat} (hi : i < n) {p v sg line h : Nat} (hp : p < 60) (hv : X5_linesOf S (nI i) = nI v) (hv16 : v ≤ 16) (hsg : sg = if S.2.2.1 i = 3 then 1 else 0) (hlL : line ≤ L) (hh : h = hereN sg v (L - line)) (hx : ¬ v ≤ L - line → 2 ≤ v ∧ sg ≤ L - line ∧ p + 1 < 60)
    (mk sp : Int32) (nd pl tp pt nu ex fi fs bg : Rw) :
    j_X1_setElement_16 S (nI i) (nI (p + 1), mk, sp, nI L, nI line, nd, pl, tp, pt, nu, ex, fi, fs, bg) =
      if v ≤ L - line then (nI (p + 1), mk, sp, nI L, nI (line + h), nd, upd pl i (nI p), upd tp i (nI line), upd pt i (nI h), nu, ex, upd fi p (nI (line + h)), (if fs p = -1 then upd fs p (nI i) else fs), upd bg p (bg p + 1))
      else (nI (p + 1 + 1), mk, sp + 1, nI L, nI (v - h + sg), nd, upd pl i (nI p), upd tp i (nI line), upd pt i (nI h), nu, ex, upd (upd fi p (nI (line + h + sg))) (p + 1) (nI (v - h + sg)), upd (if fs p = -1 then upd fs p (nI i) else fs) (p + 1) (-1), upd (upd bg p (bg p + 1)) (p + 1) 0) := by
  have hL := hS.2.2.2.2.1
  have hi60 := hS.lt hi
  have ef : X1_firstPart (S.2.2.1 i) (nI v) (nI L - nI line) = nI h := by
    rw [pk_sub hlL, hh]
    exact first_x (by omega) (by omega) hsg (fun z => ⟨(hx z).1, (hx z).2.1⟩)
  unfold j_X1_setElement_16
  simp only [zlet]
  rw [rAt_nI (by decide) _ hi60, hv, ef, note_x _ _ _ _ _ _ _ _ _ _ _ _ _ _ hp hi60, fill_x _ _ _ _ _ _ _ _ _ _ _ _ _ _ hp, nI_add]
  by_cases hc : v ≤ L - line
  · have hhv : h = v := by rw [hh]; unfold hereN; rw [if_pos hc]
    rw [if_pos hc, if_pos (show nI v ≤ nI h by rw [hhv]; exact nI_le (Nat.le_refl _) (by omega))]
  · obtain ⟨x1, x2, x3⟩ := hx hc
    have hhv : h ≤ v - 2 := by
      rw [hh]; unfold hereN; rw [if_neg hc]
      split <;> omega
    rw [if_neg hc, if_neg (nI_ge (show h < v by omega) (by omega)), pk_sub (by omega), over_x _ _ _ _ _ _ _ _ _ _ _ _ _ _ x3 hsg, upd2, nI_add]
section MT
variable (s past aside : Rw) (pasts : Int32) (text : Rw) (typed thr sp : Int32) (onP onL setH fil fon beg lab : Rw) (at' num : Int32) (hh : Int64)
theorem page_t {p : Nat} (hp : p < 100) : X7_newPage (s, past, aside, pasts, text, typed, thr, nI p, sp, onP, onL, setH, fil, fon, beg, lab, at', num, hh) = some (s, past, aside, pasts, text, typed, thr, nI (p + 1), sp, onP, onL, setH, upd fil p 0, upd fon p (-1), upd beg p 0, lab, at', num, hh) := by
  unfold X7_newPage
  simp only [zlet]
  rw [zix_nI (by omega) (by decide), zix_nI (by omega) (by decide), zix_nI (by omega) (by decide), nI_clamp (by omega), nI_1]
theorem set232_t {i L p v line sg h : Nat} (z0 : Int32) (hp : p < 60) (hv16 : v ≤ 60) (hvh : h ≤ v) (hu : beg p + 1 = beg p + 1) : j_X7_sets_232 (nI i) (nI L) (s, past, aside, pasts, text, typed, thr, nI (p + 1), sp, onP, onL, setH, fil, fon, beg, lab, at', num, hh) (nI p) (nI v) (nI line) (nI sg) (nI h) z0 (nI p) = some (if v ≤ h then (s, past, aside, pasts, text, typed, thr, nI (p + 1), sp, onP, onL, setH, upd fil p (nI (line + h)), upd fon p z0, upd beg p (beg p + 1), lab, at', num, hh) else (s, past, aside, pasts, text, typed, thr, nI (p + 1 + 1), sp + 1, onP, onL, setH, upd (upd fil p (nI (line + h + sg))) (p + 1) (nI (v - h + sg)), upd (upd fon p z0) (p + 1) (-1), upd (upd beg p (beg p + 1)) (p + 1) 0, lab, at', num, hh)) := by
  unfold j_X7_sets_232
  simp only [zlet]
  rw [zix_nI (by omega) (by decide), zix_nI (by omega) (by decide), zix_nI (by omega) (by decide), zix_nI (by omega) (by decide), nI_clamp (by omega)]
  by_cases hc : v ≤ h
  · rw [if_pos hc, if_pos (nI_le hc (by omega)), nI_add]
  · rw [if_neg hc, if_neg (nI_ge (by omega) (by omega)), zix_nI (by omega) (by decide), zix_nI (by omega) (by decide), page_t _ _ _ _ _ _ _ _ _ _ _ _ _ _ _ _ _ _ (by omega), Option.bind_some]
    simp only []
    rw [nI_1, zix_nI (by omega) (by decide), nI_clamp (by omega), pk_us, upd2, upd2, nI_add, nI_add, pk_sub hvh, nI_add]
theorem set182_t {i L p v line sg h : Nat} (hi : i < 60) (hp : p < 60) (hv16 : v ≤ 60) (hvh : h ≤ v) : j_X7_sets_182 (nI i) (nI L) (s, past, aside, pasts, text, typed, thr, nI (p + 1), sp, onP, onL, setH, fil, fon, beg, lab, at', num, hh) (nI p) (nI v) (nI line) (nI sg) (nI h) = some (if v ≤ h then (s, past, aside, pasts, text, typed, thr, nI (p + 1), sp, upd onP i (nI p), upd onL i (nI line), upd setH i (nI h), upd fil p (nI (line + h)), upd fon p (if fon p = -1 then nI i else fon p), upd beg p (beg p + 1), lab, at', num, hh) else (s, past, aside, pasts, text, typed, thr, nI (p + 1 + 1), sp + 1, upd onP i (nI p), upd onL i (nI line), upd setH i (nI h), upd (upd fil p (nI (line + h + sg))) (p + 1) (nI (v - h + sg)), upd (upd fon p (if fon p = -1 then nI i else fon p)) (p + 1) (-1), upd (upd beg p (beg p + 1)) (p + 1) 0, lab, at', num, hh)) := by
  unfold j_X7_sets_182
  simp only [zlet]
  rw [zix_nI (by omega) (by decide), zix_nI (by omega) (by decide), zix_nI (by omega) (by decide), zix_nI (by omega) (by decide), zix_nI (by omega) (by decide), nI_clamp (by omega), nI_clamp (by omega)]
  by_cases hf : fon p = -1
  · rw [if_pos hf, if_pos hf]
    exact set232_t _ _ _ _ _ _ _ _ _ _ _ _ _ _ _ _ _ _ _ hp hv16 hvh rfl
  · rw [if_neg hf, if_neg hf]
    exact set232_t _ _ _ _ _ _ _ _ _ _ _ _ _ _ _ _ _ _ _ hp hv16 hvh rfl
end MT
end MSet

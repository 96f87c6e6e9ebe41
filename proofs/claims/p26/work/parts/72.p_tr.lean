-- labels where an element comes or goes, or is locked
/-- what the latest locked heading ahead of i tells -/
def fv (S : t_Script) (i : Nat) : Int32 × Int32 × Int32 := if xsN S.2.2.2.2.2.2.1 i = 0 then (0, 0, 0) else (S.2.2.2.2.2.2.2.1 (xsN S.2.2.2.2.2.2.1 i - 1), S.2.2.2.2.2.2.2.2.1 (xsN S.2.2.2.2.2.2.1 i - 1), S.2.2.2.2.2.2.2.2.2 (xsN S.2.2.2.2.2.2.1 i - 1))
theorem fv_s0 {S : t_Script} {i : Nat} (h : S.2.2.2.2.2.2.1 i = 0) : fv S (i + 1) = fv S i := by
  unfold fv
  rw [xs_s0 h]
theorem fv_s1 {S : t_Script} {i : Nat} (h : ¬ S.2.2.2.2.2.2.1 i = 0) : fv S (i + 1) = (S.2.2.2.2.2.2.2.1 i, S.2.2.2.2.2.2.2.2.1 i, S.2.2.2.2.2.2.2.2.2 i) := by
  unfold fv
  rw [xs_s1 h, if_neg (by omega), Nat.add_sub_cancel]
theorem fv_z (S : t_Script) : fv S 0 = (0, 0, 0) := by
  unfold fv
  exact if_pos rfl
def nx (S : t_Script) (n i : Nat) : Int32 := lmN S n (ysN S.2.2.2.2.2.2.1 n i)
theorem nx_n (S : t_Script) (n : Nat) : nx S n n = -1 := by
  unfold nx lmN
  rw [ys_n, if_neg (Nat.lt_irrefl _)]
theorem nx_s0 {S : t_Script} {n i : Nat} (hi : i < n) (h : S.2.2.2.2.2.2.1 i = 0) : nx S n i = nx S n (i + 1) := by
  unfold nx
  rw [ys_s0 hi h]
theorem nx_s1 {S : t_Script} {n i : Nat} (hi : i < n) (h : ¬ S.2.2.2.2.2.2.1 i = 0) : nx S n i = S.2.2.2.2.2.2.2.1 i := by
  unfold nx lmN
  rw [ys_s1 hi h, if_pos hi]
section TR
variable {S D : t_Script} {n n' L L' p : Nat}
theorem lab_v (hS : SOK S n L) {h : Nat} (hh : h < n) (hl : S.2.2.2.2.2.2.1 h = 0) :
    lbA S n h = (if lkN S.2.2.2.2.2.2.1 n = 0 then nI (ksN S.2.2.1 S.2.2.2.2.2.2.1 (h + 1)) else (fv S h).1) ∧
    lbB S n h = (if lkN S.2.2.2.2.2.2.1 n = 0 then 0 else if nx S n h = (fv S h).1 then (fv S h).2.1 else (fv S h).2.1 + nI (ksN S.2.2.1 S.2.2.2.2.2.2.1 (h + 1))) ∧
    lbC S n h = (if lkN S.2.2.2.2.2.2.1 n = 0 then 0 else if nx S n h = (fv S h).1 then (fv S h).2.2 + nI (ksN S.2.2.1 S.2.2.2.2.2.2.1 (h + 1)) else 0) := by
  have h0 : lkN S.2.2.2.2.2.2.1 n = 0 ↔ (xsN S.2.2.2.2.2.2.1 h = 0 ∧ ysN S.2.2.2.2.2.2.1 n h = n) := lk_none (by omega)
  have ea : (fv S h).1 = (if xsN S.2.2.2.2.2.2.1 h = 0 then 0 else S.2.2.2.2.2.2.2.1 (xsN S.2.2.2.2.2.2.1 h - 1)) := by unfold fv; split <;> rfl
  have eb : (fv S h).2.1 = (if xsN S.2.2.2.2.2.2.1 h = 0 then 0 else S.2.2.2.2.2.2.2.2.1 (xsN S.2.2.2.2.2.2.1 h - 1)) := by unfold fv; split <;> rfl
  have ec : (fv S h).2.2 = (if xsN S.2.2.2.2.2.2.1 h = 0 then 0 else S.2.2.2.2.2.2.2.2.2 (xsN S.2.2.2.2.2.2.1 h - 1)) := by unfold fv; split <;> rfl
  have ane : (fv S h).1 ≠ -1 := by
    rw [ea]
    by_cases hx : xsN S.2.2.2.2.2.2.1 h = 0
    · rw [if_pos hx]; decide
    · rw [if_neg hx]
      have := xs_le S.2.2.2.2.2.2.1 h
      exact (hS.e (show xsN S.2.2.2.2.2.2.1 h - 1 < n by omega)).2.2.2.2.2.2 (xs_lk S.2.2.2.2.2.2.1 h hx)
  have hi : (nx S n h = (fv S h).1) ↔ (ysN S.2.2.2.2.2.2.1 n h < n ∧ S.2.2.2.2.2.2.2.1 (ysN S.2.2.2.2.2.2.1 n h) = (fv S h).1) := by
    unfold nx lmN
    by_cases hy : ysN S.2.2.2.2.2.2.1 n h < n
    · rw [if_pos hy]; simp [hy]
    · rw [if_neg hy]; simp [hy]; exact fun e => ane e.symm
  refine ⟨?_, ?_, ?_⟩
  · unfold lbA
    rw [if_pos hl, ← ea]
    by_cases z : lkN S.2.2.2.2.2.2.1 n = 0
    · rw [if_pos z, if_pos (h0.mp z)]
    · rw [if_neg z, if_neg (fun h => z (h0.mpr h))]
  · unfold lbB
    rw [if_pos hl, ← ea, ← eb]
    by_cases z : lkN S.2.2.2.2.2.2.1 n = 0
    · rw [if_pos z, if_pos (h0.mp z)]
    · rw [if_neg z, if_neg (fun h => z (h0.mpr h))]
      by_cases w : nx S n h = (fv S h).1
      · rw [if_pos w, if_pos (hi.mp w)]
      · rw [if_neg w, if_neg (fun h => w (hi.mpr h))]
  · unfold lbC
    rw [if_pos hl, ← ea, ← ec]
    by_cases z : lkN S.2.2.2.2.2.2.1 n = 0
    · rw [if_pos z, if_pos (h0.mp z)]
    · rw [if_neg z, if_neg (fun h => z (h0.mpr h))]
      by_cases w : nx S n h = (fv S h).1
      · rw [if_pos w, if_pos (hi.mp w)]
      · rw [if_neg w, if_neg (fun h => w (hi.mpr h))]
def LQ (S : t_Script) (n h : Nat) (D : t_Script) (n' h' : Nat) : Prop := lbA D n' h' = lbA S n h ∧ lbB D n' h' = lbB S n h ∧ lbC D n' h' = lbC S n h
theorem lab_eq (hS : SOK S n L) (hD : SOK D n' L') {h h' : Nat} (hh : h < n) (hh' : h' < n') (a : D.2.2.2.2.2.2.1 h' = 0 ↔ S.2.2.2.2.2.2.1 h = 0) (b : S.2.2.2.2.2.2.1 h ≠ 0 → D.2.2.2.2.2.2.2.1 h' = S.2.2.2.2.2.2.2.1 h ∧ D.2.2.2.2.2.2.2.2.1 h' = S.2.2.2.2.2.2.2.2.1 h ∧ D.2.2.2.2.2.2.2.2.2 h' = S.2.2.2.2.2.2.2.2.2 h)
    (c : S.2.2.2.2.2.2.1 h = 0 → (lkN D.2.2.2.2.2.2.1 n' = 0 ↔ lkN S.2.2.2.2.2.2.1 n = 0) ∧ fv D h' = fv S h ∧ ksN D.2.2.1 D.2.2.2.2.2.2.1 (h' + 1) = ksN S.2.2.1 S.2.2.2.2.2.2.1 (h + 1) ∧ nx D n' h' = nx S n h) : LQ S n h D n' h' := by
  by_cases hl : S.2.2.2.2.2.2.1 h = 0
  · obtain ⟨c1, c2, c3, c4⟩ := c hl
    obtain ⟨v1, v2, v3⟩ := lab_v hS hh hl
    obtain ⟨w1, w2, w3⟩ := lab_v hD hh' (a.mpr hl)
    unfold LQ
    rw [v1, v2, v3, w1, w2, w3, c2, c3, c4]
    by_cases z : lkN S.2.2.2.2.2.2.1 n = 0
    · rw [if_pos z, if_pos z, if_pos z, if_pos (c1.mpr z), if_pos (c1.mpr z), if_pos (c1.mpr z)]
      exact ⟨rfl, rfl, rfl⟩
    · have z' : ¬ lkN D.2.2.2.2.2.2.1 n' = 0 := fun h => z (c1.mp h)
      rw [if_neg z, if_neg z, if_neg z, if_neg z', if_neg z', if_neg z']
      exact ⟨rfl, rfl, rfl⟩
  · have hl' : ¬ D.2.2.2.2.2.2.1 h' = 0 := fun e => hl (a.mp e)
    obtain ⟨b1, b2, b3⟩ := b hl
    unfold LQ lbA lbB lbC
    rw [if_neg hl, if_neg hl, if_neg hl, if_neg hl', if_neg hl', if_neg hl']
    exact ⟨b1, b2, b3⟩
/-- a road of headings of S into those of D, labels kept -/
theorem DUP_map (f : Nat → Nat) (h1 : ∀ h, h < n → S.2.2.1 h = 0 → f h < n' ∧ D.2.2.1 (f h) = 0 ∧ LQ S n h D n' (f h)) (h2 : ∀ h k, h < k → k < n → S.2.2.1 h = 0 → S.2.2.1 k = 0 → f h < f k) (hd : DUP S n) : DUP D n' := by
  obtain ⟨h, k, a1, a2, a3, a4, a5, a6, a7⟩ := hd
  obtain ⟨b1, b2, b3, b4, b5⟩ := h1 h a2 a3
  obtain ⟨c1, c2, c3, c4, c5⟩ := h1 k (by omega) a4
  refine ⟨f h, f k, h2 k h a1 a2 a4 a3, b1, b2, c2, ?_, ?_, ?_⟩
  · rw [b3, c3]; exact a5
  · rw [b4, c4]; exact a6
  · rw [b5, c5]; exact a7
/-- the same elements, as far as labels see -/
def LEq (S D : t_Script) (n : Nat) : Prop := ∀ i, i < n → D.2.2.1 i = S.2.2.1 i ∧ (D.2.2.2.2.2.2.1 i = 0 ↔ S.2.2.2.2.2.2.1 i = 0) ∧ (S.2.2.2.2.2.2.1 i ≠ 0 → D.2.2.2.2.2.2.2.1 i = S.2.2.2.2.2.2.2.1 i ∧ D.2.2.2.2.2.2.2.2.1 i = S.2.2.2.2.2.2.2.2.1 i ∧ D.2.2.2.2.2.2.2.2.2 i = S.2.2.2.2.2.2.2.2.2 i)
theorem leq_lo (h : LEq S D n) : ∀ i, i ≤ n → lkN D.2.2.2.2.2.2.1 i = lkN S.2.2.2.2.2.2.1 i ∧ hcN D.2.2.1 i = hcN S.2.2.1 i ∧ fv D i = fv S i ∧ ksN D.2.2.1 D.2.2.2.2.2.2.1 i = ksN S.2.2.1 S.2.2.2.2.2.2.1 i := by
  intro i
  induction i with
  | zero => intro _; exact ⟨rfl, rfl, by rw [fv_z, fv_z], rfl⟩
  | succ i ih =>
    intro hi
    obtain ⟨a1, a2, a3, a4⟩ := ih (by omega)
    obtain ⟨r1, r2, r3⟩ := h i (by omega)
    have eh : hcN D.2.2.1 (i + 1) = hcN S.2.2.1 (i + 1) := by
      by_cases k : S.2.2.1 i = 0
      · rw [hc_s0 k, hc_s0 (r1.trans k), a2]
      · rw [hc_s1 k, hc_s1 (by rw [r1]; exact k), a2]
    by_cases hl : S.2.2.2.2.2.2.1 i = 0
    · have hl' := r2.mpr hl
      refine ⟨by rw [lk_s0 hl, lk_s0 hl', a1], eh, by rw [fv_s0 hl, fv_s0 hl', a3], ?_⟩
      by_cases k : S.2.2.1 i = 0
      · rw [ks_s0 hl k, ks_s0 hl' (r1.trans k), a4]
      · rw [ks_s2 hl k, ks_s2 hl' (by rw [r1]; exact k), a4]
    · have hl' : ¬ D.2.2.2.2.2.2.1 i = 0 := fun e => hl (r2.mp e)
      obtain ⟨q1, q2, q3⟩ := r3 hl
      exact ⟨by rw [lk_s1 hl, lk_s1 hl', a1], eh, by rw [fv_s1 hl, fv_s1 hl', q1, q2, q3], by rw [ks_s1 hl, ks_s1 hl']⟩
theorem leq_nx (h : LEq S D n) : ∀ d i, n - i = d → i ≤ n → nx D n i = nx S n i := by
  intro d
  induction d with
  | zero => intro i h1 h2; rw [show i = n by omega, nx_n, nx_n]
  | succ d ih =>
    intro i h1 h2
    obtain ⟨r1, r2, r3⟩ := h i (by omega)
    by_cases hl : S.2.2.2.2.2.2.1 i = 0
    · rw [nx_s0 (by omega) hl, nx_s0 (by omega) (r2.mpr hl)]
      exact ih (i + 1) (by omega) (by omega)
    · rw [nx_s1 (by omega) hl, nx_s1 (by omega) (fun e => hl (r2.mp e))]
      exact (r3 hl).1
theorem leq_lab (hS : SOK S n L) (hD : SOK D n L') (h : LEq S D n) {i : Nat} (hi : i < n) : LQ S n i D n i := by
  obtain ⟨a1, a2, a3, a4⟩ := leq_lo h i (by omega)
  obtain ⟨b1, b2, b3, b4⟩ := leq_lo h (i + 1) (by omega)
  obtain ⟨c1, -, -, -⟩ := leq_lo h n (Nat.le_refl _)
  exact lab_eq hS hD hi hi (h i hi).2.1 (h i hi).2.2 (fun _ => ⟨by rw [c1], a3, b4, leq_nx h _ i rfl (by omega)⟩)
theorem LEq.sym (h : LEq S D n) : LEq D S n := fun i hi => ⟨(h i hi).1.symm, (h i hi).2.1.symm, fun e => by
  obtain ⟨q1, q2, q3⟩ := (h i hi).2.2 (fun e2 => e ((h i hi).2.1.mpr e2))
  exact ⟨q1.symm, q2.symm, q3.symm⟩⟩
theorem leq_dup (hS : SOK S n L) (hD : SOK D n L') (h : LEq S D n) (hd : DUP D n) : DUP S n :=
  DUP_map (fun h => h) (fun i hi hk => ⟨hi, by rw [← (h i hi).1]; exact hk, leq_lab hD hS h.sym hi⟩) (fun _ _ a _ _ _ => a) hd
/-- D is S with one element more, at place p, that is not locked -/
def INS (S D : t_Script) (n p : Nat) : Prop := p ≤ n ∧ (∀ i, i < p → RowEq S D i i) ∧ (∀ i, p ≤ i → i < n → RowEq S D i (i + 1)) ∧ D.2.2.2.2.2.2.1 p = 0
theorem ins_lo (h : INS S D n p) : ∀ i, i ≤ p → lkN D.2.2.2.2.2.2.1 i = lkN S.2.2.2.2.2.2.1 i ∧ hcN D.2.2.1 i = hcN S.2.2.1 i ∧ fv D i = fv S i ∧ ksN D.2.2.1 D.2.2.2.2.2.2.1 i = ksN S.2.2.1 S.2.2.2.2.2.2.1 i :=
  leq_lo (S := S) (D := D) (n := p) (fun i hi => by
    obtain ⟨r1, r2, r3, r4, r5, r6, r7⟩ := h.2.1 i hi
    exact ⟨r1, by rw [r4], fun _ => ⟨r5, r6, r7⟩⟩)
theorem ins_hi (h : INS S D n p) : ∀ d, p + d ≤ n → lkN D.2.2.2.2.2.2.1 (p + d + 1) = lkN S.2.2.2.2.2.2.1 (p + d) ∧ fv D (p + d + 1) = fv S (p + d) := by
  intro d
  induction d with
  | zero =>
    intro _
    obtain ⟨a1, a2, a3, a4⟩ := ins_lo h p (Nat.le_refl _)
    simp only [Nat.add_zero]
    exact ⟨by rw [lk_s0 h.2.2.2, a1], by rw [fv_s0 h.2.2.2, a3]⟩
  | succ d ih =>
    intro hd
    obtain ⟨a1, a2⟩ := ih (by omega)
    obtain ⟨r1, r2, r3, r4, r5, r6, r7⟩ := h.2.2.1 (p + d) (by omega) (by omega)
    rw [show p + (d + 1) = (p + d) + 1 by omega]
    by_cases hl : S.2.2.2.2.2.2.1 (p + d) = 0
    · have hl' : D.2.2.2.2.2.2.1 (p + d + 1) = 0 := r4.trans hl
      exact ⟨by rw [lk_s0 hl, lk_s0 hl', a1], by rw [fv_s0 hl, fv_s0 hl', a2]⟩
    · have hl' : ¬ D.2.2.2.2.2.2.1 (p + d + 1) = 0 := by rw [r4]; exact hl
      exact ⟨by rw [lk_s1 hl, lk_s1 hl', a1], by rw [fv_s1 hl, fv_s1 hl', r5, r6, r7]⟩
theorem ins_nxh (h : INS S D n p) : ∀ d i, n - i = d → p ≤ i → i ≤ n → nx D (n + 1) (i + 1) = nx S n i := by
  intro d
  induction d with
  | zero => intro i h1 h2 h3; rw [show i = n by omega, nx_n, nx_n]
  | succ d ih =>
    intro i h1 h2 h3
    obtain ⟨r1, r2, r3, r4, r5, r6, r7⟩ := h.2.2.1 i h2 (by omega)
    by_cases hl : S.2.2.2.2.2.2.1 i = 0
    · rw [nx_s0 (by omega) hl, nx_s0 (by omega) (r4.trans hl)]
      exact ih (i + 1) (by omega) (by omega) (by omega)
    · rw [nx_s1 (by omega) hl, nx_s1 (by omega) (by rw [r4]; exact hl)]
      exact r5
theorem ins_nxl (h : INS S D n p) : ∀ d i, p - i = d → i ≤ p → nx D (n + 1) i = nx S n i := by
  have hp := h.1
  intro d
  induction d with
  | zero =>
    intro i h1 h2
    rw [show i = p by omega, nx_s0 (by omega) h.2.2.2]
    exact ins_nxh h _ p rfl (Nat.le_refl _) hp
  | succ d ih =>
    intro i h1 h2
    obtain ⟨r1, r2, r3, r4, r5, r6, r7⟩ := h.2.1 i (by omega)
    by_cases hl : S.2.2.2.2.2.2.1 i = 0
    · rw [nx_s0 (by omega) hl, nx_s0 (by omega) (r4.trans hl)]
      exact ih (i + 1) (by omega) (by omega)
    · rw [nx_s1 (by omega) hl, nx_s1 (by omega) (by rw [r4]; exact hl)]
      exact r5
theorem ins_any (h : INS S D n p) : lkN D.2.2.2.2.2.2.1 (n + 1) = lkN S.2.2.2.2.2.2.1 n := by
  have := (ins_hi h (n - p) (by have := h.1; omega)).1
  rw [show p + (n - p) = n by have := h.1; omega] at this
  exact this
/-- an element that is no heading: the counts behind it stay -/
theorem ins_k0 (h : INS S D n p) (hk : ¬ D.2.2.1 p = 0) : ∀ d, p + d ≤ n → ksN D.2.2.1 D.2.2.2.2.2.2.1 (p + d + 1) = ksN S.2.2.1 S.2.2.2.2.2.2.1 (p + d) ∧ hcN D.2.2.1 (p + d + 1) = hcN S.2.2.1 (p + d) := by
  intro d
  induction d with
  | zero =>
    intro _
    obtain ⟨a1, a2, a3, a4⟩ := ins_lo h p (Nat.le_refl _)
    simp only [Nat.add_zero]
    exact ⟨by rw [ks_s2 h.2.2.2 hk, a4], by rw [hc_s1 hk, a2]⟩
  | succ d ih =>
    intro hd
    obtain ⟨a1, a2⟩ := ih (by omega)
    obtain ⟨r1, r2, r3, r4, r5, r6, r7⟩ := h.2.2.1 (p + d) (by omega) (by omega)
    rw [show p + (d + 1) = (p + d) + 1 by omega]
    have eh : hcN D.2.2.1 (p + d + 1 + 1) = hcN S.2.2.1 (p + d + 1) := by
      by_cases k : S.2.2.1 (p + d) = 0
      · rw [hc_s0 k, hc_s0 (r1.trans k), a2]
      · rw [hc_s1 k, hc_s1 (by rw [r1]; exact k), a2]
    refine ⟨?_, eh⟩
    by_cases hl : S.2.2.2.2.2.2.1 (p + d) = 0
    · have hl' : D.2.2.2.2.2.2.1 (p + d + 1) = 0 := r4.trans hl
      by_cases k : S.2.2.1 (p + d) = 0
      · rw [ks_s0 hl k, ks_s0 hl' (r1.trans k), a1]
      · rw [ks_s2 hl k, ks_s2 hl' (by rw [r1]; exact k), a1]
    · rw [ks_s1 hl, ks_s1 (by rw [r4]; exact hl)]
/-- a heading that is not locked: behind it they are one more, up to the next locked one -/
theorem ins_k1 (h : INS S D n p) (hk : D.2.2.1 p = 0) : ∀ d, p + d ≤ n → ksN D.2.2.1 D.2.2.2.2.2.2.1 (p + d + 1) = (if xsN S.2.2.2.2.2.2.1 (p + d) ≤ p then ksN S.2.2.1 S.2.2.2.2.2.2.1 (p + d) + 1 else ksN S.2.2.1 S.2.2.2.2.2.2.1 (p + d)) ∧ hcN D.2.2.1 (p + d + 1) = hcN S.2.2.1 (p + d) + 1 := by
  intro d
  induction d with
  | zero =>
    intro _
    obtain ⟨a1, a2, a3, a4⟩ := ins_lo h p (Nat.le_refl _)
    simp only [Nat.add_zero]
    exact ⟨by rw [ks_s0 h.2.2.2 hk, a4, if_pos (xs_le _ _)], by rw [hc_s0 hk, a2]⟩
  | succ d ih =>
    intro hd
    obtain ⟨a1, a2⟩ := ih (by omega)
    obtain ⟨r1, r2, r3, r4, r5, r6, r7⟩ := h.2.2.1 (p + d) (by omega) (by omega)
    rw [show p + (d + 1) = (p + d) + 1 by omega]
    have eh : hcN D.2.2.1 (p + d + 1 + 1) = hcN S.2.2.1 (p + d + 1) + 1 := by
      by_cases k : S.2.2.1 (p + d) = 0
      · rw [hc_s0 k, hc_s0 (r1.trans k), a2]
      · rw [hc_s1 k, hc_s1 (by rw [r1]; exact k), a2]
    refine ⟨?_, eh⟩
    by_cases hl : S.2.2.2.2.2.2.1 (p + d) = 0
    · have hl' : D.2.2.2.2.2.2.1 (p + d + 1) = 0 := r4.trans hl
      rw [xs_s0 hl]
      by_cases k : S.2.2.1 (p + d) = 0
      · rw [ks_s0 hl k, ks_s0 hl' (r1.trans k), a1]
        split <;> rfl
      · rw [ks_s2 hl k, ks_s2 hl' (by rw [r1]; exact k), a1]
    · rw [xs_s1 hl, if_neg (by omega), ks_s1 hl, ks_s1 (by rw [r4]; exact hl)]
theorem ins_lab_lo (hS : SOK S n L) (hD : SOK D (n + 1) L') (h : INS S D n p) {i : Nat} (hi : i < p) : LQ S n i D (n + 1) i := by
  have hp := h.1
  obtain ⟨r1, r2, r3, r4, r5, r6, r7⟩ := h.2.1 i hi
  exact lab_eq hS hD (by omega) (by omega) (by rw [r4]) (fun _ => ⟨r5, r6, r7⟩) (fun _ => ⟨by rw [ins_any h], (ins_lo h i (by omega)).2.2.1, (ins_lo h (i + 1) (by omega)).2.2.2, ins_nxl h _ i rfl (by omega)⟩)
theorem ins_lab_hi (hS : SOK S n L) (hD : SOK D (n + 1) L') (h : INS S D n p) {i : Nat} (h1 : p ≤ i) (hi : i < n) (hk : S.2.2.2.2.2.2.1 i = 0 → ksN D.2.2.1 D.2.2.2.2.2.2.1 (i + 1 + 1) = ksN S.2.2.1 S.2.2.2.2.2.2.1 (i + 1)) : LQ S n i D (n + 1) (i + 1) := by
  obtain ⟨r1, r2, r3, r4, r5, r6, r7⟩ := h.2.2.1 i h1 hi
  have e := ins_hi h (i - p) (by omega)
  rw [show p + (i - p) = i by omega] at e
  exact lab_eq hS hD hi (by omega) (by rw [r4]) (fun _ => ⟨r5, r6, r7⟩) (fun hl => ⟨by rw [ins_any h], e.2, hk hl, ins_nxh h _ i rfl h1 (by omega)⟩)
/-- an element that is no heading comes or goes: twins stay what they are -/
theorem ins_dup0 (hS : SOK S n L) (hD : SOK D (n + 1) L') (h : INS S D n p) (hk : ¬ D.2.2.1 p = 0) : DUP S n → DUP D (n + 1) := by
  refine DUP_map (fun i => if i < p then i else i + 1) (fun i hi hk2 => ?_) (fun i j a b _ _ => ?_)
  · by_cases c : i < p
    · obtain ⟨r1, -⟩ := h.2.1 i c
      simp only [if_pos c]
      exact ⟨by omega, r1.trans hk2, ins_lab_lo hS hD h c⟩
    · obtain ⟨r1, -⟩ := h.2.2.1 i (by omega) hi
      have e := ins_k0 h hk (i + 1 - p) (by omega)
      rw [show p + (i + 1 - p) = i + 1 by omega] at e
      simp only [if_neg c]
      exact ⟨by omega, r1.trans hk2, ins_lab_hi hS hD h (by omega) hi (fun _ => e.1)⟩
  · show (if i < p then i else i + 1) < (if j < p then j else j + 1)
    split <;> split <;> omega
theorem ins_dup0' (hS : SOK S n L) (hD : SOK D (n + 1) L') (h : INS S D n p) (hk : ¬ D.2.2.1 p = 0) : DUP D (n + 1) → DUP S n := by
  have sym : ∀ {i j : Nat}, LQ S n i D (n + 1) j → LQ D (n + 1) j S n i := fun w => ⟨w.1.symm, w.2.1.symm, w.2.2.symm⟩
  refine DUP_map (fun i => if i < p then i else i - 1) (fun i hi hk2 => ?_) (fun i j a b hi hj => ?_)
  · by_cases c : i < p
    · obtain ⟨r1, -⟩ := h.2.1 i c
      simp only [if_pos c]
      have hp := h.1
      exact ⟨by omega, r1.symm.trans hk2, sym (ins_lab_lo hS hD h c)⟩
    · have c2 : i ≠ p := fun e => hk (by rw [← e]; exact hk2)
      obtain ⟨j, rfl⟩ : ∃ j, i = j + 1 := ⟨i - 1, by omega⟩
      obtain ⟨r1, -⟩ := h.2.2.1 j (by omega) (by omega)
      have e := ins_k0 h hk (j + 1 - p) (by omega)
      rw [show p + (j + 1 - p) = j + 1 by omega] at e
      simp only [if_neg c, Nat.add_sub_cancel]
      exact ⟨by omega, r1.symm.trans hk2, sym (ins_lab_hi hS hD h (by omega) (by omega) (fun _ => e.1))⟩
  · have c1 : i ≠ p := fun e => hk (by rw [← e]; exact hi)
    have c2 : j ≠ p := fun e => hk (by rw [← e]; exact hj)
    show (if i < p then i else i - 1) < (if j < p then j else j - 1)
    split <;> split <;> omega
theorem xs_un {lk : Rw} {a : Nat} : ∀ {b : Nat}, xsN lk b ≤ a → ∀ i, a ≤ i → i < b → lk i = 0 := by
  intro b
  induction b with
  | zero => intro _ i _ h; exact absurd h (Nat.not_lt_zero _)
  | succ b ih =>
    intro h i h1 h2
    by_cases hl : lk b = 0
    · rw [xs_s0 hl] at h
      by_cases e : i = b
      · rw [e]; exact hl
      · exact ih h i h1 (by omega)
    · rw [xs_s1 hl] at h
      omega
/-- no locked one from a to b: what is told of the latest one stays, and the next one; the headings are counted -/
theorem run_eq {a : Nat} : ∀ d, a + d ≤ n → (∀ i, a ≤ i → i < a + d → S.2.2.2.2.2.2.1 i = 0) → fv S (a + d) = fv S a ∧ nx S n a = nx S n (a + d) ∧ ksN S.2.2.1 S.2.2.2.2.2.2.1 (a + d) + hcN S.2.2.1 a = ksN S.2.2.1 S.2.2.2.2.2.2.1 a + hcN S.2.2.1 (a + d) := by
  intro d
  induction d with
  | zero => intro _ _; exact ⟨rfl, rfl, rfl⟩
  | succ d ih =>
    intro h1 h2
    obtain ⟨a1, a2, a3⟩ := ih (by omega) (fun i x y => h2 i x (by omega))
    have hl := h2 (a + d) (by omega) (by omega)
    rw [show a + (d + 1) = a + d + 1 by omega]
    refine ⟨by rw [fv_s0 hl, a1], by rw [a2, nx_s0 (by omega) hl], ?_⟩
    by_cases k : S.2.2.1 (a + d) = 0
    · rw [ks_s0 hl k, hc_s0 k]; omega
    · rw [ks_s2 hl k, hc_s1 k]; exact a3
/-- a heading that is not locked goes: no twins come of it -/
theorem ins_dup1 (hS : SOK S n L) (hD : SOK D (n + 1) L') (h : INS S D n p) (hk : D.2.2.1 p = 0) : DUP S n → DUP D (n + 1) := by
  have hp := h.1
  have row : ∀ i, p ≤ i → i < n → RowEq S D i (i + 1) := h.2.2.1
  -- the heading of D for heading i of S
  have key : ∀ i, i < n → S.2.2.1 i = 0 → ∃ j, j < n + 1 ∧ D.2.2.1 j = 0 ∧ LQ S n i D (n + 1) j ∧ ((i < p ∧ j = i) ∨ (p ≤ i ∧ xsN S.2.2.2.2.2.2.1 (i + 1) ≤ p ∧ p ≤ j ∧ j ≤ i ∧ hcN D.2.2.1 j = hcN S.2.2.1 i) ∨ (p ≤ i ∧ ¬ xsN S.2.2.2.2.2.2.1 (i + 1) ≤ p ∧ j = i + 1)) := by
    intro i hi hki
    by_cases c : i < p
    · obtain ⟨r1, -⟩ := h.2.1 i c
      exact ⟨i, by omega, r1.trans hki, ins_lab_lo hS hD h c, Or.inl ⟨c, rfl⟩⟩
    · obtain ⟨r1, -⟩ := row i (by omega) hi
      have e := ins_k1 h hk (i + 1 - p) (by omega)
      rw [show p + (i + 1 - p) = i + 1 by omega] at e
      by_cases x : xsN S.2.2.2.2.2.2.1 (i + 1) ≤ p
      · have un := xs_un x
        have e0 := ins_k1 h hk (i - p) (by omega)
        rw [show p + (i - p) = i by omega] at e0
        obtain ⟨j, j1, j2, j3⟩ := hc_ex (kd := D.2.2.1) (s := hcN S.2.2.1 i) (n := i + 1) (by rw [e0.2]; omega)
        have hpj : p ≤ j := by
          by_cases z : p ≤ j
          · exact z
          · exfalso
            have := hc_lt (show j < p by omega) j2
            have m := hc_mono S.2.2.1 (show p ≤ i by omega)
            rw [(ins_lo h p (Nat.le_refl _)).2.1] at this
            omega
        have unD : ∀ t, p ≤ t → t < i + 1 → D.2.2.2.2.2.2.1 t = 0 := by
          intro t t1 t2
          by_cases z : t = p
          · rw [z]; exact h.2.2.2
          · have r4 := (row (t - 1) (by omega) (by omega)).2.2.2.1
            rw [show t - 1 + 1 = t by omega] at r4
            exact r4.trans (un (t - 1) (by omega) (by omega))
        have hli := un i (by omega) (by omega)
        -- in D from p to j and on to i + 1, in S from p to i + 1
        obtain ⟨a1, a2, a3⟩ := run_eq (S := D) (n := n + 1) (a := p) (j - p) (by omega) (fun t t1 t2 => unD t t1 (by omega))
        obtain ⟨b1, b2, b3⟩ := run_eq (S := D) (n := n + 1) (a := j) (i + 1 - j) (by omega) (fun t t1 t2 => unD t (by omega) (by omega))
        obtain ⟨c1, c2, c3⟩ := run_eq (S := S) (n := n) (a := p) (i - p) (by omega) (fun t t1 t2 => un t t1 (by omega))
        rw [show p + (j - p) = j by omega] at a1 a2 a3
        rw [show j + (i + 1 - j) = i + 1 by omega] at b1 b2 b3
        rw [show p + (i - p) = i by omega] at c1 c2 c3
        obtain ⟨q1, q2, q3, q4⟩ := ins_lo h p (Nat.le_refl _)
        refine ⟨j, by omega, j2, ?_, Or.inr (Or.inl ⟨by omega, x, hpj, by omega, j3⟩)⟩
        refine lab_eq hS hD hi (by omega) ⟨fun _ => hli, fun _ => unD j hpj (by omega)⟩ (fun z => absurd hli z) (fun _ => ⟨by rw [ins_any h], by rw [a1, q3, c1], ?_, ?_⟩)
        · rw [ks_s0 (unD j hpj (by omega)) j2, ks_s0 hli hki]
          omega
        · rw [b2]
          exact ins_nxh h _ i rfl (by omega) (by omega)
      · rw [if_neg x] at e
        exact ⟨i + 1, by omega, r1.trans hki, ins_lab_hi hS hD h (by omega) hi (fun _ => e.1), Or.inr (Or.inr ⟨by omega, x, rfl⟩)⟩
  obtain ⟨f, hf⟩ : ∃ f : Nat → Nat, ∀ i, i < n → S.2.2.1 i = 0 → f i < n + 1 ∧ D.2.2.1 (f i) = 0 ∧ LQ S n i D (n + 1) (f i) ∧ ((i < p ∧ f i = i) ∨ (p ≤ i ∧ xsN S.2.2.2.2.2.2.1 (i + 1) ≤ p ∧ p ≤ f i ∧ f i ≤ i ∧ hcN D.2.2.1 (f i) = hcN S.2.2.1 i) ∨ (p ≤ i ∧ ¬ xsN S.2.2.2.2.2.2.1 (i + 1) ≤ p ∧ f i = i + 1)) := by
    have k2 : ∀ i, ∃ j, i < n → S.2.2.1 i = 0 → j < n + 1 ∧ D.2.2.1 j = 0 ∧ LQ S n i D (n + 1) j ∧ ((i < p ∧ j = i) ∨ (p ≤ i ∧ xsN S.2.2.2.2.2.2.1 (i + 1) ≤ p ∧ p ≤ j ∧ j ≤ i ∧ hcN D.2.2.1 j = hcN S.2.2.1 i) ∨ (p ≤ i ∧ ¬ xsN S.2.2.2.2.2.2.1 (i + 1) ≤ p ∧ j = i + 1)) := by
      intro i
      by_cases z : i < n ∧ S.2.2.1 i = 0
      · obtain ⟨j, hj⟩ := key i z.1 z.2
        exact ⟨j, fun _ _ => hj⟩
      · exact ⟨0, fun a b => absurd ⟨a, b⟩ z⟩
    exact ⟨fun i => Classical.choose (k2 i), fun i => Classical.choose_spec (k2 i)⟩
  have xm : ∀ a b, a ≤ b → xsN S.2.2.2.2.2.2.1 a ≤ xsN S.2.2.2.2.2.2.1 b ∨ xsN S.2.2.2.2.2.2.1 b ≤ a := fun a b _ => by
    have := xs_le S.2.2.2.2.2.2.1 b
    have := xs_le S.2.2.2.2.2.2.1 a
    omega
  refine DUP_map f (fun i hi hki => ⟨(hf i hi hki).1, (hf i hi hki).2.1, (hf i hi hki).2.2.1⟩) (fun i j hij hj hki hkj => ?_)
  obtain ⟨-, u2, -, u4⟩ := hf i (by omega) hki
  obtain ⟨-, v2, -, v4⟩ := hf j hj hkj
  have xmono : xsN S.2.2.2.2.2.2.1 (i + 1) ≤ xsN S.2.2.2.2.2.2.1 (j + 1) := by
    have : ∀ d, xsN S.2.2.2.2.2.2.1 (i + 1) ≤ xsN S.2.2.2.2.2.2.1 (i + 1 + d) := by
      intro d
      induction d with
      | zero => exact Nat.le_refl _
      | succ d ih =>
        have l1 := xs_le S.2.2.2.2.2.2.1 (i + 1 + d)
        rw [show i + 1 + (d + 1) = i + 1 + d + 1 by omega]
        by_cases z : S.2.2.2.2.2.2.1 (i + 1 + d) = 0
        · rw [xs_s0 z]; exact ih
        · rw [xs_s1 z]; omega
    have := this (j - i)
    rw [show i + 1 + (j - i) = j + 1 by omega] at this
    exact this
  rcases u4 with ⟨u5, u6⟩ | ⟨u5, u6, u7, u8, u9⟩ | ⟨u5, u6, u7⟩
  · rcases v4 with ⟨v5, v6⟩ | ⟨v5, v6, v7, v8, v9⟩ | ⟨v5, v6, v7⟩ <;> omega
  · rcases v4 with ⟨v5, v6⟩ | ⟨v5, v6, v7, v8, v9⟩ | ⟨v5, v6, v7⟩
    · omega
    · have := hc_lt hij hki
      exact hc_rev (kd := D.2.2.1) (by omega)
    · omega
  · rcases v4 with ⟨v5, v6⟩ | ⟨v5, v6, v7, v8, v9⟩ | ⟨v5, v6, v7⟩
    · omega
    · omega
    · omega
end TR

-- what both tell of elements, scenes and pages
theorem below_ex {x : Int32} {N : Nat} (hN : N < 1000) (h : ¬ X6_isBelow x (nI N) = 0) : ∃ j, j < N ∧ x = nI j := by
  unfold X6_isBelow at h
  by_cases h0 : x < 0
  · rw [if_pos h0] at h; exact absurd rfl h
  · rw [if_neg h0] at h
    by_cases h1 : nI N ≤ x
    · rw [if_pos h1] at h; exact absurd rfl h
    · obtain ⟨j, hj, rfl⟩ := nI_of h0
      rw [nI_leI (by omega) hj] at h1
      exact ⟨j, by omega, rfl⟩
theorem below_no {x : Int32} {N : Nat} (hN : N < 1000) (h : X6_isBelow x (nI N) = 0) : ¬ ∃ j, j < N ∧ x = nI j := by
  rintro ⟨j, hj, rfl⟩
  unfold X6_isBelow at h
  rw [if_neg (nI_pos (by omega)), if_neg (nI_ge hj (by omega))] at h
  exact absurd h (by decide)
/-- the reference's 'in' -/
theorem in_b {x : Int32} {N : Nat} (hN : N < 1000) : X7_in x 0 (nI N - 1) = X6_isBelow x (nI N) := by
  unfold X7_in X6_isBelow
  by_cases h0 : x < 0
  · rw [if_pos h0, if_pos h0]
  · rw [if_neg h0, if_neg h0]
    obtain ⟨j, hj, rfl⟩ := nI_of h0
    cases N with
    | zero =>
      rw [show nI 0 - 1 = (-1 : Int32) by decide]
      have a : (-1 : Int32) < nI j := by
        rw [Int32.lt_iff_toInt_lt, nI_toInt hj]
        exact Int.lt_of_lt_of_le (by decide : (-1 : Int32).toInt < 0) (Int.natCast_nonneg j)
      rw [if_pos a, if_pos (nI_le (Nat.zero_le _) hj)]
    | succ N =>
      rw [nI_pred]
      by_cases h1 : N < j
      · rw [if_pos (nI_lt h1 hj), if_pos (nI_le (by omega) hj)]
      · rw [if_neg (nI_nlt (by omega) (by omega)), if_neg (nI_ge (by omega) (by omega))]
section MTo
variable {S : t_Script} {M : t_Model} {n L L1 c : Nat} {G : t_Pages}
theorem pl_loop (hS : SOK S n L) (hM : MR S M.1 n L1) (hP : PRfin G M S n c) (p1 p2 : Int32) : ∀ (r fu : Nat), r < c → r + 1 < fu → ∃ v, zloop (b_X7_pageLabel_21 M p1 p2) fu (nI r) = some v ∧ ((v = -1 ∧ nuN S G.2.2.2.2.2.2.2.2.2.2.2.2.1 (r + 1) = 0 ∧ exN S G.2.2.2.2.2.2.2.2.2.2.2.2.1 (r + 1) = nI r) ∨ ∃ q, q ≤ r ∧ v = nI q ∧ nuN S G.2.2.2.2.2.2.2.2.2.2.2.2.1 (r + 1) = plS S G.2.2.2.2.2.2.2.2.2.2.2.2.1 q ∧ exN S G.2.2.2.2.2.2.2.2.2.2.2.2.1 (r + 1) = nI (r - q) ∧ X7_of M (M.2.2.2.2.2.2.2.2.2.2.2.2.2.1 q) 8 = some (plS S G.2.2.2.2.2.2.2.2.2.2.2.2.1 q)) := by
  have hn := hS.2.2.1
  obtain ⟨hc, -, -, -, hPG, -, -⟩ := hP
  intro r
  induction r with
  | zero =>
    intro fu hr hf
    obtain ⟨fu, rfl⟩ : ∃ f', fu = f' + 1 + 1 := ⟨fu - 2, by omega⟩
    obtain ⟨a1, a2, a3, a4⟩ := hPG.1 0 hr
    have st : ∀ g, zloop (b_X7_pageLabel_21 M p1 p2) (g + 1) (-1) = some (-1) := by
      intro g
      rw [zl_s]; unfold b_X7_pageLabel_21
      rw [if_pos (by decide)]
    obtain ⟨rec, hrec⟩ : ∃ r, r = zloop (b_X7_pageLabel_21 M p1 p2) (fu + 1) := ⟨_, rfl⟩
    rw [zl_s, ← hrec]
    unfold b_X7_pageLabel_21
    simp only [zlet_e]
    rw [if_neg (nI_pos (by omega)), zix_nI (by omega) (by decide), nI_clamp (by omega), a2]
    rcases a4 with a4 | ⟨e, e1, e2⟩
    · have p0 : plS S G.2.2.2.2.2.2.2.2.2.2.2.2.1 0 = -1 := by unfold plS; rw [a4, rAt_m1]
      rw [a4, if_pos rfl, show nI 0 + (-1) = (-1 : Int32) by decide, hrec, st]
      refine ⟨_, rfl, Or.inl ⟨rfl, ?_, ?_⟩⟩
      · show (if plS S G.2.2.2.2.2.2.2.2.2.2.2.2.1 0 = -1 then nuN S G.2.2.2.2.2.2.2.2.2.2.2.2.1 0 else _) = 0
        rw [if_pos p0]; rfl
      · show (if plS S G.2.2.2.2.2.2.2.2.2.2.2.2.1 0 = -1 then exN S G.2.2.2.2.2.2.2.2.2.2.2.2.1 0 + 1 else 0) = nI 0
        rw [if_pos p0]; show (-1 : Int32) + 1 = nI 0; decide
    · have p0 : plS S G.2.2.2.2.2.2.2.2.2.2.2.2.1 0 = S.2.2.2.2.2.1 e := by unfold plS; rw [e2, rAt_nI (by decide) _ (by omega)]
      have ne : ¬ nI e = -1 := fun x => nI_pos (n := e) (by omega) (by rw [x]; decide)
      rw [e2, if_neg ne, zix_nI (by omega) (by decide), of_mk hS hM (by omega), Option.bind_some]
      by_cases hm : S.2.2.2.2.2.1 e = -1
      · rw [if_pos hm, show nI 0 + (-1) = (-1 : Int32) by decide, hrec, st]
        refine ⟨_, rfl, Or.inl ⟨rfl, ?_, ?_⟩⟩
        · show (if plS S G.2.2.2.2.2.2.2.2.2.2.2.2.1 0 = -1 then nuN S G.2.2.2.2.2.2.2.2.2.2.2.2.1 0 else _) = 0
          rw [p0, if_pos hm]; rfl
        · show (if plS S G.2.2.2.2.2.2.2.2.2.2.2.2.1 0 = -1 then exN S G.2.2.2.2.2.2.2.2.2.2.2.2.1 0 + 1 else 0) = nI 0
          rw [p0, if_pos hm]; show (-1 : Int32) + 1 = nI 0; decide
      · rw [if_neg hm]
        refine ⟨_, rfl, Or.inr ⟨0, Nat.le_refl _, rfl, ?_, ?_, ?_⟩⟩
        · show (if plS S G.2.2.2.2.2.2.2.2.2.2.2.2.1 0 = -1 then nuN S G.2.2.2.2.2.2.2.2.2.2.2.2.1 0 else _) = _
          rw [p0, if_neg hm]
        · show (if plS S G.2.2.2.2.2.2.2.2.2.2.2.2.1 0 = -1 then exN S G.2.2.2.2.2.2.2.2.2.2.2.2.1 0 + 1 else 0) = nI 0
          rw [p0, if_neg hm]; rfl
        · rw [a2, e2, of_mk hS hM (by omega), p0]
  | succ r ih =>
    intro fu hr hf
    obtain ⟨fu, rfl⟩ : ∃ f', fu = f' + 1 := ⟨fu - 1, by omega⟩
    obtain ⟨a1, a2, a3, a4⟩ := hPG.1 (r + 1) hr
    obtain ⟨w, iw, ih2⟩ := ih fu (by omega) (by omega)
    have back : plS S G.2.2.2.2.2.2.2.2.2.2.2.2.1 (r + 1) = -1 → ((w = -1 ∧ nuN S G.2.2.2.2.2.2.2.2.2.2.2.2.1 (r + 1 + 1) = 0 ∧ exN S G.2.2.2.2.2.2.2.2.2.2.2.2.1 (r + 1 + 1) = nI (r + 1)) ∨ ∃ q, q ≤ r + 1 ∧ w = nI q ∧ nuN S G.2.2.2.2.2.2.2.2.2.2.2.2.1 (r + 1 + 1) = plS S G.2.2.2.2.2.2.2.2.2.2.2.2.1 q ∧ exN S G.2.2.2.2.2.2.2.2.2.2.2.2.1 (r + 1 + 1) = nI (r + 1 - q) ∧ X7_of M (M.2.2.2.2.2.2.2.2.2.2.2.2.2.1 q) 8 = some (plS S G.2.2.2.2.2.2.2.2.2.2.2.2.1 q)) := by
      intro p0
      have u1 : nuN S G.2.2.2.2.2.2.2.2.2.2.2.2.1 (r + 1 + 1) = nuN S G.2.2.2.2.2.2.2.2.2.2.2.2.1 (r + 1) := by
        show (if plS S G.2.2.2.2.2.2.2.2.2.2.2.2.1 (r + 1) = -1 then nuN S G.2.2.2.2.2.2.2.2.2.2.2.2.1 (r + 1) else _) = _
        rw [if_pos p0]
      have u2 : exN S G.2.2.2.2.2.2.2.2.2.2.2.2.1 (r + 1 + 1) = exN S G.2.2.2.2.2.2.2.2.2.2.2.2.1 (r + 1) + 1 := by
        show (if plS S G.2.2.2.2.2.2.2.2.2.2.2.2.1 (r + 1) = -1 then exN S G.2.2.2.2.2.2.2.2.2.2.2.2.1 (r + 1) + 1 else 0) = _
        rw [if_pos p0]
      rw [u1, u2]
      rcases ih2 with ⟨i1, i2, i3⟩ | ⟨q, q1, q2, q3, q4, q5⟩
      · exact Or.inl ⟨i1, i2, by rw [i3, nI_1]⟩
      · exact Or.inr ⟨q, by omega, q2, q3, by rw [q4, nI_1, show r - q + 1 = r + 1 - q by omega], q5⟩
    obtain ⟨rec, hrec⟩ : ∃ r, r = zloop (b_X7_pageLabel_21 M p1 p2) fu := ⟨_, rfl⟩
    rw [zl_s, ← hrec]
    unfold b_X7_pageLabel_21
    simp only [zlet_e]
    rw [if_neg (nI_pos (by omega)), zix_nI (by omega) (by decide), nI_clamp (by omega), a2]
    rcases a4 with a4 | ⟨e, e1, e2⟩
    · have p0 : plS S G.2.2.2.2.2.2.2.2.2.2.2.2.1 (r + 1) = -1 := by unfold plS; rw [a4, rAt_m1]
      rw [a4, if_pos rfl, pk_m1, hrec, iw]
      exact ⟨_, rfl, back p0⟩
    · have p0 : plS S G.2.2.2.2.2.2.2.2.2.2.2.2.1 (r + 1) = S.2.2.2.2.2.1 e := by unfold plS; rw [e2, rAt_nI (by decide) _ (by omega)]
      have ne : ¬ nI e = -1 := fun x => nI_pos (n := e) (by omega) (by rw [x]; decide)
      rw [e2, if_neg ne, zix_nI (by omega) (by decide), of_mk hS hM (by omega), Option.bind_some]
      by_cases hm : S.2.2.2.2.2.1 e = -1
      · rw [if_pos hm, pk_m1, hrec, iw]
        exact ⟨_, rfl, back (by rw [p0, hm])⟩
      · rw [if_neg hm]
        refine ⟨_, rfl, Or.inr ⟨r + 1, Nat.le_refl _, rfl, ?_, ?_, ?_⟩⟩
        · show (if plS S G.2.2.2.2.2.2.2.2.2.2.2.2.1 (r + 1) = -1 then nuN S G.2.2.2.2.2.2.2.2.2.2.2.2.1 (r + 1) else _) = _
          rw [p0, if_neg hm]
        · show (if plS S G.2.2.2.2.2.2.2.2.2.2.2.2.1 (r + 1) = -1 then exN S G.2.2.2.2.2.2.2.2.2.2.2.2.1 (r + 1) + 1 else 0) = _
          rw [p0, if_neg hm, Nat.sub_self]; rfl
        · rw [a2, e2, of_mk hS hM (by omega), p0]
theorem pageLabel_t (hS : SOK S n L) (hM : MR S M.1 n L1) (hP : PRfin G M S n c) {r : Nat} (hr : r < c) : X7_pageLabel M (nI r) 0 = some (G.2.2.2.2.2.2.2.2.2.1 r) ∧ X7_pageLabel M (nI r) 1 = some (G.2.2.2.2.2.2.2.2.2.2.1 r) := by
  have hn := hS.2.2.1
  have hmk : mkN S n ≤ n := ct_le _ _
  have hcn := hP.1
  obtain ⟨x1, x2⟩ := hP.2.2.2.2.2.2 r hr
  have i10 : ¬ ((1 : Int32) = 0) := by decide
  rw [x1, x2]
  unfold X7_pageLabel lnuN lexN
  rw [marks_t hS hM, Option.bind_some, Option.bind_some]
  by_cases h0 : mkN S n = 0
  · rw [if_pos h0, if_pos h0, if_pos (show nI (ctN (fun i => decide (S.2.2.2.2.2.1 i ≠ -1)) n) = 0 by rw [show ctN (fun i => decide (S.2.2.2.2.2.1 i ≠ -1)) n = 0 from h0]; exact nI_0), if_pos rfl]
    rw [if_pos (show nI (ctN (fun i => decide (S.2.2.2.2.2.1 i ≠ -1)) n) = 0 by rw [show ctN (fun i => decide (S.2.2.2.2.2.1 i ≠ -1)) n = 0 from h0]; exact nI_0), if_neg i10]
    simp only [zlet_e]
    rw [nI_1]
    exact ⟨rfl, trivial⟩
  · have nz : ¬ nI (ctN (fun i => decide (S.2.2.2.2.2.1 i ≠ -1)) n) = 0 := nI_ne0 (show 0 < mkN S n by omega) (show mkN S n < 2147483648 by omega)
    rw [if_neg h0, if_neg h0, if_neg nz, if_neg nz]
    obtain ⟨v, v1, v2⟩ := pl_loop hS hM hP (nI r) 0 r FU hr (show r + 1 < 3000 by omega)
    obtain ⟨w, w1, w2⟩ := pl_loop hS hM hP (nI r) 1 r FU hr (show r + 1 < 3000 by omega)
    rw [v1, w1, Option.bind_some, Option.bind_some]
    unfold j_X7_pageLabel_57
    simp only [zlet_e]
    constructor
    · rcases v2 with ⟨i1, i2, i3⟩ | ⟨q, q1, q2, q3, q4, q5⟩
      · rw [i1, if_neg (by decide), if_pos trivial, i2]
      · rw [q2, if_pos (nI_pos' (by omega)), if_pos trivial, zix_nI (by omega) (by decide), nI_clamp (by omega), q5, Option.bind_some, q3]
    · rcases w2 with ⟨i1, i2, i3⟩ | ⟨q, q1, q2, q3, q4, q5⟩
      · rw [i1, if_neg (by decide), if_neg i10, i3]
      · rw [q2, if_pos (nI_pos' (by omega)), if_neg i10, pk_sub q1, q4]
variable {C : t_Scenes} (tl : Int32) (D : t_Script) (E : t_Scenes) (F : t_Pages) (Hs : t_Hist) (tx : Rw)
theorem pageTold_t (hS : SOK S n L) (hM : MR S M.1 n L1) (hP : PRfin G M S n c) {r : Nat} (hr : r < c) {w : Nat} (hw : w < 5) : X7_pageTold M (nI r) (nI w) = some (X6_pageFact tl S D C E G F Hs tx (nI r) (nI w)) := by
  have hn := hS.2.2.1
  have hcn := hP.1
  have ar : ∀ (f : Rw), rAt 60 f (nI r) = f r := fun f => rAt_nI (by decide) f (by omega)
  have zr : ∀ {α : Type} (x : Option α), zix (nI r) 130 x = x := fun x => zix_nI (by omega) (by decide)
  have cr : (nI r).toNatClampNeg = r := nI_clamp (by omega)
  obtain ⟨l0, l1⟩ := pageLabel_t hS hM hP hr
  obtain ⟨a1, a2, a3, -⟩ := hP.2.2.2.2.1.1 r hr
  unfold X7_pageTold X6_pageFact
  simp only [zlet_e]
  rw [ar, ar, ar, ar, ar, zr, zr, zr, cr, a1, a2, a3]
  rcases (show w = 0 ∨ w = 1 ∨ w = 2 ∨ w = 3 ∨ w = 4 by omega) with e | e | e | e | e <;> subst e
  · rw [show nI 0 = (0 : Int32) from rfl, l0]; rfl
  · rw [show nI 1 = (1 : Int32) from rfl, l1]; rfl
  · rfl
  · rfl
  · rfl
theorem elementOf_t (hS : SOK S n L) (hM : MR S M.1 n L1) (hC : CSok C S n) (hP : PRfin G M S n c) {i : Nat} (hi : i < n) {w : Nat} (hw : w < 10) : X7_elementOf M (nI i) (nI w) = some (X6_elementFact tl S D C E G F Hs tx (nI i) (nI w)) := by
  have hn := hS.2.2.1
  have ar : ∀ (f : Rw), rAt 60 f (nI i) = f i := fun f => rAt_nI (by decide) f (by omega)
  have zr : ∀ {α : Type} (x : Option α), zix (nI i) 60 x = x := fun x => zix_nI (by omega) (by decide)
  have cr : (nI i).toNatClampNeg = i := nI_clamp (by omega)
  obtain ⟨a1, a2, a3⟩ := hP.2.2.2.2.1.2 i hi
  obtain ⟨b1, b2⟩ := hC.2.2.2.2.2 i hi
  unfold X7_elementOf X6_elementFact
  simp only [zlet_e]
  rw [ar, ar, ar, ar, ar, ar, ar, ar, ar, zr, zr, zr, cr, a1, a2, a3, lines_t hS hM hi, sceneOf_t hS hM hi, of_mk hS hM hi, carried_t hS hM hi, b1, b2]
  rcases (show w = 0 ∨ w = 1 ∨ w = 2 ∨ w = 3 ∨ w = 4 ∨ w = 5 ∨ w = 6 ∨ w = 7 ∨ w = 8 ∨ w = 9 by omega) with e | e | e | e | e | e | e | e | e | e <;> subst e
  · rw [show nI 0 = (0 : Int32) from rfl, of_kd hS hM hi]; rfl
  · rw [show nI 1 = (1 : Int32) from rfl, of_ln hS hM hi]; rfl
  · rw [show nI 2 = (2 : Int32) from rfl, of_pr hS hM hi]; rfl
  · rfl
  · rfl
  · rfl
  · rfl
  · rfl
  · rfl
  · by_cases k : crN S.2.2.1 S.2.2.2.2.1 i = true
    · rw [if_pos k]; rfl
    · rw [if_neg k]; rfl
theorem next_ex (hS : SOK S n L) (hM : MR S M.1 n L1) {h : Nat} (hh : h < n) (hk : S.2.2.1 h = 0) : ∃ e, h < e ∧ e ≤ n ∧ hcN S.2.2.1 e = hcN S.2.2.1 h + 1 ∧ (e < n → S.2.2.1 e = 0) ∧ X7_headingOf M (nI (hcN S.2.2.1 h + 1)) = some (nI e) := by
  have h1 := hc_lt hh hk
  by_cases h2 : hcN S.2.2.1 h + 1 < hcN S.2.2.1 n
  · obtain ⟨e, e1, e2, e3⟩ := hc_ex h2
    refine ⟨e, ?_, by omega, e3, fun _ => e2, ?_⟩
    · by_cases h3 : h < e
      · exact h3
      · have := hc_mono S.2.2.1 (i := e) (j := h) (by omega)
        omega
    · rw [← e3]; exact headingOf_t hS hM e1 e2
  · have e : hcN S.2.2.1 h + 1 = hcN S.2.2.1 n := by omega
    exact ⟨n, hh, Nat.le_refl _, e.symm, fun h => absurd h (Nat.lt_irrefl _), by rw [e]; exact headingOf_e hS hM⟩
theorem sceneTold_t (hS : SOK S n L) (hM : MR S M.1 n L) (hC : CSok C S n) (hP : PRfin G M S n c) {s : Nat} (hs : s < hcN S.2.2.1 n) {w : Nat} (hw : w < 10) : ∃ x, X7_sceneTold M (nI s) (nI w) = some x ∧ X6_sceneFact tl S D C E G F Hs tx (nI s) (nI w) = some x := by
  have hn := hS.2.2.1
  have hL1 := hS.2.2.2.1
  have hL2 := hS.2.2.2.2.1
  obtain ⟨h, hh, hk, hhs⟩ := hc_ex hs
  obtain ⟨e, e1, e2, e3, e4, e5⟩ := next_ex hS hM hh hk
  have hcl := hc_le S.2.2.1 n
  have as : ∀ (f : Rw), rAt 60 f (nI s) = f s := fun f => rAt_nI (by decide) f (by omega)
  have ah : ∀ (f : Rw), rAt 60 f (nI h) = f h := fun f => rAt_nI (by decide) f (by omega)
  obtain ⟨c1, c2, c3, c4⟩ := hC.2.2.2.1 h hh hk
  obtain ⟨c5, c6⟩ := hC.2.2.2.2.1 s hs
  obtain ⟨a1, a2, a3⟩ := hP.2.2.2.2.1.2 h hh
  obtain ⟨t1, t2⟩ := cn_sc hhs hk e1 e2 (by rw [e3, hhs]) e4
  rw [hhs] at c1 c2 c3 c4 e5
  have hso : X7_headingOf M (nI s) = some (nI h) := by rw [← hhs]; exact headingOf_t hS hM hh hk
  have sum : ∀ p1 p2 x3 : Int32, zloop (b_X7_sceneTold_21 M p1 p2 x3 (nI e)) FU (0, nI h) = some (smN S s e) := by
    intro p1 p2 x3
    obtain ⟨X, g1, g2⟩ := zl_up (body := b_X7_sceneTold_21 M p1 p2 x3 (nI e)) (fun j v => h ≤ j ∧ v = (smN S s j, nI j)) (fun X => X = smN S s e) e
      (fun rec v hv => by
        obtain ⟨-, rfl⟩ := hv
        unfold b_X7_sceneTold_21
        rw [if_pos (nI_le (Nat.le_refl _) (by omega))]
        exact ⟨_, rfl, rfl⟩)
      (fun rec j v hj hv k => by
        obtain ⟨hj2, rfl⟩ := hv
        unfold b_X7_sceneTold_21
        simp only [zlet_e, nI_1]
        rw [if_neg (nI_ge hj (by omega)), lines_t hS hM (by omega), Option.bind_some]
        have m1 := hc_mono S.2.2.1 (i := h + 1) (j := j + 1) (by omega)
        have m2 := hc_mono S.2.2.1 (i := j + 1) (j := e) (by omega)
        rw [hc_s0 hk] at m1
        exact k _ ⟨by omega, by rw [sm_s1 (by omega)]⟩)
      FU h (0, nI h) (by omega) ⟨Nat.le_refl _, by rw [sm_0 (by omega)]⟩ (show e - h < 3000 by omega)
    rw [g1, g2]
  have d0 : ∀ x : Option Int32, zdv (nI L) x = x := fun x => if_neg (nI_ne0 (by omega) (by omega))
  obtain ⟨l0, l1, l2⟩ := label_t hS hM hh hk
  unfold X7_sceneTold X6_sceneFact X6_eighths
  simp only [zlet_e, nI_1]
  rw [hso, Option.bind_some, e5, Option.bind_some, sum, Option.bind_some, of_lk hS hM hh, of_om hS hM hh, pk_sub (by omega), zix0, zix0, cl0, hM.1, d0, zix_nI (show h < 60 by omega) (by decide), nI_clamp (by omega), a1]
  rw [as, as, as, as, as, as, c1, c2, c3, c4, c5, c6, t1, t2, ah, lock_x hS hh, omit_x hS hh, show S.2.1 = nI L from hS.2.1, if_neg (nI_nle (by omega) (by omega)), d0]
  rcases (show w = 0 ∨ w = 1 ∨ w = 2 ∨ w = 3 ∨ w = 4 ∨ w = 5 ∨ w = 6 ∨ w = 7 ∨ w = 8 ∨ w = 9 by omega) with e | e | e | e | e | e | e | e | e | e <;> subst e
  · rw [show nI 0 = (0 : Int32) from rfl, l0]; exact ⟨_, rfl, rfl⟩
  · rw [show nI 1 = (1 : Int32) from rfl, l1]; exact ⟨_, rfl, rfl⟩
  · rw [show nI 2 = (2 : Int32) from rfl, l2]; exact ⟨_, rfl, rfl⟩
  · refine ⟨_, rfl, ?_⟩
    by_cases k : S.2.2.2.2.2.2.1 h = 0
    · rw [if_pos k]; rfl
    · rw [if_neg k]; rfl
  · refine ⟨_, rfl, ?_⟩
    by_cases k : S.2.2.2.2.2.2.1 h = 2
    · rw [if_pos k]; rfl
    · rw [if_neg k]; rfl
  · exact ⟨_, rfl, rfl⟩
  · exact ⟨_, rfl, rfl⟩
  · exact ⟨_, rfl, rfl⟩
  · exact ⟨_, rfl, rfl⟩
  · exact ⟨_, rfl, rfl⟩
theorem carCount_t (hS : SOK S n L) : ctN (nmN S (-1) 1) n = ctN (crN S.2.2.1 S.2.2.2.2.1) n := by
  have key : ∀ j, j ≤ n → ctN (nmN S (-1) 1) j = ctN (crN S.2.2.1 S.2.2.2.2.1) j := by
    intro j
    induction j with
    | zero => intro _; rfl
    | succ j ih =>
      intro hj
      have e : nmN S (-1) 1 j = crN S.2.2.1 S.2.2.2.2.1 j := by
        unfold nmN
        by_cases k : S.2.2.1 j = 2
        · simp [k]
        · have := (hS.e (show j < n by omega)).2.2.2.1 k
          simp [k, crN, this]
      show ctN (nmN S (-1) 1) j + (if nmN S (-1) 1 j then 1 else 0) = ctN (crN S.2.2.1 S.2.2.2.2.1) j + (if crN S.2.2.1 S.2.2.2.2.1 j then 1 else 0)
      rw [ih (by omega), e]
  exact key n (Nat.le_refl _)
theorem valueOf_t (hS : SOK S n L) (hM : MR S M.1 n L) (hC : CSok C S n) (hP : PRfin G M S n c) {w : Nat} (hw : w < 8) : X7_valueOf M (nI w) = some (X6_valueOf tl S D C E G F Hs tx (nI w)) := by
  unfold X7_valueOf X6_valueOf
  simp only [zlet_e]
  rw [zix1, cl1, hM.2.1, zix0, cl0, hM.1, sceneMany_t hS hM, lockedMany_t hS hM, marks_t hS hM, namesOf_t hS hM, carCount_t hS, hC.1, hC.2.1, hC.2.2.1, hP.2.1, hP.2.2.1, hP.2.2.2.1, hP.2.2.2.2.2.1, show S.1 = nI n from hS.1, show S.2.1 = nI L from hS.2.1]
  rcases (show w = 0 ∨ w = 1 ∨ w = 2 ∨ w = 3 ∨ w = 4 ∨ w = 5 ∨ w = 6 ∨ w = 7 by omega) with e | e | e | e | e | e | e | e <;> subst e <;> rfl
end MTo

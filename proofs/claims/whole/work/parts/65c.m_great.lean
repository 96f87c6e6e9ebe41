-- greatestLength: class and reference
section MGr
variable {S : t_Script} {M : t_Model} {n L : Nat} {C : t_Scenes} {G : t_Pages} {Hs : t_Hist} {tl : Int32} {tx : Rw}
/-- the arrangement asks of lengths but the lines -/
theorem arr_len (T : t_Script) (a b : Rw) (h : X5_linesOf (T.1, T.2.1, T.2.2.1, a, T.2.2.2.2.1, T.2.2.2.2.2.1, T.2.2.2.2.2.2.1, T.2.2.2.2.2.2.2.1, T.2.2.2.2.2.2.2.2.1, T.2.2.2.2.2.2.2.2.2) = X5_linesOf (T.1, T.2.1, T.2.2.1, b, T.2.2.2.2.1, T.2.2.2.2.2.1, T.2.2.2.2.2.2.1, T.2.2.2.2.2.2.2.1, T.2.2.2.2.2.2.2.2.1, T.2.2.2.2.2.2.2.2.2)) (F : t_Pages) : X1_arrange F (T.1, T.2.1, T.2.2.1, a, T.2.2.2.2.1, T.2.2.2.2.2.1, T.2.2.2.2.2.2.1, T.2.2.2.2.2.2.2.1, T.2.2.2.2.2.2.2.2.1, T.2.2.2.2.2.2.2.2.2) = X1_arrange F (T.1, T.2.1, T.2.2.1, b, T.2.2.2.2.1, T.2.2.2.2.2.1, T.2.2.2.2.2.2.1, T.2.2.2.2.2.2.2.1, T.2.2.2.2.2.2.2.2.1, T.2.2.2.2.2.2.2.2.2) := by
  have e1 : b_X1_findNeeds_7 (T.1, T.2.1, T.2.2.1, a, T.2.2.2.2.1, T.2.2.2.2.2.1, T.2.2.2.2.2.2.1, T.2.2.2.2.2.2.2.1, T.2.2.2.2.2.2.2.2.1, T.2.2.2.2.2.2.2.2.2) = b_X1_findNeeds_7 (T.1, T.2.1, T.2.2.1, b, T.2.2.2.2.1, T.2.2.2.2.2.1, T.2.2.2.2.2.2.1, T.2.2.2.2.2.2.2.1, T.2.2.2.2.2.2.2.2.1, T.2.2.2.2.2.2.2.2.2) := by
    funext rec v
    unfold b_X1_findNeeds_7
    rw [h]
    rfl
  have e2 : X1_findNeeds (0, F.2.1, 0, T.2.1, F.2.2.2.2.1, F.2.2.2.2.2.1, F.2.2.2.2.2.2.1, F.2.2.2.2.2.2.2.1, F.2.2.2.2.2.2.2.2.1, F.2.2.2.2.2.2.2.2.2.1, F.2.2.2.2.2.2.2.2.2.2.1, F.2.2.2.2.2.2.2.2.2.2.2.1, F.2.2.2.2.2.2.2.2.2.2.2.2.1, F.2.2.2.2.2.2.2.2.2.2.2.2.2) (T.1, T.2.1, T.2.2.1, a, T.2.2.2.2.1, T.2.2.2.2.2.1, T.2.2.2.2.2.2.1, T.2.2.2.2.2.2.2.1, T.2.2.2.2.2.2.2.2.1, T.2.2.2.2.2.2.2.2.2) = X1_findNeeds (0, F.2.1, 0, T.2.1, F.2.2.2.2.1, F.2.2.2.2.2.1, F.2.2.2.2.2.2.1, F.2.2.2.2.2.2.2.1, F.2.2.2.2.2.2.2.2.1, F.2.2.2.2.2.2.2.2.2.1, F.2.2.2.2.2.2.2.2.2.2.1, F.2.2.2.2.2.2.2.2.2.2.2.1, F.2.2.2.2.2.2.2.2.2.2.2.2.1, F.2.2.2.2.2.2.2.2.2.2.2.2.2) (T.1, T.2.1, T.2.2.1, b, T.2.2.2.2.1, T.2.2.2.2.2.1, T.2.2.2.2.2.2.1, T.2.2.2.2.2.2.2.1, T.2.2.2.2.2.2.2.2.1, T.2.2.2.2.2.2.2.2.2) := by
    unfold X1_findNeeds
    rw [e1]
  have e3 : ∀ (G : t_Pages) (i : Int32), X1_setElement G (T.1, T.2.1, T.2.2.1, a, T.2.2.2.2.1, T.2.2.2.2.2.1, T.2.2.2.2.2.2.1, T.2.2.2.2.2.2.2.1, T.2.2.2.2.2.2.2.2.1, T.2.2.2.2.2.2.2.2.2) i = X1_setElement G (T.1, T.2.1, T.2.2.1, b, T.2.2.2.2.1, T.2.2.2.2.2.1, T.2.2.2.2.2.2.1, T.2.2.2.2.2.2.2.1, T.2.2.2.2.2.2.2.2.1, T.2.2.2.2.2.2.2.2.2) i := by
    intro G i
    unfold X1_setElement j_X1_setElement_16
    rw [h]
    rfl
  have e4 : b_X1_arrange_25 (T.1, T.2.1, T.2.2.1, a, T.2.2.2.2.1, T.2.2.2.2.2.1, T.2.2.2.2.2.2.1, T.2.2.2.2.2.2.2.1, T.2.2.2.2.2.2.2.2.1, T.2.2.2.2.2.2.2.2.2) = b_X1_arrange_25 (T.1, T.2.1, T.2.2.1, b, T.2.2.2.2.1, T.2.2.2.2.2.1, T.2.2.2.2.2.2.1, T.2.2.2.2.2.2.2.1, T.2.2.2.2.2.2.2.2.1, T.2.2.2.2.2.2.2.2.2) := by
    funext rec v
    unfold b_X1_arrange_25 j_X1_arrange_49 j_X1_arrange_53
    simp only [e3]
    rfl
  have e5 : ∀ G : t_Pages, X1_countMarks G (T.1, T.2.1, T.2.2.1, a, T.2.2.2.2.1, T.2.2.2.2.2.1, T.2.2.2.2.2.2.1, T.2.2.2.2.2.2.2.1, T.2.2.2.2.2.2.2.2.1, T.2.2.2.2.2.2.2.2.2) = X1_countMarks G (T.1, T.2.1, T.2.2.1, b, T.2.2.2.2.1, T.2.2.2.2.2.1, T.2.2.2.2.2.2.1, T.2.2.2.2.2.2.2.1, T.2.2.2.2.2.2.2.2.1, T.2.2.2.2.2.2.2.2.2) := fun G => rfl
  have e6 : ∀ G : t_Pages, X1_label G (T.1, T.2.1, T.2.2.1, a, T.2.2.2.2.1, T.2.2.2.2.2.1, T.2.2.2.2.2.2.1, T.2.2.2.2.2.2.2.1, T.2.2.2.2.2.2.2.2.1, T.2.2.2.2.2.2.2.2.2) = X1_label G (T.1, T.2.1, T.2.2.1, b, T.2.2.2.2.1, T.2.2.2.2.2.1, T.2.2.2.2.2.2.1, T.2.2.2.2.2.2.2.1, T.2.2.2.2.2.2.2.2.1, T.2.2.2.2.2.2.2.2.2) := fun G => rfl
  unfold X1_arrange
  show (X1_findNeeds (0, F.2.1, 0, T.2.1, F.2.2.2.2.1, F.2.2.2.2.2.1, F.2.2.2.2.2.2.1, F.2.2.2.2.2.2.2.1, F.2.2.2.2.2.2.2.2.1, F.2.2.2.2.2.2.2.2.2.1, F.2.2.2.2.2.2.2.2.2.2.1, F.2.2.2.2.2.2.2.2.2.2.2.1, F.2.2.2.2.2.2.2.2.2.2.2.2.1, F.2.2.2.2.2.2.2.2.2.2.2.2.2) (T.1, T.2.1, T.2.2.1, a, T.2.2.2.2.1, T.2.2.2.2.2.1, T.2.2.2.2.2.2.1, T.2.2.2.2.2.2.2.1, T.2.2.2.2.2.2.2.2.1, T.2.2.2.2.2.2.2.2.2)).bind _ = (X1_findNeeds (0, F.2.1, 0, T.2.1, F.2.2.2.2.1, F.2.2.2.2.2.1, F.2.2.2.2.2.2.1, F.2.2.2.2.2.2.2.1, F.2.2.2.2.2.2.2.2.1, F.2.2.2.2.2.2.2.2.2.1, F.2.2.2.2.2.2.2.2.2.2.1, F.2.2.2.2.2.2.2.2.2.2.2.1, F.2.2.2.2.2.2.2.2.2.2.2.2.1, F.2.2.2.2.2.2.2.2.2.2.2.2.2) (T.1, T.2.1, T.2.2.1, b, T.2.2.2.2.1, T.2.2.2.2.2.1, T.2.2.2.2.2.2.1, T.2.2.2.2.2.2.2.1, T.2.2.2.2.2.2.2.2.1, T.2.2.2.2.2.2.2.2.2)).bind _
  rw [e2, e4]
  simp only [e5, e6]
theorem rAt_upd (f : Rw) {i : Nat} (hi : i < 60) (x p : Int32) (hp : p ≠ nI i) : rAt 60 (upd f i x) p = rAt 60 f p := by
  unfold rAt
  by_cases h0 : p < 0
  · rw [if_pos h0, if_pos h0]
  · rw [if_neg h0, if_neg h0]
    by_cases h1 : Int32.ofNat 60 ≤ p
    · rw [if_pos h1, if_pos h1]
    · rw [if_neg h1, if_neg h1]
      obtain ⟨j, hj, rfl⟩ := nI_of h0
      rw [nI_clamp hj, pk_un]
      intro e
      exact hp (by rw [e])
theorem lines_fun (T : t_Script) {i : Nat} (hi : i < 60) (x y : Int32) (h : X5_linesOf (T.1, T.2.1, T.2.2.1, upd T.2.2.2.1 i x, T.2.2.2.2.1, T.2.2.2.2.2.1, T.2.2.2.2.2.2.1, T.2.2.2.2.2.2.2.1, T.2.2.2.2.2.2.2.2.1, T.2.2.2.2.2.2.2.2.2) (nI i) = X5_linesOf (T.1, T.2.1, T.2.2.1, upd T.2.2.2.1 i y, T.2.2.2.2.1, T.2.2.2.2.2.1, T.2.2.2.2.2.2.1, T.2.2.2.2.2.2.2.1, T.2.2.2.2.2.2.2.2.1, T.2.2.2.2.2.2.2.2.2) (nI i)) : X5_linesOf (T.1, T.2.1, T.2.2.1, upd T.2.2.2.1 i x, T.2.2.2.2.1, T.2.2.2.2.2.1, T.2.2.2.2.2.2.1, T.2.2.2.2.2.2.2.1, T.2.2.2.2.2.2.2.2.1, T.2.2.2.2.2.2.2.2.2) = X5_linesOf (T.1, T.2.1, T.2.2.1, upd T.2.2.2.1 i y, T.2.2.2.2.1, T.2.2.2.2.2.1, T.2.2.2.2.2.2.1, T.2.2.2.2.2.2.2.1, T.2.2.2.2.2.2.2.2.1, T.2.2.2.2.2.2.2.2.2) := by
  funext p
  by_cases hp : p = nI i
  · rw [hp]; exact h
  · have e : rAt 60 (upd T.2.2.2.1 i x) p = rAt 60 (upd T.2.2.2.1 i y) p := by rw [rAt_upd _ hi _ _ hp, rAt_upd _ hi _ _ hp]
    unfold X5_linesOf
    simp only [e]
    rfl
theorem great_k {T : t_Script} (hS : SOK T n L) (hM : MR T M.1 n L) {i l : Nat} (hi : i < n) (l1 : 1 ≤ l) (l2 : l ≤ 400) : ∃ k, k ≤ 60 ∧ (∀ F, ∃ F', X1_arrange F (T.1, T.2.1, T.2.2.1, upd T.2.2.2.1 i (nI l), T.2.2.2.2.1, T.2.2.2.2.2.1, T.2.2.2.2.2.2.1, T.2.2.2.2.2.2.2.1, T.2.2.2.2.2.2.2.2.1, T.2.2.2.2.2.2.2.2.2) = some (nI k, F')) ∧ ∀ M0, MFr M M0 → ∃ M', X7_pagesBehind M0 (nI i) (nI l) = some (nI k, M') ∧ MFr M M' := by
  obtain ⟨F0, M0, k, f1, f2, f3, f4⟩ := behind_t hS hM hi l1 l2 pag0
  refine ⟨k, f4, fun F => ?_, fun M1 h1 => ?_⟩
  · obtain ⟨F', M', k', g1, g2, -, g4⟩ := behind_t hS hM hi l1 l2 F
    rw [f2] at g2
    have e : nI k = nI k' := congrArg Prod.fst (Option.some.inj g2)
    rw [e]
    exact ⟨F', g1⟩
  · obtain ⟨F', M', k', g1, g2, g3, g4⟩ := behind_t hS (MFr_mr h1 hM) hi l1 l2 pag0
    rw [f1] at g1
    have e : nI k = nI k' := congrArg Prod.fst (Option.some.inj g1)
    rw [e]
    exact ⟨M', g2, MFr_trans h1 g3⟩
theorem m_greatestLength (hI : InvC tl S C G Hs tx M) (D : t_Script) (E : t_Scenes) (F : t_Pages) (p1 : Int32) : ∃ R a M', X6_greatestLength tl S D C E G F Hs tx p1 = some R ∧ X7_greatestLength M p1 = some (a, M') ∧ Ans [(0, 1)] R.1 a M' ∧ InvC tl S C G Hs tx M' := by
  obtain ⟨n, L, hS, hM, hC, ⟨c, hG⟩, hH, hT⟩ := id hI
  have hn := hS.2.2.1
  unfold X6_greatestLength X7_greatestLength
  rw [isElement_t hS hM, Option.bind_some]
  simp only [zlet_e]
  by_cases h0 : X5_has S p1 = 0
  · rw [if_pos h0, if_pos h0, fails_t]
    exact ⟨_, _, _, rfl, rfl, ⟨rfl, fun v h => by cases h⟩, Inv_th hI 1⟩
  obtain ⟨i, hi, rfl⟩ := has_ex hS h0
  have hi60 := hS.lt hi
  obtain ⟨M1, s1, s2, s3⟩ := hG M L hM
  have hcn := s3.1
  obtain ⟨pr, pr1, pr2, pr3⟩ := (hS.e hi).2.1
  have cp := copy_eq (S := S) (D := D) hn
  obtain ⟨T, hT9⟩ : ∃ T, T = X5_copyFrom D S := ⟨_, rfl⟩
  rw [← hT9] at cp ⊢
  have tS := cp.ok hS
  have tM := cp.mr hM
  have W := fun (l : Nat) (l1 : 1 ≤ l) (l2 : l ≤ 400) => great_k tS tM hi l1 l2
  have eW : ∀ l l' k k', (∀ F, ∃ F', X1_arrange F (T.1, T.2.1, T.2.2.1, upd T.2.2.2.1 i (nI l), T.2.2.2.2.1, T.2.2.2.2.2.1, T.2.2.2.2.2.2.1, T.2.2.2.2.2.2.2.1, T.2.2.2.2.2.2.2.2.1, T.2.2.2.2.2.2.2.2.2) = some (nI k, F')) → (∀ F, ∃ F', X1_arrange F (T.1, T.2.1, T.2.2.1, upd T.2.2.2.1 i (nI l'), T.2.2.2.2.1, T.2.2.2.2.2.1, T.2.2.2.2.2.2.1, T.2.2.2.2.2.2.2.1, T.2.2.2.2.2.2.2.2.1, T.2.2.2.2.2.2.2.2.2) = some (nI k', F')) → X5_linesOf (T.1, T.2.1, T.2.2.1, upd T.2.2.2.1 i (nI l), T.2.2.2.2.1, T.2.2.2.2.2.1, T.2.2.2.2.2.2.1, T.2.2.2.2.2.2.2.1, T.2.2.2.2.2.2.2.2.1, T.2.2.2.2.2.2.2.2.2) (nI i) = X5_linesOf (T.1, T.2.1, T.2.2.1, upd T.2.2.2.1 i (nI l'), T.2.2.2.2.1, T.2.2.2.2.2.1, T.2.2.2.2.2.2.1, T.2.2.2.2.2.2.2.1, T.2.2.2.2.2.2.2.2.1, T.2.2.2.2.2.2.2.2.2) (nI i) → nI k = nI k' := by
    intro l l' k k' h1 h2 h3
    obtain ⟨F1, g1⟩ := h1 F
    obtain ⟨F2, g2⟩ := h2 F
    rw [arr_len T _ _ (lines_fun T hi60 _ _ h3) F, g2] at g1
    exact (congrArg Prod.fst (Option.some.inj g1)).symm
  -- as it is now
  obtain ⟨kp, kp1, kp2, kp3⟩ := W pr pr1 pr2
  have ekp : nI kp = nI c := by
    obtain ⟨M', g1, -⟩ := kp3 M (MFr_refl M)
    have o1 : X7_of M (nI i) 1 = some (M.1 (2 + 9 * i + 1)) := of_t M (w := 1) hi60 (by decide)
    have w1 : ∀ (M : t_Model) (x : Int32), X7_puts M (nI i) 1 x = some (mSet M (upd M.1 (2 + 9 * i + 1) x)) := fun M x => puts_t M (w := 1) hi60 (by decide) x
    have e : upd M.1 (2 + 9 * i + 1) (nI pr) = M.1 := by
      funext j
      rw [upd_t]
      by_cases h : j = 2 + 9 * i + 1
      · rw [if_pos h, h, ← pr3]; exact (hM.2.2 i hi).2.1.symm
      · rw [if_neg h]
    unfold X7_pagesBehind X7_pagesIf at g1
    simp only [zlet_e] at g1
    rw [o1, Option.bind_some, w1, Option.bind_some, zix0, cl0, mSet_s, e, hM.1, mSet0, s1, Option.bind_some, Option.bind_some, w1, Option.bind_some, s3.2.2.1] at g1
    exact (congrArg Prod.fst (Option.some.inj g1)).symm
  have ekp2 : kp = c := (nI_eq (by omega) (by omega)).mp ekp
  subst ekp2
  have l400 : (400 : Int32) = nI 400 := rfl
  obtain ⟨X, X2, g1, g2, a, M', g3, g4, g5⟩ := zl_two (body := b_X6_greatestLength_51 tl S C E G Hs tx (nI i) (nI pr)) (body2 := b_X7_greatestLength_29 (nI i) (nI kp))
    (fun j (v : t_Script × t_Pages × Int32 × Int32) (v2 : t_Model × Int32) => j ≤ 400 - pr ∧ ∃ y F0 tried M0, v = ((T.1, T.2.1, T.2.2.1, upd T.2.2.2.1 i y, T.2.2.2.2.1, T.2.2.2.2.2.1, T.2.2.2.2.2.2.1, T.2.2.2.2.2.2.2.1, T.2.2.2.2.2.2.2.2.1, T.2.2.2.2.2.2.2.2.2), F0, tried, nI (400 - j)) ∧ v2 = (M0, nI (400 - j)) ∧ MFr M M0 ∧ (tried = -1 ∨ ∃ l' k', l' ≤ 400 ∧ (∀ F, ∃ F', X1_arrange F (T.1, T.2.1, T.2.2.1, upd T.2.2.2.1 i (nI l'), T.2.2.2.2.1, T.2.2.2.2.2.1, T.2.2.2.2.2.2.1, T.2.2.2.2.2.2.2.1, T.2.2.2.2.2.2.2.2.1, T.2.2.2.2.2.2.2.2.2) = some (nI k', F')) ∧ tried = X5_linesOf (T.1, T.2.1, T.2.2.1, upd T.2.2.2.1 i (nI l'), T.2.2.2.2.1, T.2.2.2.2.2.1, T.2.2.2.2.2.2.1, T.2.2.2.2.2.2.2.1, T.2.2.2.2.2.2.2.2.1, T.2.2.2.2.2.2.2.2.2) (nI i) ∧ nI kp < nI k'))
    (fun X X2 => ∃ a M', X2 = (M', a) ∧ MFr M M' ∧ ((∃ D' F', X = .inl (D', F') ∧ a = nI pr) ∨ ∃ D' F', X = .inr (a, D', F'))) (400 - pr)
    (fun rec rec2 v v2 h => by
      obtain ⟨-, y, F0, tried, M0, rfl, rfl, hf, -⟩ := h
      obtain ⟨M', b1, b2⟩ := kp3 M0 hf
      rw [show 400 - (400 - pr) = pr by omega]
      unfold b_X6_greatestLength_51 b_X7_greatestLength_29
      rw [if_pos (nI_le (Nat.le_refl _) (by omega)), b1, Option.bind_some, if_pos (nI_le (Nat.le_refl _) (by omega))]
      exact ⟨_, _, rfl, rfl, _, _, rfl, b2, Or.inl ⟨_, _, rfl, rfl⟩⟩)
    (fun rec rec2 j v v2 hj h k => by
      obtain ⟨hj2, y, F0, tried, M0, rfl, rfl, hf, htr⟩ := h
      obtain ⟨l, hl⟩ : ∃ l, 400 - j = l + 1 := ⟨400 - j - 1, by omega⟩
      rw [hl]
      obtain ⟨kl, kl1, kl2, kl3⟩ := W (l + 1) (by omega) (by omega)
      obtain ⟨M', b1, b2⟩ := kl3 M0 hf
      obtain ⟨F', b3⟩ := kl2 F0
      have kS := (len_ok tS tM hi (show 1 ≤ l + 1 by omega) (show l + 1 ≤ 400 by omega)).1
      obtain ⟨v0, v1, v2, v3⟩ := lines_x kS hi
      unfold b_X6_greatestLength_51 b_X7_greatestLength_29
      simp only [zlet_e]
      rw [if_neg (nI_ge (show pr < l + 1 by omega) (by omega)), rPut_nI (by decide) _ hi60, upd2, b1, Option.bind_some]
      by_cases c1 : kl ≤ kp
      · rw [if_pos (nI_le c1 (by omega))]
        have nt : ¬ X5_linesOf (T.1, T.2.1, T.2.2.1, upd T.2.2.2.1 i (nI (l + 1)), T.2.2.2.2.1, T.2.2.2.2.2.1, T.2.2.2.2.2.2.1, T.2.2.2.2.2.2.2.1, T.2.2.2.2.2.2.2.2.1, T.2.2.2.2.2.2.2.2.2) (nI i) = tried := by
          intro e
          rcases htr with t | ⟨l', k', -, t1, t2, t3⟩
          · rw [v3, t] at e
            exact nI_pos (n := v0) (by omega) (by rw [e]; decide)
          · rw [t2] at e
            rw [← eW _ _ _ _ kl2 t1 e] at t3
            exact nI_nlt c1 (by omega) t3
        rw [if_neg nt, b3, Option.bind_some, if_neg (show ¬ G.1 < nI kl by rw [s3.2.1]; exact nI_nlt c1 (by omega))]
        exact ⟨_, _, rfl, rfl, _, _, rfl, b2, Or.inr ⟨_, _, rfl⟩⟩
      · rw [if_neg (nI_ge (show kp < kl by omega) (by omega)), pk_m1]
        have el : l = 400 - (j + 1) := by omega
        have hlt : nI kp < nI kl := nI_lt (by omega) (by omega)
        by_cases e : X5_linesOf (T.1, T.2.1, T.2.2.1, upd T.2.2.2.1 i (nI (l + 1)), T.2.2.2.2.1, T.2.2.2.2.2.1, T.2.2.2.2.2.2.1, T.2.2.2.2.2.2.2.1, T.2.2.2.2.2.2.2.2.1, T.2.2.2.2.2.2.2.2.2) (nI i) = tried
        · rw [if_pos e, el]
          rw [el] at e kl2
          exact k _ _ ⟨by omega, _, _, _, _, rfl, rfl, b2, Or.inr ⟨_, kl, by omega, kl2, rfl, hlt⟩⟩
        · rw [if_neg e, b3, Option.bind_some, if_pos (show G.1 < nI kl by rw [s3.2.1]; exact hlt), el]
          rw [el] at kl2
          exact k _ _ ⟨by omega, _, _, _, _, rfl, rfl, b2, Or.inr ⟨_, kl, by omega, kl2, rfl, hlt⟩⟩)
    FU 0 (T, F, -1, 400) (M1, 400) (Nat.zero_le _) ⟨by omega, T.2.2.2.1 i, F, -1, M1, by
      have : upd T.2.2.2.1 i (T.2.2.2.1 i) = T.2.2.2.1 := by
        funext j
        rw [upd_t]
        by_cases h : j = i
        · rw [if_pos h, h]
        · rw [if_neg h]
      rw [this]; rfl, rfl, s2, Or.inl rfl⟩ (show 400 - pr - 0 < 3000 by omega)
  unfold X7_pagesIf
  rw [if_neg h0, if_neg h0, zix0, cl0, hM.1, s1, Option.bind_some, Option.bind_some, s3.2.2.1, rAt_nI (by decide) _ hi60, pr3, g1, g2, Option.bind_some, Option.bind_some, g3, tells_t]
  rcases g5 with ⟨D', F', e1, e2⟩ | ⟨D', F', e1⟩
  · rw [e1]
    exact ⟨(.inl (nI pr), D', F'), a, mTh M' 0, rfl, rfl, ⟨rfl, fun v h => (Sum.inl.inj h).symm.trans e2.symm⟩, Inv_th (Inv_fr hI g4) 0⟩
  · rw [e1]
    exact ⟨(.inl a, D', F'), a, mTh M' 0, rfl, rfl, ⟨rfl, fun v h => (Sum.inl.inj h).symm⟩, Inv_th (Inv_fr hI g4) 0⟩
end MGr

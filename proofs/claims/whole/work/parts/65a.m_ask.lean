-- value, element, scene, page, find, names: class and reference
section MQ2
variable {S : t_Script} {M : t_Model} {n L : Nat} {C : t_Scenes} {G : t_Pages} {Hs : t_Hist} {tl : Int32} {tx : Rw}
theorem MFr_mr {M M' : t_Model} {S : t_Script} {n L : Nat} (h : MFr M M') (hM : MR S M.1 n L) : MR S M'.1 n L := by rw [h.1]; exact hM
theorem m_value (hI : InvC tl S C G Hs tx M) (D : t_Script) (E : t_Scenes) (F : t_Pages) (p1 : Int32) : ∃ R a M', X6_value tl S D C E G F Hs tx p1 = some R ∧ X7_value M p1 = some (a, M') ∧ Ans [(1, 1)] R a M' ∧ InvC tl S C G Hs tx M' := by
  obtain ⟨n, L, hS, hM, hC, ⟨c, hG⟩, hH, hT⟩ := id hI
  obtain ⟨M', s1, s2, s3⟩ := hG M L hM
  have hM' := MFr_mr s2 hM
  have e : X7_in p1 0 7 = X6_isBelow p1 8 := in_b (N := 8) (by decide)
  unfold X6_value X7_value
  simp only [zlet_e]
  rw [zix0, cl0, hM.1, s1, Option.bind_some, e]
  by_cases h0 : X6_isBelow p1 8 = 0
  · rw [if_pos h0, if_pos h0, fails_t]
    exact ⟨_, _, _, rfl, rfl, ⟨rfl, fun v h => by cases h⟩, Inv_th (Inv_fr hI s2) 1⟩
  · obtain ⟨w, hw, rfl⟩ := below_ex (N := 8) (by decide) h0
    rw [if_neg h0, if_neg h0, valueOf_t tl D E F Hs tx hS hM' hC s3 hw, Option.bind_some, tells_t]
    exact ⟨_, _, _, rfl, rfl, ⟨rfl, fun v h => (Sum.inl.inj h).symm⟩, Inv_th (Inv_fr hI s2) 0⟩
theorem m_element (hI : InvC tl S C G Hs tx M) (D : t_Script) (E : t_Scenes) (F : t_Pages) (p1 p2 : Int32) : ∃ R a M', X6_element tl S D C E G F Hs tx p1 p2 = some R ∧ X7_element M p1 p2 = some (a, M') ∧ Ans [(0, 1), (1, 2)] R a M' ∧ InvC tl S C G Hs tx M' := by
  obtain ⟨n, L, hS, hM, hC, ⟨c, hG⟩, hH, hT⟩ := id hI
  obtain ⟨M', s1, s2, s3⟩ := hG M L hM
  have hM' := MFr_mr s2 hM
  have e : X7_in p2 0 9 = X6_isBelow p2 10 := in_b (N := 10) (by decide)
  unfold X6_element X7_element
  simp only [zlet_e]
  rw [isElement_t hS hM, Option.bind_some]
  by_cases h0 : X5_has S p1 = 0
  · rw [if_pos h0, if_pos h0, fails_t]
    exact ⟨_, _, _, rfl, rfl, ⟨rfl, fun v h => by cases h⟩, Inv_th hI 1⟩
  · obtain ⟨i, hi, rfl⟩ := has_ex hS h0
    rw [if_neg h0, if_neg h0, zix0, cl0, hM.1, s1, Option.bind_some, e]
    by_cases h1 : X6_isBelow p2 10 = 0
    · rw [if_pos h1, if_pos h1, fails_t]
      exact ⟨_, _, _, rfl, rfl, ⟨rfl, fun v h => by cases h⟩, Inv_th (Inv_fr hI s2) 2⟩
    · obtain ⟨w, hw, rfl⟩ := below_ex (N := 10) (by decide) h1
      rw [if_neg h1, if_neg h1, elementOf_t tl D E F Hs tx hS hM' hC s3 hi hw, Option.bind_some, tells_t]
      exact ⟨_, _, _, rfl, rfl, ⟨rfl, fun v h => (Sum.inl.inj h).symm⟩, Inv_th (Inv_fr hI s2) 0⟩
theorem m_scene (hI : InvC tl S C G Hs tx M) (D : t_Script) (E : t_Scenes) (F : t_Pages) (p1 p2 : Int32) : ∃ R a M', X6_scene tl S D C E G F Hs tx p1 p2 = some R ∧ X7_scene M p1 p2 = some (a, M') ∧ Ans [(0, 1), (1, 2)] R a M' ∧ InvC tl S C G Hs tx M' := by
  obtain ⟨n, L, hS, hM, hC, ⟨c, hG⟩, hH, hT⟩ := id hI
  obtain ⟨M', s1, s2, s3⟩ := hG M L hM
  have hM' := MFr_mr s2 hM
  have hn := hS.2.2.1
  have hcl := hc_le S.2.2.1 n
  have e : X7_in p2 0 9 = X6_isBelow p2 10 := in_b (N := 10) (by decide)
  have e1 : X7_in p1 0 (nI (hcN S.2.2.1 n) - 1) = X4_has C p1 := by
    unfold X4_has
    simp only [zlet_e]
    rw [in_b (by omega), hC.1]
  unfold X6_scene X7_scene
  simp only [zlet_e]
  rw [sceneMany_t hS hM, Option.bind_some, e1]
  by_cases h0 : X4_has C p1 = 0
  · rw [if_pos h0, if_pos h0, fails_t]
    exact ⟨_, _, _, rfl, rfl, ⟨rfl, fun v h => by cases h⟩, Inv_th hI 1⟩
  · obtain ⟨s, hs, rfl⟩ : ∃ s, s < hcN S.2.2.1 n ∧ p1 = nI s := by
      rw [← e1, in_b (by omega)] at h0
      exact below_ex (by omega) h0
    rw [if_neg h0, if_neg h0, zix0, cl0, hM.1, s1, Option.bind_some, e]
    by_cases h1 : X6_isBelow p2 10 = 0
    · rw [if_pos h1, if_pos h1, fails_t]
      exact ⟨_, _, _, rfl, rfl, ⟨rfl, fun v h => by cases h⟩, Inv_th (Inv_fr hI s2) 2⟩
    · obtain ⟨w, hw, rfl⟩ := below_ex (N := 10) (by decide) h1
      obtain ⟨x, x1, x2⟩ := sceneTold_t tl D E F Hs tx hS hM' hC s3 hs hw
      rw [if_neg h1, if_neg h1, x1, x2, Option.bind_some, Option.bind_some, tells_t]
      exact ⟨_, _, _, rfl, rfl, ⟨rfl, fun v h => (Sum.inl.inj h).symm⟩, Inv_th (Inv_fr hI s2) 0⟩
theorem m_page (hI : InvC tl S C G Hs tx M) (D : t_Script) (E : t_Scenes) (F : t_Pages) (p1 p2 : Int32) : ∃ R a M', X6_page tl S D C E G F Hs tx p1 p2 = some R ∧ X7_page M p1 p2 = some (a, M') ∧ Ans [(0, 1), (1, 2)] R a M' ∧ InvC tl S C G Hs tx M' := by
  obtain ⟨n, L, hS, hM, hC, ⟨c, hG⟩, hH, hT⟩ := id hI
  obtain ⟨M', s1, s2, s3⟩ := hG M L hM
  have hM' := MFr_mr s2 hM
  have hn := hS.2.2.1
  have hcn := s3.1
  have e : X7_in p2 0 4 = X6_isBelow p2 5 := in_b (N := 5) (by decide)
  have e1 : X7_in p1 0 (nI c - 1) = X6_isBelow p1 G.1 := by rw [in_b (by omega), s3.2.1]
  unfold X6_page X7_page
  simp only [zlet_e]
  rw [zix0, cl0, hM.1, s1, Option.bind_some, s3.2.2.1, e1, e]
  by_cases h0 : X6_isBelow p1 G.1 = 0
  · rw [if_pos h0, if_pos h0, fails_t]
    exact ⟨_, _, _, rfl, rfl, ⟨rfl, fun v h => by cases h⟩, Inv_th (Inv_fr hI s2) 1⟩
  · obtain ⟨r, hr, rfl⟩ : ∃ s, s < c ∧ p1 = nI s := by
      rw [s3.2.1] at h0
      exact below_ex (by omega) h0
    rw [if_neg h0, if_neg h0]
    by_cases h1 : X6_isBelow p2 5 = 0
    · rw [if_pos h1, if_pos h1, fails_t]
      exact ⟨_, _, _, rfl, rfl, ⟨rfl, fun v h => by cases h⟩, Inv_th (Inv_fr hI s2) 2⟩
    · obtain ⟨w, hw, rfl⟩ := below_ex (N := 5) (by decide) h1
      rw [if_neg h1, if_neg h1, pageTold_t (C := C) tl D E F Hs tx hS hM' s3 hr hw, Option.bind_some, tells_t]
      exact ⟨_, _, _, rfl, rfl, ⟨rfl, fun v h => (Sum.inl.inj h).symm⟩, Inv_th (Inv_fr hI s2) 0⟩
theorem m_find (hI : InvC tl S C G Hs tx M) (D : t_Script) (E : t_Scenes) (F : t_Pages) (p1 p2 p3 : Int32) : ∃ a M', X6_find tl S D C E G F Hs tx p1 p2 p3 = some a ∧ X7_find M p1 p2 p3 = some (a, M') ∧ InvC tl S C G Hs tx M' := by
  obtain ⟨n, L, hS, hM, hC, hG, hH, hT⟩ := id hI
  have hn := hS.2.2.1
  have hcl := hc_le S.2.2.1 n
  obtain ⟨X, X2, h1, h2, h3⟩ := zl_two (body := b_X6_find_3 tl S D C E G F Hs tx p1 p2 p3) (body2 := b_X7_find_9 p1 p2 p3 M (nI (hcN S.2.2.1 n))) (fun j v v2 => v = nI j ∧ v2 = nI j) (fun X X2 => (X = .inl () ∧ X2 = .inl ()) ∨ ∃ a, X = .inr a ∧ X2 = .inr (a, mTh M 0)) (hcN S.2.2.1 n)
    (fun rec rec2 v v2 h => by
      obtain ⟨rfl, rfl⟩ := h
      unfold b_X6_find_3 b_X7_find_9
      rw [if_pos (show C.1 ≤ _ by rw [hC.1]; exact nI_le (Nat.le_refl _) (by omega)), if_pos (nI_le (Nat.le_refl _) (by omega))]
      exact ⟨_, _, rfl, rfl, Or.inl ⟨rfl, rfl⟩⟩)
    (fun rec rec2 j v v2 hj h k => by
      obtain ⟨rfl, rfl⟩ := h
      obtain ⟨h, k1, k2, k3⟩ := hc_ex hj
      obtain ⟨l0, l1, l2⟩ := label_t hS hM k1 k2
      obtain ⟨-, c1, c2, c3⟩ := hC.2.2.2.1 h k1 k2
      rw [k3] at c1 c2 c3
      have hh : X7_headingOf M (nI j) = some (nI h) := by rw [← k3]; exact headingOf_t hS hM k1 k2
      have aj : ∀ f : Rw, rAt 60 f (nI j) = f j := fun f => rAt_nI (by decide) f (by omega)
      unfold b_X6_find_3 b_X7_find_9
      simp only [zlet_e, nI_1, aj]
      rw [if_neg (show ¬ C.1 ≤ _ by rw [hC.1]; exact nI_ge hj (by omega)), if_neg (nI_ge hj (by omega)), hh, Option.bind_some, l0, Option.bind_some, c1, c2, c3]
      by_cases a1 : lbA S n h = p1
      · rw [if_pos a1, if_pos a1, l1, Option.bind_some]
        by_cases a2 : lbB S n h = p2
        · rw [if_pos a2, if_pos a2, l2, Option.bind_some]
          by_cases a3 : lbC S n h = p3
          · rw [if_pos a3, if_pos a3, tells_t]
            exact ⟨_, _, rfl, rfl, Or.inr ⟨_, rfl, rfl⟩⟩
          · rw [if_neg a3, if_neg a3]
            exact k _ _ ⟨rfl, rfl⟩
        · rw [if_neg a2, if_neg a2]
          exact k _ _ ⟨rfl, rfl⟩
      · rw [if_neg a1, if_neg a1]
        exact k _ _ ⟨rfl, rfl⟩)
    FU 0 0 0 (Nat.zero_le _) ⟨rfl, rfl⟩ (show hcN S.2.2.1 n - 0 < 3000 by omega)
  unfold X6_find X7_find
  rw [h1, Option.bind_some, sceneMany_t hS hM, Option.bind_some, h2, Option.bind_some]
  rcases h3 with ⟨a, b⟩ | ⟨x, a, b⟩
  · rw [a, b]
    exact ⟨-1, mTh M 0, rfl, rfl, Inv_th hI 0⟩
  · rw [a, b]
    exact ⟨x, mTh M 0, rfl, rfl, Inv_th hI 0⟩
theorem m_names (hI : InvC tl S C G Hs tx M) (D : t_Script) (E : t_Scenes) (F : t_Pages) (p1 p2 : Int32) : ∃ R a M', X6_names tl S D C E G F Hs tx p1 p2 = some R ∧ X7_names M p1 p2 = some (a, M') ∧ Ans [(1, 1)] R a M' ∧ InvC tl S C G Hs tx M' := by
  obtain ⟨n, L, hS, hM, hC, hG, hH, hT⟩ := id hI
  have hn := hS.2.2.1
  have e : X7_in p1 0 9 = X6_isBelow p1 10 := in_b (N := 10) (by decide)
  unfold X6_names X7_names j_X6_names_10
  simp only [zlet_e]
  rw [e]
  by_cases h0 : X6_isBelow p1 10 = 0
  · have hh : ∀ A : Option (Int32 ⊕ Nat), (if p1 < 0 then some (.inr 1) else if p1 ≤ 9 then A else some (.inr 1)) = some (.inr 1) := by
      intro A
      by_cases a : p1 < 0
      · rw [if_pos a]
      · rw [if_neg a]
        by_cases b : p1 ≤ 9
        · exfalso
          unfold X6_isBelow at h0
          obtain ⟨q, hq, rfl⟩ := nI_of a
          have : q ≤ 9 := (nI_leI hq (by decide)).mp b
          rw [if_neg a, if_neg (show ¬ (10 : Int32) ≤ nI q from nI_ge (b := 10) (by omega) (by decide))] at h0
          exact absurd h0 (by decide)
        · rw [if_neg b]
    rw [hh, if_pos h0, fails_t]
    exact ⟨_, _, _, rfl, rfl, ⟨rfl, fun v h => by cases h⟩, Inv_th hI 1⟩
  · obtain ⟨q, hq, rfl⟩ := below_ex (N := 10) (by decide) h0
    have nq : ¬ nI q = -1 := fun x => nI_pos (n := q) (by omega) (by rw [x]; decide)
    obtain ⟨X, h1, h2⟩ := zl_up (body := b_X6_names_25 tl S D C E G F Hs tx (nI q) p2) (fun j v => v = (nI (ctN (nmN S (nI q) p2) j), nI j)) (fun X => X = nI (ctN (nmN S (nI q) p2) n)) n
      (fun rec v h => by
        subst h
        unfold b_X6_names_25
        rw [if_pos (show S.1 ≤ nI n by rw [hS.1]; exact nI_le (Nat.le_refl _) (by omega))]
        exact ⟨_, rfl, rfl⟩)
      (fun rec j v hj h k => by
        subst h
        have aj : ∀ f : Rw, rAt 60 f (nI j) = f j := fun f => rAt_nI (by decide) f (hS.lt hj)
        have k' : ∀ v', v' = (nI (ctN (nmN S (nI q) p2) j + (if nmN S (nI q) p2 j then 1 else 0)), nI (j + 1)) → ∃ X, rec v' = some X ∧ X = nI (ctN (nmN S (nI q) p2) n) := k
        unfold b_X6_names_25
        simp only [zlet_e, nI_1, aj]
        rw [if_neg (show ¬ S.1 ≤ nI j by rw [hS.1]; exact nI_ge hj (by omega)), (hC.2.2.2.2.2 j hj).2]
        by_cases a1 : S.2.2.2.2.1 j = nI q
        · have kd : S.2.2.1 j = 2 := by
            by_cases c : S.2.2.1 j = 2
            · exact c
            · exact absurd (a1 ▸ (hS.e hj).2.2.2.1 c) nq
          rw [if_pos a1]
          by_cases a2 : p2 = 0
          · rw [if_pos a2]
            exact k' _ (by simp [nmN, kd, a1, a2])
          · rw [if_neg a2]
            by_cases a3 : crN S.2.2.1 S.2.2.2.2.1 j = true
            · rw [if_pos a3, if_pos rfl]
              exact k' _ (by simp [nmN, kd, a1, a3])
            · rw [if_neg a3, if_neg (by decide)]
              exact k' _ (by simp [nmN, a2, a3])
        · rw [if_neg a1]
          exact k' _ (by simp [nmN, a1, nq]))
      FU 0 (0, 0) (Nat.zero_le _) rfl (show n - 0 < 3000 by omega)
    rw [if_neg (nI_pos (by omega)), if_pos (show nI q ≤ (9 : Int32) from nI_le (b := 9) (by omega) (by decide)), h1, Option.bind_some, h2, if_neg h0, namesOf_t hS hM, Option.bind_some, tells_t]
    exact ⟨_, _, _, rfl, rfl, ⟨rfl, fun v h => (Sum.inl.inj h).symm⟩, Inv_th hI 0⟩
end MQ2

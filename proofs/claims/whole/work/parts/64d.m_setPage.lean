-- insert, remove, setLength, setPage, append, clearText, undo: class and reference
section MO
variable {S : t_Script} {M : t_Model} {n L : Nat} {C : t_Scenes} {G : t_Pages} {Hs : t_Hist} {tl : Int32} {tx : Rw}
theorem m_setPage (hI : InvC tl S C G Hs tx M) (D : t_Script) (E : t_Scenes) (F : t_Pages) (p1 : Int32) : ∃ R a M', X6_setPage tl S D C E G F Hs tx p1 = some R ∧ X7_setPage M p1 = some (a, M') ∧ Ans [(1, 1)] R.1 a M' ∧ InvC tl R.2.1 R.2.2.2.1 R.2.2.2.2.1 R.2.2.2.2.2 tx M' := by
  obtain ⟨n, L, hS, hM, hC, hG, hH, hT⟩ := id hI
  have hn := hS.2.2.1
  have e : X7_isPage p1 = X6_isPageLines p1 := rfl
  unfold X6_setPage X7_setPage
  rw [e]
  simp only [zlet_e]
  by_cases h0 : X6_isPageLines p1 = 0
  · rw [if_pos h0, if_pos h0, fails_t]
    exact ⟨_, _, _, rfl, rfl, ⟨rfl, fun v h => by cases h⟩, Inv_th hI 1⟩
  · obtain ⟨l, l1, l2, rfl⟩ : ∃ l, 20 ≤ l ∧ l ≤ 60 ∧ p1 = nI l := by
      unfold X6_isPageLines at h0
      by_cases h1 : p1 < 20
      · rw [if_pos h1] at h0; exact absurd rfl h0
      · rw [if_neg h1] at h0
        by_cases h2 : 60 < p1
        · rw [if_pos h2] at h0; exact absurd rfl h0
        · have h3 : ¬ p1 < 0 := by
            intro h3
            apply h1
            rw [Int32.lt_iff_toInt_lt] at h3 ⊢
            exact Int.lt_trans h3 (by decide)
          obtain ⟨l, hl, rfl⟩ := nI_of h3
          have a : ¬ l < 20 := fun c => h1 (nI_lt (b := 20) c (by decide))
          have b : ¬ 60 < l := fun c => h2 (nI_lt (a := 60) c hl)
          exact ⟨l, by omega, by omega, rfl⟩
    rw [if_neg h0, if_neg h0]
    obtain ⟨a, a1, a2, a3⟩ := hold_mr hS hM
    have cp := copy_eq (S := S) (D := D) hn
    obtain ⟨T, hT9⟩ : ∃ T, T = X5_copyFrom D S := ⟨_, rfl⟩
    rw [← hT9] at cp ⊢
    have tS := cp.ok hS
    have tM := cp.mr a3
    have kS : SOK (T.1, nI l, T.2.2.1, T.2.2.2.1, T.2.2.2.2.1, T.2.2.2.2.2.1, T.2.2.2.2.2.2.1, T.2.2.2.2.2.2.2.1, T.2.2.2.2.2.2.2.2.1, T.2.2.2.2.2.2.2.2.2) n l := ⟨tS.1, rfl, tS.2.2.1, l1, l2, tS.2.2.2.2.2⟩
    have kM : MR (T.1, nI l, T.2.2.1, T.2.2.2.1, T.2.2.2.2.1, T.2.2.2.2.2.1, T.2.2.2.2.2.2.1, T.2.2.2.2.2.2.2.1, T.2.2.2.2.2.2.2.2.1, T.2.2.2.2.2.2.2.2.2) (mSet (mAs M a) (upd (mAs M a).1 0 (nI l))).1 n l := by
      refine ⟨by rw [mSet_s, pk_us], ?_, fun j hj => ?_⟩
      · rw [mSet_s, pk_un (by omega)]; exact tM.2.1
      · obtain ⟨e0, e1, e2, e3, e4, e5, e6, e7, e8⟩ := tM.2.2 j hj
        unfold ERel
        rw [mSet_s]
        exact ⟨by rw [pk_un (by omega)]; exact e0, by rw [pk_un (by omega)]; exact e1, by rw [pk_un (by omega)]; exact e2, by rw [pk_un (by omega)]; exact e3, by rw [pk_un (by omega)]; exact e4, by rw [pk_un (by omega)]; exact e5, by rw [pk_un (by omega)]; exact e6, by rw [pk_un (by omega)]; exact e7, by rw [pk_un (by omega)]; exact e8⟩
    obtain ⟨S', C', G', Hs', M2, k1, k2, k3, k4, k5⟩ := keep_t (M1 := mSet (mAs M a) (upd (mAs M a).1 0 (nI l))) (C := C) (G := G) hH hS a2 kS kM hT E F (nI L)
    refine ⟨(.inl S.2.1, S', (T.1, nI l, T.2.2.1, T.2.2.2.1, T.2.2.2.2.1, T.2.2.2.2.2.1, T.2.2.2.2.2.2.1, T.2.2.2.2.2.2.2.1, T.2.2.2.2.2.2.2.2.1, T.2.2.2.2.2.2.2.2.2), C', G', Hs'), nI L, M2, ?_, ?_, ⟨?_, fun v h => ?_⟩, k5⟩
    · rw [k1, Option.bind_some]
    · rw [a1, Option.bind_some, zix0, zix0, cl0, a3.1, show (upd (mAs M a).1 0 (nI l), (mAs M a).2.1, (mAs M a).2.2.1, (mAs M a).2.2.2.1, (mAs M a).2.2.2.2.1, (mAs M a).2.2.2.2.2.1, (mAs M a).2.2.2.2.2.2.1, (mAs M a).2.2.2.2.2.2.2.1, (mAs M a).2.2.2.2.2.2.2.2.1, (mAs M a).2.2.2.2.2.2.2.2.2.1, (mAs M a).2.2.2.2.2.2.2.2.2.2.1, (mAs M a).2.2.2.2.2.2.2.2.2.2.2.1, (mAs M a).2.2.2.2.2.2.2.2.2.2.2.2.1, (mAs M a).2.2.2.2.2.2.2.2.2.2.2.2.2.1, (mAs M a).2.2.2.2.2.2.2.2.2.2.2.2.2.2.1, (mAs M a).2.2.2.2.2.2.2.2.2.2.2.2.2.2.2.1, (mAs M a).2.2.2.2.2.2.2.2.2.2.2.2.2.2.2.2.1, (mAs M a).2.2.2.2.2.2.2.2.2.2.2.2.2.2.2.2.2.1, (mAs M a).2.2.2.2.2.2.2.2.2.2.2.2.2.2.2.2.2.2) = mSet (mAs M a) (upd (mAs M a).1 0 (nI l)) from rfl, k2, Option.bind_some]
    · show some (0 : Int32) = some M2.2.2.2.2.2.2.1
      rw [k3]
    · exact (Sum.inl.inj h).symm.trans (hS.2.1)
end MO

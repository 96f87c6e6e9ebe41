-- insert, remove, setLength, setPage, append, clearText, undo: class and reference
section MO
variable {S : t_Script} {M : t_Model} {n L : Nat} {C : t_Scenes} {G : t_Pages} {Hs : t_Hist} {tl : Int32} {tx : Rw}
theorem m_setLength (hI : InvC tl S C G Hs tx M) (D : t_Script) (E : t_Scenes) (F : t_Pages) (p1 p2 : Int32) : ∃ R a M', X6_setLength tl S D C E G F Hs tx p1 p2 = some R ∧ X7_setLength M p1 p2 = some (a, M') ∧ Ans [(0, 1), (1, 2)] R.1 a M' ∧ InvC tl R.2.1 R.2.2.2.1 R.2.2.2.2.1 R.2.2.2.2.2 tx M' := by
  obtain ⟨n, L, hS, hM, hC, hG, hH, hT⟩ := id hI
  have hn := hS.2.2.1
  unfold X6_setLength X7_setLength
  rw [isElement_t hS hM, Option.bind_some]
  simp only [zlet_e]
  by_cases h0 : X5_has S p1 = 0
  · rw [if_pos h0, if_pos h0, fails_t]
    exact ⟨_, _, _, rfl, rfl, ⟨rfl, fun v h => by cases h⟩, Inv_th hI 1⟩
  · obtain ⟨i, hi, rfl⟩ := has_ex hS h0
    rw [if_neg h0, if_neg h0, in_length]
    by_cases hl : X6_isLength p2 = 0
    · rw [if_pos hl, if_pos hl, fails_t]
      exact ⟨_, _, _, rfl, rfl, ⟨rfl, fun v h => by cases h⟩, Inv_th hI 2⟩
    · obtain ⟨l, l1, l2, rfl⟩ := length_ex hl
      rw [if_neg hl, if_neg hl]
      obtain ⟨a, a1, a2, a3⟩ := hold_mr hS hM
      have cp := copy_eq (S := S) (D := D) hn
      obtain ⟨T, hT9⟩ : ∃ T, T = X5_copyFrom D S := ⟨_, rfl⟩
      rw [← hT9] at cp ⊢
      have tS := cp.ok hS
      have tM := cp.mr a3
      rw [rPut_nI (by decide) _ (hS.lt hi)]
      have kS : SOK (T.1, T.2.1, T.2.2.1, upd T.2.2.2.1 i (nI l), T.2.2.2.2.1, T.2.2.2.2.2.1, T.2.2.2.2.2.2.1, T.2.2.2.2.2.2.2.1, T.2.2.2.2.2.2.2.2.1, T.2.2.2.2.2.2.2.2.2) n L := ⟨tS.1, tS.2.1, tS.2.2.1, tS.2.2.2.1, tS.2.2.2.2.1, fun j hj => by
        obtain ⟨e1, e2, e3⟩ := tS.e hj
        refine ⟨e1, ?_, e3⟩
        show ∃ l', 1 ≤ l' ∧ l' ≤ 400 ∧ upd T.2.2.2.1 i (nI l) j = nI l'
        by_cases c : j = i
        · subst c; rw [pk_us]; exact ⟨l, l1, l2, rfl⟩
        · rw [pk_un c]; exact e2⟩
      have kM : MR (T.1, T.2.1, T.2.2.1, upd T.2.2.2.1 i (nI l), T.2.2.2.2.1, T.2.2.2.2.2.1, T.2.2.2.2.2.2.1, T.2.2.2.2.2.2.2.1, T.2.2.2.2.2.2.2.2.1, T.2.2.2.2.2.2.2.2.2) (mSet (mAs M a) (upd (mAs M a).1 (2 + 9 * i + 1) (nI l))).1 n L := by
        refine ⟨?_, ?_, fun j hj => ?_⟩
        · rw [mSet_s, pk_un (by omega)]; exact tM.1
        · rw [mSet_s, pk_un (by omega)]; exact tM.2.1
        · obtain ⟨e0, e1, e2, e3, e4, e5, e6, e7, e8⟩ := tM.2.2 j hj
          unfold ERel
          rw [mSet_s]
          refine ⟨by rw [pk_un (by omega)]; exact e0, ?_, by rw [pk_un (by omega)]; exact e2, by rw [pk_un (by omega)]; exact e3, by rw [pk_un (by omega)]; exact e4, by rw [pk_un (by omega)]; exact e5, by rw [pk_un (by omega)]; exact e6, by rw [pk_un (by omega)]; exact e7, by rw [pk_un (by omega)]; exact e8⟩
          show upd _ _ _ _ = upd T.2.2.2.1 i (nI l) j
          by_cases c : j = i
          · subst c; rw [pk_us, pk_us]
          · rw [pk_un (by omega), pk_un c]; exact e1
      obtain ⟨S', C', G', Hs', M2, k1, k2, k3, k4, k5⟩ := keep_t (M1 := mSet (mAs M a) (upd (mAs M a).1 (2 + 9 * i + 1) (nI l))) (C := C) (G := G) hH hS a2 kS kM hT E F (X5_linesOf (T.1, T.2.1, T.2.2.1, upd T.2.2.2.1 i (nI l), T.2.2.2.2.1, T.2.2.2.2.2.1, T.2.2.2.2.2.2.1, T.2.2.2.2.2.2.2.1, T.2.2.2.2.2.2.2.2.1, T.2.2.2.2.2.2.2.2.2) (nI i))
      have w1 : X7_puts (mAs M a) (nI i) 1 (nI l) = some (mSet (mAs M a) (upd (mAs M a).1 (2 + 9 * i + 1) (nI l))) := puts_t (mAs M a) (w := 1) (hS.lt hi) (by decide) (nI l)
      refine ⟨(.inl (X5_linesOf S' (nI i)), S', (T.1, T.2.1, T.2.2.1, upd T.2.2.2.1 i (nI l), T.2.2.2.2.1, T.2.2.2.2.2.1, T.2.2.2.2.2.2.1, T.2.2.2.2.2.2.2.1, T.2.2.2.2.2.2.2.2.1, T.2.2.2.2.2.2.2.2.2), C', G', Hs'), X5_linesOf (T.1, T.2.1, T.2.2.1, upd T.2.2.2.1 i (nI l), T.2.2.2.2.1, T.2.2.2.2.2.1, T.2.2.2.2.2.2.1, T.2.2.2.2.2.2.2.1, T.2.2.2.2.2.2.2.2.1, T.2.2.2.2.2.2.2.2.2) (nI i), M2, ?_, ?_, ⟨?_, fun v h => ?_⟩, k5⟩
      · rw [k1, Option.bind_some]
      · rw [a1, Option.bind_some, w1, Option.bind_some, lines_t kS kM hi, Option.bind_some, k2, Option.bind_some]
      · show some (0 : Int32) = some M2.2.2.2.2.2.2.1
        rw [k3]
      · exact (Sum.inl.inj h).symm.trans (lines_seq k4 hn hi)
end MO

-- insert, remove, setLength, setPage, append, clearText, undo: class and reference
section MO
variable {S : t_Script} {M : t_Model} {n L : Nat} {C : t_Scenes} {G : t_Pages} {Hs : t_Hist} {tl : Int32} {tx : Rw}
theorem m_remove (hI : InvC tl S C G Hs tx M) (D : t_Script) (E : t_Scenes) (F : t_Pages) (p1 : Int32) : ∃ R a M', X6_remove tl S D C E G F Hs tx p1 = some R ∧ X7_remove M p1 = some (a, M') ∧ Ans [(0, 1), (2, 2)] R.1 a M' ∧ InvC tl R.2.1 R.2.2.2.1 R.2.2.2.2.1 R.2.2.2.2.2 tx M' := by
  obtain ⟨n, L, hS, hM, hC, hG, hH, hT⟩ := id hI
  have hn := hS.2.2.1
  unfold X6_remove X7_remove
  rw [isElement_t hS hM, Option.bind_some]
  simp only [zlet_e]
  by_cases h0 : X5_has S p1 = 0
  · rw [if_pos h0, if_pos h0, fails_t]
    exact ⟨_, _, _, rfl, rfl, ⟨rfl, fun v h => by cases h⟩, Inv_th hI 1⟩
  · obtain ⟨i, hi, rfl⟩ := has_ex hS h0
    rw [if_neg h0, if_neg h0, lock_t hS hM hi, Option.bind_some, lock_x hS hi]
    by_cases hl : S.2.2.2.2.2.2.1 i = 0
    · rw [if_pos hl, if_pos rfl, if_pos rfl]
      obtain ⟨a, a1, a2, a3⟩ := hold_mr hS hM
      have cp := copy_eq (S := S) (D := D) hn
      obtain ⟨T', m, t1, t2, t3, t4, -, -⟩ := goes_t (cp.ok hS) (M := mAs M a) (cp.mr a3) hi
      rw [a1, Option.bind_some, t1, Option.bind_some, t2, Option.bind_some, mSet_s, zix1, cl1, t4.2.1]
      obtain ⟨S', C', G', Hs', M2, k1, k2, k3, k4, k5⟩ := keep_t (M1 := mSet (mAs M a) m) (C := C) (G := G) hH hS a2 t3 t4 hT E F (nI (n - 1))
      refine ⟨(.inl S'.1, S', T', C', G', Hs'), nI (n - 1), M2, ?_, ?_, ⟨?_, fun v h => ?_⟩, k5⟩
      · rw [k1, Option.bind_some]
      · rw [k2, Option.bind_some]
      · show some (0 : Int32) = some M2.2.2.2.2.2.2.1
        rw [k3]
      · exact (Sum.inl.inj h).symm.trans (k4.1.trans t3.1)
    · rw [if_neg hl, if_neg (by decide), if_neg (by decide), fails_t]
      exact ⟨_, _, _, rfl, rfl, ⟨rfl, fun v h => by cases h⟩, Inv_th hI 2⟩
end MO

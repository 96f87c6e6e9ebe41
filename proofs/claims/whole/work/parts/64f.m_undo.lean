-- insert, remove, setLength, setPage, append, clearText, undo: class and reference
section MO
variable {S : t_Script} {M : t_Model} {n L : Nat} {C : t_Scenes} {G : t_Pages} {Hs : t_Hist} {tl : Int32} {tx : Rw}
theorem m_undo (hI : InvC tl S C G Hs tx M) (D : t_Script) (E : t_Scenes) (F : t_Pages) : ∃ R a M', X6_undo tl S D C E G F Hs tx = some R ∧ X7_undo M = some (a, M') ∧ Ans [(2, 1)] R.1 a M' ∧ InvC tl R.2.1 R.2.2.1 R.2.2.2.1 R.2.2.2.2 tx M' := by
  obtain ⟨n, L, hS, hM, hC, hG, ⟨c, hc, e1, e2, hok, hinj, hst⟩, hT⟩ := id hI
  unfold X6_undo X7_undo
  simp only [zlet_e]
  by_cases h0 : c = 0
  · subst h0
    rw [if_pos (show Hs.1 = 0 by rw [e1]; exact nI_0), if_pos (show M.2.2.2.1 = 0 by rw [e2]; exact nI_0), fails_t]
    exact ⟨_, _, _, rfl, rfl, ⟨rfl, fun v h => by cases h⟩, Inv_th hI 1⟩
  · obtain ⟨d, rfl⟩ : ∃ d, c = d + 1 := ⟨c - 1, by omega⟩
    obtain ⟨n', L', s1, s2⟩ := hst d (by omega)
    rw [if_neg (show ¬ Hs.1 = 0 by rw [e1]; exact nI_ne0 (by omega) (by omega)), if_neg (show ¬ M.2.2.2.1 = 0 by rw [e2]; exact nI_ne0 (by omega) (by omega))]
    unfold X0_giveBack
    rw [if_pos ⟨hok, by rw [e1]; exact nI_lt (a := 0) (by omega) (by omega), by rw [e1]; exact nI_le (b := 4) hc (by decide)⟩, Option.bind_some]
    have ep : M.2.2.2.1 - 1 = nI d := by rw [e2, nI_pred]
    have eh : Hs.1 - 1 = nI d := by rw [e1, nI_pred]
    have cd : (nI d).toNatClampNeg = d := nI_clamp (by omega)
    obtain ⟨T, hT9⟩ : ∃ T, T = Hs.2.2 (Hs.2.1 d) := ⟨_, rfl⟩
    rw [← hT9] at s1 s2
    have cp := copy_eq (S := T) (D := S) s1.2.2.1
    obtain ⟨m, m1, m2⟩ := undo25_t (M.1, M.2.1, M.2.2.1, nI d, M.2.2.2.2.1, M.2.2.2.2.2.1, M.2.2.2.2.2.2.1, M.2.2.2.2.2.2.2.1, M.2.2.2.2.2.2.2.2.1, M.2.2.2.2.2.2.2.2.2.1, M.2.2.2.2.2.2.2.2.2.2.1, M.2.2.2.2.2.2.2.2.2.2.2.1, M.2.2.2.2.2.2.2.2.2.2.2.2.1, M.2.2.2.2.2.2.2.2.2.2.2.2.2.1, M.2.2.2.2.2.2.2.2.2.2.2.2.2.2.1, M.2.2.2.2.2.2.2.2.2.2.2.2.2.2.2.1, M.2.2.2.2.2.2.2.2.2.2.2.2.2.2.2.2.1, M.2.2.2.2.2.2.2.2.2.2.2.2.2.2.2.2.2.1, M.2.2.2.2.2.2.2.2.2.2.2.2.2.2.2.2.2.2) (c := d) (by omega) rfl
    have k1 := cp.ok s1
    have k2 : MR (X5_copyFrom S T) (mSet (M.1, M.2.1, M.2.2.1, nI d, M.2.2.2.2.1, M.2.2.2.2.2.1, M.2.2.2.2.2.2.1, M.2.2.2.2.2.2.2.1, M.2.2.2.2.2.2.2.2.1, M.2.2.2.2.2.2.2.2.2.1, M.2.2.2.2.2.2.2.2.2.2.1, M.2.2.2.2.2.2.2.2.2.2.2.1, M.2.2.2.2.2.2.2.2.2.2.2.2.1, M.2.2.2.2.2.2.2.2.2.2.2.2.2.1, M.2.2.2.2.2.2.2.2.2.2.2.2.2.2.1, M.2.2.2.2.2.2.2.2.2.2.2.2.2.2.2.1, M.2.2.2.2.2.2.2.2.2.2.2.2.2.2.2.2.1, M.2.2.2.2.2.2.2.2.2.2.2.2.2.2.2.2.2.1, M.2.2.2.2.2.2.2.2.2.2.2.2.2.2.2.2.2.2) m).1 n' L' := cp.mr (MR_congr s1.2.2.1 m2 s2)
    obtain ⟨C', h4, h5⟩ := survey_t k1 C
    obtain ⟨G', h6, h7⟩ := arrange_t k1 G k2
    rw [ep, eh, cd, ← hT9, m1, Option.bind_some, h4, Option.bind_some, h6, Option.bind_some, tells_t]
    refine ⟨_, _, _, rfl, rfl, ⟨rfl, fun v h => ?_⟩, n', L', k1, k2, h5, h7, ⟨d, by omega, rfl, rfl, hok, hinj, fun j hj => ?_⟩, hT⟩
    · exact (Sum.inl.inj h).symm
    · exact hst j (by omega)
end MO

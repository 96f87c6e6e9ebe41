-- insert, remove, setLength, setPage, append, clearText, undo: class and reference
section MO
variable {S : t_Script} {M : t_Model} {n L : Nat} {C : t_Scenes} {G : t_Pages} {Hs : t_Hist} {tl : Int32} {tx : Rw}
theorem m_append (hI : InvC tl S C G Hs tx M) (D : t_Script) (E : t_Scenes) (F : t_Pages) (p1 : Int32) : ∃ R a M', X6_append tl S D C E G F Hs tx p1 = some R ∧ X7_append M p1 = some (a, M') ∧ Ans [(1, 1), (2, 2)] R.1 a M' ∧ InvC R.2.1 S C G Hs R.2.2 M' := by
  obtain ⟨n, L, hS, hM, hC, hG, hH, t, t1, t2, t3, t4⟩ := id hI
  unfold X6_append X7_append j_X6_append_10
  simp only [zlet_e]
  by_cases h0 : p1 < 0
  · have hin : X7_in p1 0 127 = 0 := by unfold X7_in; rw [if_pos h0]
    rw [if_pos h0, hin, if_pos rfl, fails_t]
    exact ⟨_, _, _, rfl, rfl, ⟨rfl, fun v h => by cases h⟩, Inv_th hI 1⟩
  · obtain ⟨q, hq, rfl⟩ := nI_of h0
    by_cases h1 : 127 < q
    · have hin : X7_in (nI q) 0 127 = 0 := by unfold X7_in; rw [if_neg h0, if_pos (show (127 : Int32) < nI q from nI_lt (a := 127) h1 hq)]
      rw [if_neg h0, if_neg (show ¬ nI q ≤ (127 : Int32) from nI_ge (a := 127) h1 hq), hin, if_pos rfl, fails_t]
      exact ⟨_, _, _, rfl, rfl, ⟨rfl, fun v h => by cases h⟩, Inv_th hI 1⟩
    · have hin : X7_in (nI q) 0 127 = 1 := by unfold X7_in; rw [if_neg h0, if_neg (show ¬ (127 : Int32) < nI q from nI_nlt (a := 127) (by omega) (by decide))]
      rw [if_neg h0, if_pos (show nI q ≤ (127 : Int32) from nI_le (b := 127) (by omega) (by decide)), hin, if_neg (show ¬ (1 : Int32) = 0 by decide)]
      by_cases h2 : t = 200
      · rw [if_neg (show ¬ tl < 200 by rw [t2, h2]; decide), if_pos (show M.2.2.2.2.2.1 = 200 by rw [t3, h2]; rfl), fails_t]
        exact ⟨_, _, _, rfl, rfl, ⟨rfl, fun v h => by cases h⟩, Inv_th hI 2⟩
      · rw [if_pos (show tl < 200 by rw [t2]; exact nI_lt (b := 200) (by omega) (by decide)), if_neg (show ¬ M.2.2.2.2.2.1 = 200 by rw [t3]; exact fun h => h2 ((nI_eq (b := 200) (by omega) (by decide)).mp h)), t3, t2, zix_nI (by omega) (by decide), nI_clamp (by omega), rPut_nI (by decide) _ (by omega), nI_1, tells_t]
        refine ⟨(.inl (nI (t + 1)), nI (t + 1), upd tx t (nI q)), nI (t + 1), mTh (M.1, M.2.1, M.2.2.1, M.2.2.2.1, upd M.2.2.2.2.1 t (nI q), nI (t + 1), M.2.2.2.2.2.2.1, M.2.2.2.2.2.2.2.1, M.2.2.2.2.2.2.2.2.1, M.2.2.2.2.2.2.2.2.2.1, M.2.2.2.2.2.2.2.2.2.2.1, M.2.2.2.2.2.2.2.2.2.2.2.1, M.2.2.2.2.2.2.2.2.2.2.2.2.1, M.2.2.2.2.2.2.2.2.2.2.2.2.2.1, M.2.2.2.2.2.2.2.2.2.2.2.2.2.2.1, M.2.2.2.2.2.2.2.2.2.2.2.2.2.2.2.1, M.2.2.2.2.2.2.2.2.2.2.2.2.2.2.2.2.1, M.2.2.2.2.2.2.2.2.2.2.2.2.2.2.2.2.2.1, M.2.2.2.2.2.2.2.2.2.2.2.2.2.2.2.2.2.2) 0, rfl, rfl, ⟨rfl, fun v h => (Sum.inl.inj h).symm⟩, n, L, hS, hM, hC, hG, hH, t + 1, by omega, rfl, rfl, fun j hj => ?_⟩
        show upd tx t (nI q) j = upd M.2.2.2.2.1 t (nI q) j
        by_cases c : j = t
        · subst c; rw [pk_us, pk_us]
        · rw [pk_un c, pk_un c]; exact t4 j hj
theorem m_clearText (hI : InvC tl S C G Hs tx M) (D : t_Script) (E : t_Scenes) (F : t_Pages) : ∃ R M', X6_clearText tl S D C E G F Hs tx = R ∧ X7_clearText M = (R.1, M') ∧ InvC R.2 S C G Hs tx M' := by
  obtain ⟨n, L, hS, hM, hC, hG, hH, t, t1, t2, t3, t4⟩ := id hI
  refine ⟨_, mTh (M.1, M.2.1, M.2.2.1, M.2.2.2.1, M.2.2.2.2.1, 0, M.2.2.2.2.2.2.1, M.2.2.2.2.2.2.2.1, M.2.2.2.2.2.2.2.2.1, M.2.2.2.2.2.2.2.2.2.1, M.2.2.2.2.2.2.2.2.2.2.1, M.2.2.2.2.2.2.2.2.2.2.2.1, M.2.2.2.2.2.2.2.2.2.2.2.2.1, M.2.2.2.2.2.2.2.2.2.2.2.2.2.1, M.2.2.2.2.2.2.2.2.2.2.2.2.2.2.1, M.2.2.2.2.2.2.2.2.2.2.2.2.2.2.2.1, M.2.2.2.2.2.2.2.2.2.2.2.2.2.2.2.2.1, M.2.2.2.2.2.2.2.2.2.2.2.2.2.2.2.2.2.1, M.2.2.2.2.2.2.2.2.2.2.2.2.2.2.2.2.2.2) 0, rfl, ?_, n, L, hS, hM, hC, hG, hH, 0, by omega, rfl, rfl, t4⟩
  unfold X7_clearText X6_clearText
  simp only [zlet_e]
  rw [tells_t, t3, t2]
end MO

-- insert, remove, setLength, setPage, append, clearText, undo: class and reference
section MO
variable {S : t_Script} {M : t_Model} {n L : Nat} {C : t_Scenes} {G : t_Pages} {Hs : t_Hist} {tl : Int32} {tx : Rw}
theorem m_insert (hI : InvC tl S C G Hs tx M) (D : t_Script) (E : t_Scenes) (F : t_Pages) (p1 p2 p3 p4 : Int32) : ∃ R a M', X6_insert tl S D C E G F Hs tx p1 p2 p3 p4 = some R ∧ X7_insert M p1 p2 p3 p4 = some (a, M') ∧ Ans [(0, 1), (1, 2), (2, 3)] R.1 a M' ∧ InvC tl R.2.1 R.2.2.2.1 R.2.2.2.2.2.1 R.2.2.2.2.2.2 tx M' := by
  obtain ⟨n, L, hS, hM, hC, hG, hH, hT⟩ := id hI
  have hn := hS.2.2.1
  unfold X6_insert X7_insert
  simp only [zlet_e]
  rw [zix1, cl1, hM.2.1, show S.1 = nI n from hS.1, in_kind, in_length]
  by_cases h0 : p1 < 0
  · have hin : X7_in p1 0 (nI n) = 0 := by unfold X7_in; rw [if_pos h0]
    rw [if_pos h0, hin, if_pos rfl, fails_t]
    exact ⟨_, _, _, rfl, rfl, ⟨rfl, fun v h => by cases h⟩, Inv_th hI 1⟩
  obtain ⟨p, hp9, rfl⟩ := nI_of h0
  rw [if_neg h0]
  by_cases h1 : n < p
  · have hin : X7_in (nI p) 0 (nI n) = 0 := by unfold X7_in; rw [if_neg h0, if_pos (nI_lt h1 hp9)]
    rw [if_neg (nI_ge h1 hp9), hin, if_pos rfl, fails_t]
    exact ⟨_, _, _, rfl, rfl, ⟨rfl, fun v h => by cases h⟩, Inv_th hI 1⟩
  have hp : p ≤ n := by omega
  have hin : X7_in (nI p) 0 (nI n) = 1 := by unfold X7_in; rw [if_neg h0, if_neg (nI_nlt hp (by omega))]
  rw [if_pos (nI_le hp (by omega)), hin, if_neg (show ¬ (1 : Int32) = 0 by decide)]
  have bad : ∃ R a M', j_X6_insert_48 tl F tx (nI p) p2 p3 p4 S D C E G Hs = some R ∧ j_X7_insert_61 (nI p) p2 p3 p4 M = some (a, M') ∧ Ans [(0, 1), (1, 2), (2, 3)] R.1 a M' ∧ InvC tl R.2.1 R.2.2.2.1 R.2.2.2.2.2.1 R.2.2.2.2.2.2 tx M' := by
    refine ⟨_, 0, mTh M 2, rfl, rfl, ⟨rfl, fun v h => by cases h⟩, Inv_th hI 2⟩
  by_cases g1 : X6_isKind p2 = 0
  · rw [if_pos g1, if_pos g1]; exact bad
  rw [if_neg g1, if_neg g1]
  by_cases g2 : X6_isLength p3 = 0
  · rw [if_pos g2, if_pos g2]; exact bad
  rw [if_neg g2, if_neg g2]
  have sp : ∀ (A B : Option (Int32 × t_Model)), (if p2 = 2 then (if X7_in p4 0 9 = 0 then A else B) else (if p4 = -1 then B else A)) = if X6_isPersonOf p2 p4 = 0 then A else B := by
    intro A B
    unfold X6_isPersonOf X7_in
    by_cases c : p2 = 2
    · rw [if_pos c, if_pos c]
    · rw [if_neg c, if_neg c]
      by_cases c2 : p4 = -1
      · rw [if_pos c2, if_pos c2, if_neg (by decide)]
      · rw [if_neg c2, if_neg c2, if_pos rfl]
  rw [sp]
  by_cases g3 : X6_isPersonOf p2 p4 = 0
  · rw [if_pos g3, if_pos g3]; exact bad
  rw [if_neg g3, if_neg g3]
  have hE := new_ex g1 g2 g3
  unfold j_X7_insert_67
  simp only [zlet_e]
  rw [zix1, cl1, hM.2.1]
  by_cases h60 : n = 60
  · subst h60
    have full : X5_isFull S = 1 := by unfold X5_isFull; rw [hS.1]; decide
    rw [full, if_neg (show ¬ (1 : Int32) = 0 by decide), if_pos (show nI 60 = (60 : Int32) from rfl), fails_t]
    exact ⟨_, _, _, rfl, rfl, ⟨rfl, fun v h => by cases h⟩, Inv_th hI 3⟩
  have full : X5_isFull S = 0 := by unfold X5_isFull; rw [hS.1, if_pos (show nI n < (60 : Int32) from nI_lt (b := 60) (by omega) (by decide))]
  rw [full, if_pos rfl, if_neg (show ¬ nI n = (60 : Int32) from fun h => h60 ((nI_eq (b := 60) (by omega) (by decide)).mp h))]
  obtain ⟨a, a1, a2, a3⟩ := hold_mr hS hM
  have cp := copy_eq (S := S) (D := D) hn
  obtain ⟨T, hT9⟩ : ∃ T, T = X5_copyFrom D S := ⟨_, rfl⟩
  rw [← hT9] at cp ⊢
  obtain ⟨m, c1, c2, c3⟩ := comes_t (cp.ok hS) (M := mAs M a) (cp.mr a3) (p := p) (by omega) hp hE
  obtain ⟨T2, hT2⟩ : ∃ T2, T2 = X5_putIn T (nI p) p2 p3 p4 := ⟨_, rfl⟩
  rw [← hT2] at c2 c3 ⊢
  rw [a1, Option.bind_some, c1, Option.bind_some]
  have c3 : MR T2 (mSet (mAs M a) m).1 (n + 1) L := c3
  have good : ∀ E' : t_Scenes, ∃ R a' M', j_X6_insert_122 tl F tx (nI p) p2 p3 p4 S T2 C E' G Hs = some R ∧ j_X7_insert_125 (nI p) p2 p3 p4 (mSet (mAs M a) m) = some (a', M') ∧ Ans [(0, 1), (1, 2), (2, 3)] R.1 a' M' ∧ InvC tl R.2.1 R.2.2.2.1 R.2.2.2.2.2.1 R.2.2.2.2.2.2 tx M' := by
    intro E'
    obtain ⟨S', C', G', Hs', M2, k1, k2, k3, k4, k5⟩ := keep_t (M1 := mSet (mAs M a) m) (C := C) (G := G) hH hS a2 c2 c3 hT E' F (nI (n + 1))
    unfold j_X6_insert_122 j_X7_insert_125
    simp only [zlet_e]
    refine ⟨(.inl S'.1, S', T2, C', E', G', Hs'), nI (n + 1), M2, ?_, ?_, ⟨?_, fun v h => ?_⟩, k5⟩
    · rw [k1, Option.bind_some]
    · rw [zix1, cl1, c3.2.1, k2, Option.bind_some]
    · show some (0 : Int32) = some M2.2.2.2.2.2.2.1
      rw [k3]
    · exact (Sum.inl.inj h).symm.trans (k4.1.trans c2.1)
  by_cases hh : p2 = 0
  · rw [if_pos hh, if_pos hh]
    obtain ⟨C2, d1, d2⟩ := survey_t c2 E
    obtain ⟨r, r1, r2⟩ := hasTwins_t c2 d2
    obtain ⟨r', r3, r4⟩ := hasTwo_t c2 c3
    have er : r' = r := by
      rcases r2 with ⟨x, y⟩ | ⟨x, y⟩ <;> rcases r4 with ⟨z, w⟩ | ⟨z, w⟩
      · rw [x, z]
      · exact absurd y w
      · exact absurd w y
      · rw [x, z]
    have rep : X6_repeatsLabel tl S T2 C E G F Hs tx = some (r, C2) := by
      unfold X6_repeatsLabel
      rw [d1, Option.bind_some, r1, Option.bind_some]
      unfold zbl
      rw [if_pos]
      rcases r2 with ⟨x, -⟩ | ⟨x, -⟩
      · exact Or.inr x
      · exact Or.inl x
    rw [rep, Option.bind_some, r3, Option.bind_some, er]
    rcases r2 with ⟨x, y⟩ | ⟨x, y⟩
    · subst x
      obtain ⟨b, b1, b2⟩ := copies_t (mSet (mAs M a) m).1 (mSet (mAs M a) m).2.2.1
      rw [if_neg (show ¬ (1 : Int32) = 0 by decide), if_neg (show ¬ (1 : Int32) = 0 by decide), b1, Option.bind_some, fails_t]
      refine ⟨_, _, _, rfl, rfl, ⟨rfl, fun v h => by cases h⟩, n, L, hS, ?_, hC, hG, hH, hT⟩
      exact MR_congr hn (fun k hk => by show b k = (mAs M a).2.2.1 k; rw [b2, if_pos hk]; rfl) a2
    · subst x
      rw [if_pos rfl, if_pos rfl]
      exact good C2
  · rw [if_neg hh, if_neg hh]
    exact good E
end MO

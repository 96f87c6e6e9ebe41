-- insert, remove, setLength, setPage, append, clearText, undo: class and reference
section MO
variable {S : t_Script} {M : t_Model} {n L : Nat} {C : t_Scenes} {G : t_Pages} {Hs : t_Hist} {tl : Int32} {tx : Rw}
theorem in_kind (p : Int32) : X7_in p 0 4 = X6_isKind p := rfl
theorem in_length (p : Int32) : X7_isLength p = X6_isLength p := rfl
theorem length_ex {p : Int32} (h : ¬ X6_isLength p = 0) : ∃ l, 1 ≤ l ∧ l ≤ 400 ∧ p = nI l := by
  unfold X6_isLength at h
  by_cases h1 : p < 1
  · rw [if_pos h1] at h; exact absurd rfl h
  · rw [if_neg h1] at h
    by_cases h2 : 400 < p
    · rw [if_pos h2] at h; exact absurd rfl h
    · have h0 : ¬ p < 0 := by
        intro h0
        apply h1
        rw [Int32.lt_iff_toInt_lt] at h0 ⊢
        exact Int.lt_trans h0 (by decide)
      obtain ⟨l, hl, rfl⟩ := nI_of h0
      have a : ¬ l < 1 := fun c => h1 (nI_lt (b := 1) c (by decide))
      have b : ¬ 400 < l := fun c => h2 (nI_lt (a := 400) c hl)
      exact ⟨l, by omega, by omega, rfl⟩
theorem new_ex {p2 p3 p4 : Int32} (h1 : ¬ X6_isKind p2 = 0) (h2 : ¬ X6_isLength p3 = 0) (h3 : ¬ X6_isPersonOf p2 p4 = 0) : ENew p2 p3 p4 := by
  have hk : p2 = 0 ∨ p2 = 1 ∨ p2 = 2 ∨ p2 = 3 ∨ p2 = 4 := by
    unfold X6_isKind at h1
    by_cases a : p2 < 0
    · rw [if_pos a] at h1; exact absurd rfl h1
    · rw [if_neg a] at h1
      by_cases b : 4 < p2
      · rw [if_pos b] at h1; exact absurd rfl h1
      · obtain ⟨l, hl, rfl⟩ := nI_of a
        have b : ¬ 4 < l := fun c => b (nI_lt (a := 4) c hl)
        rcases (show l = 0 ∨ l = 1 ∨ l = 2 ∨ l = 3 ∨ l = 4 by omega) with e | e | e | e | e <;> subst e
        · exact Or.inl rfl
        · exact Or.inr (Or.inl rfl)
        · exact Or.inr (Or.inr (Or.inl rfl))
        · exact Or.inr (Or.inr (Or.inr (Or.inl rfl)))
        · exact Or.inr (Or.inr (Or.inr (Or.inr rfl)))
  refine ⟨hk, length_ex h2, fun e => ?_, fun e => ?_⟩
  · unfold X6_isPersonOf at h3
    rw [if_pos e] at h3
    by_cases a : p4 < 0
    · rw [if_pos a] at h3; exact absurd rfl h3
    · rw [if_neg a] at h3
      by_cases b : 9 < p4
      · rw [if_pos b] at h3; exact absurd rfl h3
      · obtain ⟨l, hl, rfl⟩ := nI_of a
        have b : ¬ 9 < l := fun c => b (nI_lt (a := 9) c hl)
        exact ⟨l, by omega, rfl⟩
  · unfold X6_isPersonOf at h3
    rw [if_neg e] at h3
    by_cases a : p4 = -1
    · exact a
    · rw [if_neg a] at h3; exact absurd rfl h3
theorem lines_seq {S' : t_Script} (h : SEq S S' n) (hn : n ≤ 60) {i : Nat} (hi : i < n) : X5_linesOf S' (nI i) = X5_linesOf S (nI i) := by
  obtain ⟨⟨h1, h2, h3, h4, -⟩, -⟩ := h.2.2 i hi
  unfold X5_linesOf X5_isOmitted
  simp only [zlet_e]
  rw [rAt_nI (by decide) _ (by omega), rAt_nI (by decide) _ (by omega), rAt_nI (by decide) _ (by omega), rAt_nI (by decide) _ (by omega), rAt_nI (by decide) _ (by omega), rAt_nI (by decide) _ (by omega), h1, h2, h4]
end MO

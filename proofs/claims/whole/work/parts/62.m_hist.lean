-- saved states: class and reference
def mPa (M : t_Model) (p : Rw) : t_Model := (M.1, p, M.2.2.1, M.2.2.2.1, M.2.2.2.2.1, M.2.2.2.2.2.1, M.2.2.2.2.2.2.1, M.2.2.2.2.2.2.2.1, M.2.2.2.2.2.2.2.2.1, M.2.2.2.2.2.2.2.2.2.1, M.2.2.2.2.2.2.2.2.2.2.1, M.2.2.2.2.2.2.2.2.2.2.2.1, M.2.2.2.2.2.2.2.2.2.2.2.2.1, M.2.2.2.2.2.2.2.2.2.2.2.2.2.1, M.2.2.2.2.2.2.2.2.2.2.2.2.2.2.1, M.2.2.2.2.2.2.2.2.2.2.2.2.2.2.2.1, M.2.2.2.2.2.2.2.2.2.2.2.2.2.2.2.2.1, M.2.2.2.2.2.2.2.2.2.2.2.2.2.2.2.2.2.1, M.2.2.2.2.2.2.2.2.2.2.2.2.2.2.2.2.2.2)
theorem mPa_p (M : t_Model) (p : Rw) : (mPa M p).2.1 = p := rfl
theorem mPa_c (M : t_Model) (p : Rw) : (mPa M p).2.2.2.1 = M.2.2.2.1 := rfl
theorem mPa_a (M : t_Model) (p : Rw) : (mPa M p).2.2.1 = M.2.2.1 := rfl
theorem mPa2 (M : t_Model) (p q : Rw) : mPa (mPa M p) q = mPa M q := rfl
def mEnd (M : t_Model) (p : Rw) (c : Int32) : t_Model := (M.1, p, M.2.2.1, c, M.2.2.2.2.1, M.2.2.2.2.2.1, 0, M.2.2.2.2.2.2.2.1, M.2.2.2.2.2.2.2.2.1, M.2.2.2.2.2.2.2.2.2.1, M.2.2.2.2.2.2.2.2.2.2.1, M.2.2.2.2.2.2.2.2.2.2.2.1, M.2.2.2.2.2.2.2.2.2.2.2.2.1, M.2.2.2.2.2.2.2.2.2.2.2.2.2.1, M.2.2.2.2.2.2.2.2.2.2.2.2.2.2.1, M.2.2.2.2.2.2.2.2.2.2.2.2.2.2.2.1, M.2.2.2.2.2.2.2.2.2.2.2.2.2.2.2.2.1, M.2.2.2.2.2.2.2.2.2.2.2.2.2.2.2.2.2.1, M.2.2.2.2.2.2.2.2.2.2.2.2.2.2.2.2.2.2)
def mAs (M : t_Model) (p : Rw) : t_Model := (M.1, M.2.1, p, M.2.2.2.1, M.2.2.2.2.1, M.2.2.2.2.2.1, M.2.2.2.2.2.2.1, M.2.2.2.2.2.2.2.1, M.2.2.2.2.2.2.2.2.1, M.2.2.2.2.2.2.2.2.2.1, M.2.2.2.2.2.2.2.2.2.2.1, M.2.2.2.2.2.2.2.2.2.2.2.1, M.2.2.2.2.2.2.2.2.2.2.2.2.1, M.2.2.2.2.2.2.2.2.2.2.2.2.2.1, M.2.2.2.2.2.2.2.2.2.2.2.2.2.2.1, M.2.2.2.2.2.2.2.2.2.2.2.2.2.2.2.1, M.2.2.2.2.2.2.2.2.2.2.2.2.2.2.2.2.1, M.2.2.2.2.2.2.2.2.2.2.2.2.2.2.2.2.2.1, M.2.2.2.2.2.2.2.2.2.2.2.2.2.2.2.2.2.2)
def mTh (M : t_Model) (k : Int32) : t_Model := (M.1, M.2.1, M.2.2.1, M.2.2.2.1, M.2.2.2.2.1, M.2.2.2.2.2.1, k, M.2.2.2.2.2.2.2.1, M.2.2.2.2.2.2.2.2.1, M.2.2.2.2.2.2.2.2.2.1, M.2.2.2.2.2.2.2.2.2.2.1, M.2.2.2.2.2.2.2.2.2.2.2.1, M.2.2.2.2.2.2.2.2.2.2.2.2.1, M.2.2.2.2.2.2.2.2.2.2.2.2.2.1, M.2.2.2.2.2.2.2.2.2.2.2.2.2.2.1, M.2.2.2.2.2.2.2.2.2.2.2.2.2.2.2.1, M.2.2.2.2.2.2.2.2.2.2.2.2.2.2.2.2.1, M.2.2.2.2.2.2.2.2.2.2.2.2.2.2.2.2.2.1, M.2.2.2.2.2.2.2.2.2.2.2.2.2.2.2.2.2.2)
theorem up_t {α : Type} (f : Nat → α) (k : Nat) (x : α) (j : Nat) : va_up f k x j = if j = k then x else f j := rfl
theorem copies_t (f g : Rw) : ∃ h, X7_copies f g = some h ∧ ∀ k, h k = if k < 542 then g k else f k := by
  obtain ⟨X, h1, h2⟩ := zl_up (body := b_X7_copies_2 g) (fun j v => ∃ h, v = (h, nI j) ∧ ∀ k, h k = if k < j then g k else f k) (fun X => ∀ k, X k = if k < 542 then g k else f k) 542
    (fun rec v h => by
      obtain ⟨h, rfl, hh⟩ := h
      unfold b_X7_copies_2
      rw [if_pos (show (542 : Int32) ≤ nI 542 by decide)]
      exact ⟨_, rfl, hh⟩)
    (fun rec j v hj h k => by
      obtain ⟨h, rfl, hh⟩ := h
      unfold b_X7_copies_2
      simp only [zlet_e]
      rw [if_neg (show ¬ (542 : Int32) ≤ nI j from nI_ge (b := 542) hj (by decide)), zix_nI (by omega) (by decide), zix_nI (by omega) (by decide), nI_clamp (by omega), nI_1]
      refine k _ ⟨_, rfl, fun i => ?_⟩
      rw [upd_t]
      by_cases e : i = j
      · rw [if_pos e, if_pos (by omega), e]
      · rw [if_neg e, hh]
        by_cases c : i < j
        · rw [if_pos c, if_pos (by omega)]
        · rw [if_neg c, if_neg (by omega)])
    FU 0 (f, 0) (Nat.zero_le _) ⟨f, rfl, fun k => by rw [if_neg (by omega)]⟩ (show 542 - 0 < 3000 by omega)
  refine ⟨X, ?_, h2⟩
  unfold X7_copies
  rw [h1, Option.bind_some]
theorem hold_t (M : t_Model) : ∃ a, X7_hold M = some (mAs M a) ∧ ∀ k, k < 542 → a k = M.1 k := by
  obtain ⟨a, h1, h2⟩ := copies_t M.2.2.1 M.1
  refine ⟨a, ?_, fun k hk => by rw [h2, if_pos hk]⟩
  unfold X7_hold
  rw [h1, Option.bind_some]
  rfl
theorem ends51_t (M : t_Model) {c : Nat} (hc : c < 4) (hM : M.2.2.2.1 = nI c) (p1 : Int32) : ∃ p, j_X7_ends_49 p1 M = some (p1, mEnd M p (nI (c + 1))) ∧ ∀ k, p k = if 542 * c ≤ k ∧ k < 542 * c + 542 then M.2.2.1 (k - 542 * c) else M.2.1 k := by
  obtain ⟨X, h1, p, h2, h3⟩ := zl_up (body := b_X7_ends_51 p1) (fun j v => ∃ p, v = (mPa M p, nI j) ∧ ∀ k, p k = if 542 * c ≤ k ∧ k < 542 * c + j then M.2.2.1 (k - 542 * c) else M.2.1 k) (fun X => ∃ p, X = mPa M p ∧ ∀ k, p k = if 542 * c ≤ k ∧ k < 542 * c + 542 then M.2.2.1 (k - 542 * c) else M.2.1 k) 542
    (fun rec v h => by
      obtain ⟨p, rfl, hh⟩ := h
      unfold b_X7_ends_51
      rw [if_pos (show (542 : Int32) ≤ nI 542 by decide)]
      exact ⟨_, rfl, p, rfl, hh⟩)
    (fun rec j v hj h k => by
      obtain ⟨p, rfl, hh⟩ := h
      unfold b_X7_ends_51
      simp only [zlet_e, mPa_p, mPa_c, mPa_a, hM]
      rw [if_neg (show ¬ (542 : Int32) ≤ nI j from nI_ge (b := 542) hj (by decide)), show (542 : Int32) = nI 542 from rfl, pk_mul, nI_add, zix_nI (by omega) (by decide), zix_nI (by omega) (by decide), nI_clamp (by omega), nI_clamp (by omega), nI_1]
      refine k _ ⟨upd p (542 * c + j) (M.2.2.1 j), by rw [← hM]; rfl, fun i => ?_⟩
      rw [upd_t]
      by_cases e : i = 542 * c + j
      · rw [if_pos e, if_pos (by omega), e, Nat.add_sub_cancel_left]
      · rw [if_neg e, hh]
        by_cases b : 542 * c ≤ i ∧ i < 542 * c + j
        · rw [if_pos b, if_pos (by omega)]
        · rw [if_neg b, if_neg (by omega)])
    FU 0 (M, 0) (Nat.zero_le _) ⟨M.2.1, rfl, fun k => by rw [if_neg (by omega)]⟩ (show 542 - 0 < 3000 by omega)
  refine ⟨p, ?_, h3⟩
  unfold j_X7_ends_49
  rw [h1, Option.bind_some, h2]
  simp only [zlet_e]
  rw [mPa_c, hM, nI_1]
  rfl
theorem ends10_t (M : t_Model) (p1 : Int32) : ∃ p, zloop (b_X7_ends_10 p1) FU (M, 0) = some (mPa M p) ∧ ∀ k, p k = if k < 1626 then M.2.1 (k + 542) else M.2.1 k := by
  obtain ⟨X, h1, p, h2, h3⟩ := zl_up (body := b_X7_ends_10 p1) (fun j v => ∃ p, v = (mPa M p, nI j) ∧ ∀ k, p k = if k < j then M.2.1 (k + 542) else M.2.1 k) (fun X => ∃ p, X = mPa M p ∧ ∀ k, p k = if k < 1626 then M.2.1 (k + 542) else M.2.1 k) 1626
    (fun rec v h => by
      obtain ⟨p, rfl, hh⟩ := h
      unfold b_X7_ends_10
      rw [if_pos (show (1626 : Int32) ≤ nI 1626 by decide)]
      exact ⟨_, rfl, p, rfl, hh⟩)
    (fun rec j v hj h k => by
      obtain ⟨p, rfl, hh⟩ := h
      unfold b_X7_ends_10
      simp only [zlet_e, mPa_p]
      rw [if_neg (show ¬ (1626 : Int32) ≤ nI j from nI_ge (b := 1626) hj (by decide)), show (542 : Int32) = nI 542 from rfl, nI_add, zix_nI (by omega) (by decide), zix_nI (by omega) (by decide), nI_clamp (by omega), nI_clamp (by omega), nI_1]
      refine k _ ⟨upd p j (p (j + 542)), rfl, fun i => ?_⟩
      rw [upd_t]
      by_cases e : i = j
      · rw [if_pos e, if_pos (by omega), e, hh, if_neg (by omega)]
      · rw [if_neg e, hh]
        by_cases b : i < j
        · rw [if_pos b, if_pos (by omega)]
        · rw [if_neg b, if_neg (by omega)])
    FU 0 (M, 0) (Nat.zero_le _) ⟨M.2.1, rfl, fun k => by rw [if_neg (by omega)]⟩ (show 1626 - 0 < 3000 by omega)
  exact ⟨p, by rw [h1, h2], h3⟩
/-- the saved states of the class and of the reference are the same -/
def HR (Hs : t_Hist) (past : Rw) (pasts : Int32) : Prop := ∃ c, c ≤ 4 ∧ Hs.1 = nI c ∧ pasts = nI c ∧ h_ok Hs.2.1 ∧ (∀ i j, i < 4 → j < 4 → Hs.2.1 i = Hs.2.1 j → i = j) ∧ ∀ j, j < c → ∃ n L, SOK (Hs.2.2 (Hs.2.1 j)) n L ∧ MR (Hs.2.2 (Hs.2.1 j)) (fun k => past (542 * j + k)) n L
theorem drop_t (g : Nat → Nat) : h_drop g 0 = g 1 ∧ h_drop g 1 = g 2 ∧ h_drop g 2 = g 3 ∧ h_drop g 3 = g 0 := ⟨rfl, rfl, rfl, rfl⟩
theorem store_t {Hs : t_Hist} {S : t_Script} {n L : Nat} {M : t_Model} (hH : HR Hs M.2.1 M.2.2.2.1) (hS : SOK S n L) (hA : MR S M.2.2.1 n L) (ans : Int32) : ∃ Hs' p c, X0_store Hs S = some Hs' ∧ X7_ends M ans = some (ans, mEnd M p c) ∧ HR Hs' p c := by
  obtain ⟨c, hc, e1, e2, hok, hinj, hst⟩ := hH
  unfold X0_store X7_ends
  rw [if_pos ⟨hok, by rw [e1]; exact nI_pos (by omega), by rw [e1]; exact nI_le (b := 4) hc (by decide)⟩, e1]
  have cp : ∀ D : t_Script, SOK (X5_copyFrom D S) n L ∧ ∀ m, MR S m n L → MR (X5_copyFrom D S) m n L := fun D => ⟨(copy_eq hS.2.2.1).ok hS, fun m h => (copy_eq hS.2.2.1).mr h⟩
  by_cases h4 : c = 4
  · subst h4
    rw [if_neg (show ¬ nI 4 < (4 : Int32) by decide), if_pos (show M.2.2.2.1 = 4 by rw [e2]; rfl)]
    obtain ⟨p, h1, h2⟩ := ends10_t M ans
    obtain ⟨p', h3, h4⟩ := ends51_t ((mPa M p).1, (mPa M p).2.1, (mPa M p).2.2.1, nI 3, (mPa M p).2.2.2.2.1, (mPa M p).2.2.2.2.2.1, (mPa M p).2.2.2.2.2.2.1, (mPa M p).2.2.2.2.2.2.2.1, (mPa M p).2.2.2.2.2.2.2.2.1, (mPa M p).2.2.2.2.2.2.2.2.2.1, (mPa M p).2.2.2.2.2.2.2.2.2.2.1, (mPa M p).2.2.2.2.2.2.2.2.2.2.2.1, (mPa M p).2.2.2.2.2.2.2.2.2.2.2.2.1, (mPa M p).2.2.2.2.2.2.2.2.2.2.2.2.2.1, (mPa M p).2.2.2.2.2.2.2.2.2.2.2.2.2.2.1, (mPa M p).2.2.2.2.2.2.2.2.2.2.2.2.2.2.2.1, (mPa M p).2.2.2.2.2.2.2.2.2.2.2.2.2.2.2.2.1, (mPa M p).2.2.2.2.2.2.2.2.2.2.2.2.2.2.2.2.2.1, (mPa M p).2.2.2.2.2.2.2.2.2.2.2.2.2.2.2.2.2.2) (c := 3) (by decide) rfl ans
    have h4 : ∀ k, p' k = if 542 * 3 ≤ k ∧ k < 542 * 3 + 542 then M.2.2.1 (k - 542 * 3) else p k := h4
    have e3 : (mPa M p).2.2.2.1 - 1 = nI 3 := by rw [mPa_c, e2]; decide
    refine ⟨_, p', nI 4, rfl, ?_, 4, Nat.le_refl _, rfl, rfl, h_ok_drop hok, ?_, ?_⟩
    · rw [h1, Option.bind_some]
      simp only [zlet_e]
      rw [e3, h3]
      rfl
    · obtain ⟨d0, d1, d2, d3⟩ := drop_t Hs.2.1
      intro i j hi hj h
      have i01 := hinj 0 1 (by decide) (by decide)
      have i02 := hinj 0 2 (by decide) (by decide)
      have i03 := hinj 0 3 (by decide) (by decide)
      have i12 := hinj 1 2 (by decide) (by decide)
      have i13 := hinj 1 3 (by decide) (by decide)
      have i23 := hinj 2 3 (by decide) (by decide)
      have h : h_drop Hs.2.1 i = h_drop Hs.2.1 j := h
      rcases (show i = 0 ∨ i = 1 ∨ i = 2 ∨ i = 3 by omega) with a | a | a | a <;> subst a <;> rcases (show j = 0 ∨ j = 1 ∨ j = 2 ∨ j = 3 by omega) with b | b | b | b <;> subst b <;> simp only [d0, d1, d2, d3] at h <;> first | rfl | omega
    · obtain ⟨d0, d1, d2, d3⟩ := drop_t Hs.2.1
      have old : ∀ j, j < 3 → h_drop Hs.2.1 j = Hs.2.1 (j + 1) := fun j hj => by
        rcases (show j = 0 ∨ j = 1 ∨ j = 2 by omega) with b | b | b <;> subst b <;> assumption
      intro j hj
      by_cases k : j = 3
      · subst k
        refine ⟨n, L, ?_, ?_⟩
        · show SOK (va_up Hs.2.2 (h_drop Hs.2.1 3) _ (h_drop Hs.2.1 3)) n L
          rw [up_t, if_pos rfl]
          exact (cp _).1
        · show MR (va_up Hs.2.2 (h_drop Hs.2.1 3) _ (h_drop Hs.2.1 3)) _ n L
          rw [up_t, if_pos rfl]
          refine (cp _).2 _ (MR_congr hS.2.2.1 (fun k hk => ?_) hA)
          show p' (542 * 3 + k) = _
          rw [h4, if_pos (by omega), Nat.add_sub_cancel_left]
      · obtain ⟨n', L', s1, s2⟩ := hst (j + 1) (by omega)
        have ne : h_drop Hs.2.1 j ≠ h_drop Hs.2.1 3 := by
          rw [old j (by omega), d3]
          intro e
          have := hinj (j + 1) 0 (by omega) (by decide) e
          omega
        refine ⟨n', L', ?_, ?_⟩
        · show SOK (va_up Hs.2.2 (h_drop Hs.2.1 3) _ (h_drop Hs.2.1 j)) n' L'
          rw [up_t, if_neg ne, old j (by omega)]
          exact s1
        · show MR (va_up Hs.2.2 (h_drop Hs.2.1 3) _ (h_drop Hs.2.1 j)) _ n' L'
          rw [up_t, if_neg ne, old j (by omega)]
          refine MR_congr s1.2.2.1 (fun k hk => ?_) s2
          show p' (542 * j + k) = M.2.1 (542 * (j + 1) + k)
          rw [h4, if_neg (by omega), h2, if_pos (by omega)]
          exact congrArg M.2.1 (by omega)
  · rw [if_pos (show nI c < (4 : Int32) from nI_lt (b := 4) (by omega) (by decide)), if_neg (show ¬ M.2.2.2.1 = 4 from fun h => by rw [e2] at h; exact h4 ((nI_eq (b := 4) (by omega) (by omega)).mp h)), nI_clamp (by omega), nI_1]
    obtain ⟨p', h3, h5⟩ := ends51_t M (c := c) (by omega) e2 ans
    refine ⟨_, p', nI (c + 1), rfl, h3, c + 1, by omega, rfl, rfl, hok, hinj, fun j hj => ?_⟩
    by_cases k : j = c
    · subst k
      refine ⟨n, L, ?_, ?_⟩
      · show SOK (va_up Hs.2.2 (Hs.2.1 j) _ (Hs.2.1 j)) n L
        rw [up_t, if_pos rfl]
        exact (cp _).1
      · show MR (va_up Hs.2.2 (Hs.2.1 j) _ (Hs.2.1 j)) _ n L
        rw [up_t, if_pos rfl]
        refine (cp _).2 _ (MR_congr hS.2.2.1 (fun k hk => ?_) hA)
        show p' (542 * j + k) = _
        rw [h5, if_pos (by omega), Nat.add_sub_cancel_left]
    · obtain ⟨n', L', s1, s2⟩ := hst j (by omega)
      have ne : Hs.2.1 j ≠ Hs.2.1 c := fun e => k (hinj j c (by omega) (by omega) e)
      refine ⟨n', L', ?_, ?_⟩
      · show SOK (va_up Hs.2.2 (Hs.2.1 c) _ (Hs.2.1 j)) n' L'
        rw [up_t, if_neg ne]
        exact s1
      · show MR (va_up Hs.2.2 (Hs.2.1 c) _ (Hs.2.1 j)) _ n' L'
        rw [up_t, if_neg ne]
        refine MR_congr s1.2.2.1 (fun k hk => ?_) s2
        show p' (542 * j + k) = M.2.1 (542 * j + k)
        rw [h5, if_neg (by omega)]
theorem undo25_t (M : t_Model) {c : Nat} (hc : c < 4) (hM : M.2.2.2.1 = nI c) : ∃ m, zloop b_X7_undo_25 FU (M, 0) = some (mSet M m) ∧ ∀ k, k < 542 → m k = M.2.1 (542 * c + k) := by
  obtain ⟨X, h1, p, h2, h3⟩ := zl_up (body := b_X7_undo_25) (fun j v => ∃ p, v = (mSet M p, nI j) ∧ ∀ k, k < j → p k = M.2.1 (542 * c + k)) (fun X => ∃ p, X = mSet M p ∧ ∀ k, k < 542 → p k = M.2.1 (542 * c + k)) 542
    (fun rec v h => by
      obtain ⟨p, rfl, hh⟩ := h
      unfold b_X7_undo_25
      rw [if_pos (show (542 : Int32) ≤ nI 542 by decide)]
      exact ⟨_, rfl, p, rfl, hh⟩)
    (fun rec j v hj h k => by
      obtain ⟨p, rfl, hh⟩ := h
      have q1 : (mSet M p).2.2.2.1 = nI c := hM
      have q2 : (mSet M p).2.1 = M.2.1 := rfl
      unfold b_X7_undo_25
      simp only [zlet_e, mSet_s, q1, q2]
      rw [if_neg (show ¬ (542 : Int32) ≤ nI j from nI_ge (b := 542) hj (by decide)), show (542 : Int32) = nI 542 from rfl, pk_mul, nI_add, zix_nI (by omega) (by decide), zix_nI (by omega) (by decide), nI_clamp (by omega), nI_clamp (by omega), nI_1]
      refine k _ ⟨upd p j (M.2.1 (542 * c + j)), ?_, fun i hi => ?_⟩
      · rw [← q1]; rfl
      rw [upd_t]
      by_cases e : i = j
      · rw [if_pos e, e]
      · rw [if_neg e]; exact hh i (by omega))
    FU 0 (M, 0) (Nat.zero_le _) ⟨M.1, rfl, fun k h => absurd h (Nat.not_lt_zero _)⟩ (show 542 - 0 < 3000 by omega)
  exact ⟨p, by rw [h1, h2], h3⟩

-- reading: class and reference, byte by byte
def mRd (N : t_Model) (m : Rw) (a b : Int32) : t_Model := (m, N.2.1, N.2.2.1, N.2.2.2.1, N.2.2.2.2.1, N.2.2.2.2.2.1, N.2.2.2.2.2.2.1, N.2.2.2.2.2.2.2.1, N.2.2.2.2.2.2.2.2.1, N.2.2.2.2.2.2.2.2.2.1, N.2.2.2.2.2.2.2.2.2.2.1, N.2.2.2.2.2.2.2.2.2.2.2.1, N.2.2.2.2.2.2.2.2.2.2.2.2.1, N.2.2.2.2.2.2.2.2.2.2.2.2.2.1, N.2.2.2.2.2.2.2.2.2.2.2.2.2.2.1, N.2.2.2.2.2.2.2.2.2.2.2.2.2.2.2.1, a, b, N.2.2.2.2.2.2.2.2.2.2.2.2.2.2.2.2.2.2)
theorem mRd_s (N : t_Model) (m : Rw) (a b : Int32) : (mRd N m a b).1 = m := rfl
theorem mRd_a (N : t_Model) (m : Rw) (a b : Int32) : (mRd N m a b).2.2.2.2.2.2.2.2.2.2.2.2.2.2.2.2.1 = a := rfl
theorem mRd_n (N : t_Model) (m : Rw) (a b : Int32) : (mRd N m a b).2.2.2.2.2.2.2.2.2.2.2.2.2.2.2.2.2.1 = b := rfl
theorem mRd_t (N : t_Model) (m : Rw) (a b : Int32) : (mRd N m a b).2.2.2.2.1 = N.2.2.2.2.1 := rfl
theorem mRd_l (N : t_Model) (m : Rw) (a b : Int32) : (mRd N m a b).2.2.2.2.2.1 = N.2.2.2.2.2.1 := rfl
theorem mRd_set (N : t_Model) (m m' : Rw) (a b : Int32) : mSet (mRd N m a b) m' = mRd N m' a b := rfl
def chN (t : Nat) (tx : Rw) (a : Nat) : Int32 := if a < t then tx a else -1
def TXn (t : Nat) (tx : Rw) (N : t_Model) : Prop := t ≤ 200 ∧ N.2.2.2.2.2.1 = nI t ∧ ∀ j, j < 200 → tx j = N.2.2.2.2.1 j
section MRd
variable {t : Nat} {tx : Rw} {N : t_Model}
theorem next_x (hT : t ≤ 200) {a : Nat} (ha : a ≤ t) (e : Int32) : X2_next (nI t, nI a, e) tx = chN t tx a := by
  unfold X2_next chN
  by_cases h : a < t
  · rw [if_pos h, if_neg (nI_ge h (by omega))]
    simp only [zlet]
    rw [rAt_nI (by decide) _ (by omega)]
  · rw [if_neg h, if_pos (nI_le (by omega) (by omega))]
theorem isAt_d (hT : TXn t tx N) {a : Nat} (ha : a ≤ t) (m : Rw) (b : Int32) : X7_isAt (mRd N m (nI a) b) 48 57 = some (X2_isDigit (chN t tx a)) := by
  obtain ⟨h1, h2, h3⟩ := hT
  unfold X7_isAt chN
  simp only [zlet_e, mRd_a, mRd_t, mRd_l]
  rw [h2]
  by_cases h : a < t
  · rw [if_pos h, if_neg (nI_ge h (by omega)), zix_nI (by omega) (by decide), nI_clamp (by omega), ← h3 a (by omega)]
    show (if X2_isDigit (tx a) = 0 then some 0 else some 1) = _
    rcases X2_isDigit_b (tx a) with e | e
    · rw [e, if_pos rfl]
    · rw [e, if_neg (by decide)]
  · rw [if_neg h, if_pos (nI_le (by omega) (by omega))]
    rfl
theorem in_eq {x c : Int32} : X7_in x c c = if x = c then 1 else 0 := by
  unfold X7_in
  by_cases h : x = c
  · subst h
    rw [if_pos rfl, if_neg (show ¬ x < x from Int32.lt_irrefl), if_neg (show ¬ x < x from Int32.lt_irrefl)]
  · rw [if_neg h]
    by_cases h1 : x < c
    · rw [if_pos h1]
    · rw [if_neg h1]
      by_cases h2 : c < x
      · rw [if_pos h2]
      · exact absurd (Int32.le_antisymm (Int32.not_lt.mp h2) (Int32.not_lt.mp h1)) h
theorem takes_t (hT : TXn t tx N) {a : Nat} (ha : a ≤ t) (m : Rw) (b c : Int32) (hc : c ≠ -1) : X7_takes (mRd N m (nI a) b) c = some (if chN t tx a = c then 1 else 0, mRd N m (if chN t tx a = c then nI (a + 1) else nI a) b) := by
  obtain ⟨h1, h2, h3⟩ := hT
  have k : X7_isAt (mRd N m (nI a) b) c c = some (if chN t tx a = c then 1 else 0) := by
    unfold X7_isAt chN
    simp only [zlet_e, mRd_a, mRd_t, mRd_l]
    rw [h2]
    by_cases h : a < t
    · rw [if_pos h, if_neg (nI_ge h (by omega)), zix_nI (by omega) (by decide), nI_clamp (by omega), ← h3 a (by omega), in_eq]
      by_cases e : tx a = c
      · rw [if_pos e, if_neg (by decide)]
      · rw [if_neg e, if_pos rfl]
    · rw [if_neg h, if_pos (nI_le (by omega) (by omega)), if_neg (fun e => hc e.symm)]
  unfold X7_takes j_X7_takes_21
  simp only [zlet_e, mRd_a]
  rw [k, Option.bind_some]
  by_cases e : chN t tx a = c
  · rw [if_pos e, if_neg (by decide), if_pos e, nI_1]
    rfl
  · rw [if_neg e, if_pos rfl, if_neg e, Int32.add_zero]
    rfl
theorem fail_x (p e : Int32) (l : Int32) (h : e = -1) : X2_fail (l, p, e) p = (l, p, p) := by
  unfold X2_fail
  rw [if_pos h]
theorem chN_lt {a : Nat} (h : X2_isDigit (chN t tx a) ≠ 0) : a < t := by
  by_cases c : a < t
  · exact c
  · exfalso; apply h
    unfold chN
    rw [if_neg c]; rfl
/-- a length: both read it, or both stop at one place -/
theorem number_two (hT : TXn t tx N) {a : Nat} (ha : a ≤ t) (m : Rw) (b : Int32) : (∃ v a', a ≤ a' ∧ a' ≤ t ∧ X2_readLength (nI t, nI a, -1) tx = some (v, (nI t, nI a', -1)) ∧ X7_isNumber (mRd N m (nI a) b) = some (1, mRd N m (nI a') v) ∧ ¬ X6_isLength v = 0) ∨ (∃ v a' p, p ≤ t ∧ X2_readLength (nI t, nI a, -1) tx = some (v, (nI t, nI a', nI p)) ∧ X7_isNumber (mRd N m (nI a) b) = some (0, mRd N m (nI p) v)) := by
  have ht := hT.1
  have h3 := hT.2.2
  obtain ⟨X, X2, g1, g2, i, v, i3, i1, g3, g4, g5⟩ := zl_two (body := b_X2_readLength_9 tx (nI a)) (body2 := b_X7_isNumber_10 (nI a))
    (fun i (v : t_Reader × Int32 × Int32) (v2 : t_Model) => a + i ≤ t ∧ ∃ w, v = ((nI t, nI (a + i), -1), w, nI i) ∧ v2 = mRd N m (nI (a + i)) w)
    (fun X X2 => ∃ i w, i ≤ 3 ∧ a + i ≤ t ∧ X = ((nI t, nI (a + i), -1), w) ∧ X2 = mRd N m (nI (a + i)) w ∧ (i = 3 ∨ X2_isDigit (chN t tx (a + i)) = 0)) 3
    (fun rec rec2 v v2 hv => by
      obtain ⟨ha2, w, rfl, rfl⟩ := hv
      unfold b_X2_readLength_9 b_X7_isNumber_10
      simp only [zlet_e, mRd_a]
      rw [if_pos (show (3 : Int32) ≤ nI 3 by decide), pk_sub (by omega), show a + 3 - a = 3 by omega, if_pos (show (3 : Int32) ≤ nI 3 by decide)]
      exact ⟨_, _, rfl, rfl, 3, w, Nat.le_refl _, ha2, rfl, rfl, Or.inl rfl⟩)
    (fun rec rec2 i v v2 hi hv k => by
      obtain ⟨ha2, w, rfl, rfl⟩ := hv
      unfold b_X2_readLength_9 b_X7_isNumber_10
      simp only [zlet_e, mRd_a, nI_1, mRd_t, mRd_n]
      rw [if_neg (show ¬ (3 : Int32) ≤ nI i from nI_ge (b := 3) hi (by decide)), pk_sub (by omega), show a + i - a = i by omega, if_neg (show ¬ (3 : Int32) ≤ nI i from nI_ge (b := 3) hi (by decide)), next_x ht ha2, isAt_d hT ha2, Option.bind_some]
      by_cases hd : X2_isDigit (chN t tx (a + i)) = 0
      · rw [if_pos hd, if_pos hd]
        exact ⟨_, _, rfl, rfl, i, w, by omega, ha2, rfl, rfl, Or.inr hd⟩
      · have hlt := chN_lt hd
        rw [if_neg hd, if_neg hd, zix_nI (by omega) (by decide), nI_clamp (by omega), ← h3 _ (by omega)]
        have ec : chN t tx (a + i) = tx (a + i) := if_pos hlt
        rw [ec, Int32.mul_comm w 10]
        exact k _ _ ⟨by omega, _, rfl, rfl⟩)
    FU 0 ((nI t, nI a, -1), 0, 0) (mRd N m (nI a) 0) (Nat.zero_le _) ⟨ha, 0, rfl, rfl⟩ (show 3 - 0 < 3000 by decide)
  have ht2 := hT.2.1
  have start : X7_isNumber (mRd N m (nI a) b) = j_X7_isNumber_68 (mRd N m (nI (a + i)) v) (nI a) := by
    unfold X7_isNumber
    rw [show (((mRd N m (nI a) b).1, (mRd N m (nI a) b).2.1, (mRd N m (nI a) b).2.2.1, (mRd N m (nI a) b).2.2.2.1, (mRd N m (nI a) b).2.2.2.2.1, (mRd N m (nI a) b).2.2.2.2.2.1, (mRd N m (nI a) b).2.2.2.2.2.2.1, (mRd N m (nI a) b).2.2.2.2.2.2.2.1, (mRd N m (nI a) b).2.2.2.2.2.2.2.2.1, (mRd N m (nI a) b).2.2.2.2.2.2.2.2.2.1, (mRd N m (nI a) b).2.2.2.2.2.2.2.2.2.2.1, (mRd N m (nI a) b).2.2.2.2.2.2.2.2.2.2.2.1, (mRd N m (nI a) b).2.2.2.2.2.2.2.2.2.2.2.2.1, (mRd N m (nI a) b).2.2.2.2.2.2.2.2.2.2.2.2.2.1, (mRd N m (nI a) b).2.2.2.2.2.2.2.2.2.2.2.2.2.2.1, (mRd N m (nI a) b).2.2.2.2.2.2.2.2.2.2.2.2.2.2.2.1, (mRd N m (nI a) b).2.2.2.2.2.2.2.2.2.2.2.2.2.2.2.2.1, 0, (mRd N m (nI a) b).2.2.2.2.2.2.2.2.2.2.2.2.2.2.2.2.2.2) : t_Model) = mRd N m (nI a) 0 from rfl, mRd_a, g2, Option.bind_some, g4]
  have start2 : X2_readLength (nI t, nI a, -1) tx = j_X2_readLength_53 tx (nI t, nI (a + i), -1) (nI a) v := by
    unfold X2_readLength
    rw [g1, Option.bind_some, g3]
  rw [start, start2]
  unfold j_X7_isNumber_68 j_X2_readLength_53 j_X2_readLength_71
  simp only [zlet_e, mRd_a, mRd_n]
  by_cases c0 : i = 0
  · subst c0
    rw [if_pos (show nI (a + 0) = nI a from rfl), if_pos (show nI (a + 0) = nI a from rfl), fail_x _ _ _ rfl]
    exact Or.inr ⟨v, a + 0, a + 0, by omega, rfl, rfl⟩
  · have ne : ¬ nI (a + i) = nI a := fun e => c0 (by have := (nI_eq (by omega) (by omega)).mp e; omega)
    rw [if_neg ne, if_neg ne, next_x ht i1, isAt_d hT i1, Option.bind_some]
    by_cases hd : X2_isDigit (chN t tx (a + i)) = 0
    · rw [if_pos hd, if_pos hd]
      have el : X7_isLength v = X6_isLength v := rfl
      rw [el]
      by_cases hl : X6_isLength v = 0
      · rw [if_pos hl, if_pos hl, hl]
        refine Or.inr ⟨v, a + i, a, ha, ?_, rfl⟩
        unfold X2_fail
        rw [if_pos rfl]
      · rw [if_neg hl, if_neg hl]
        refine Or.inl ⟨v, a + i, by omega, i1, rfl, ?_, hl⟩
        rcases X6_isLength_b v with e | e
        · exact absurd e hl
        · rw [e]
    · rw [if_neg hd, if_neg hd, fail_x _ _ _ rfl]
      exact Or.inr ⟨v, a + i, a + i, i1, rfl, rfl⟩
end MRd

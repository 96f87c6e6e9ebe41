-- the mathematics: rows at natural places, what a script is, the reference's row of numbers that tells the same
theorem im1 (x : Int32) : x + (-1) = x - 1 := (Int32.sub_eq_add_neg x 1).symm
theorem zix1 {α : Type} (x : Option α) : zix 1 542 x = x := zix_nI (j := 1) (by decide) (by decide)
theorem zix0 {α : Type} (x : Option α) : zix 0 542 x = x := zix_nI (j := 0) (by decide) (by decide)
theorem cl1 : (1 : Int32).toNatClampNeg = 1 := by decide
theorem cl0 : (0 : Int32).toNatClampNeg = 0 := by decide
theorem rAt_nI {n : Nat} (hn : n < 2147483648) (f : Rw) {i : Nat} (h : i < n) : rAt n f (nI i) = f i := by
  unfold rAt
  rw [if_neg (nI_pos (by omega)), if_neg (show ¬ Int32.ofNat n ≤ nI i from nI_ge h hn), nI_clamp (by omega)]
theorem rAt_m1 {n : Nat} (f : Rw) : rAt n f (-1) = -1 := by
  unfold rAt
  rw [if_pos (by decide)]
theorem rAt_hi {n : Nat} (f : Rw) {i : Nat} (h : n ≤ i) (hi : i < 2147483648) : rAt n f (nI i) = -1 := by
  unfold rAt
  rw [if_neg (nI_pos (by omega)), if_pos (show Int32.ofNat n ≤ nI i from nI_le h hi)]
theorem rPut_nI {n : Nat} (hn : n < 2147483648) (f : Rw) {i : Nat} (h : i < n) (x : Int32) : rPut n f (nI i) x = upd f i x := by
  unfold rPut
  rw [if_neg (nI_pos (by omega)), if_neg (show ¬ Int32.ofNat n ≤ nI i from nI_ge h hn), nI_clamp (by omega)]
theorem rPut_m1 {n : Nat} (f : Rw) (x : Int32) : rPut n f (-1) x = f := by
  unfold rPut
  rw [if_pos (by decide)]
theorem rPlus_nI {n : Nat} (hn : n < 2147483648) (f : Rw) {i : Nat} (h : i < n) (x : Int32) : rPlus n f (nI i) x = upd f i (f i + x) := by
  unfold rPlus
  rw [if_neg (nI_pos (by omega)), if_neg (show ¬ Int32.ofNat n ≤ nI i from nI_ge h hn), nI_clamp (by omega)]
theorem rPlus_m1 {n : Nat} (f : Rw) (x : Int32) : rPlus n f (-1) x = f := by
  unfold rPlus
  rw [if_pos (by decide)]
theorem rCopy_lt {n : Nat} (f g : Rw) {j : Nat} (h : j < n) : rCopy n n f g j = g j := by
  unfold rCopy
  rw [if_pos ⟨h, h⟩]
theorem upd_t (f : Rw) (k : Nat) (x : Int32) (j : Nat) : upd f k x j = if j = k then x else f j := rfl
/-- element i of S is a lawful one -/
def EOK (S : t_Script) (i : Nat) : Prop :=
  (S.2.2.1 i = 0 ∨ S.2.2.1 i = 1 ∨ S.2.2.1 i = 2 ∨ S.2.2.1 i = 3 ∨ S.2.2.1 i = 4) ∧
  (∃ l, 1 ≤ l ∧ l ≤ 400 ∧ S.2.2.2.1 i = nI l) ∧
  (S.2.2.1 i = 2 → ∃ q, q ≤ 9 ∧ S.2.2.2.2.1 i = nI q) ∧ (S.2.2.1 i ≠ 2 → S.2.2.2.2.1 i = -1) ∧
  (S.2.2.2.2.2.2.1 i = 0 ∨ S.2.2.2.2.2.2.1 i = 1 ∨ S.2.2.2.2.2.2.1 i = 2) ∧ (S.2.2.2.2.2.2.1 i ≠ 0 → S.2.2.1 i = 0) ∧ (S.2.2.2.2.2.2.1 i ≠ 0 → S.2.2.2.2.2.2.2.1 i ≠ -1)
def SOK (S : t_Script) (n L : Nat) : Prop := S.1 = nI n ∧ S.2.1 = nI L ∧ n ≤ 60 ∧ 20 ≤ L ∧ L ≤ 60 ∧ ∀ i, i < n → EOK S i
section MB
variable {S : t_Script} {M : t_Model} {n L L1 : Nat}
theorem SOK.lt (hS : SOK S n L) {i : Nat} (hi : i < n) : i < 60 := Nat.lt_of_lt_of_le hi hS.2.2.1
theorem SOK.e (hS : SOK S n L) {i : Nat} (hi : i < n) : EOK S i := hS.2.2.2.2.2 i hi
theorem head_x (hS : SOK S n L) {i : Nat} (hi : i < n) : X5_isHeading S (nI i) = if S.2.2.1 i = 0 then 1 else 0 := by
  unfold X5_isHeading
  simp only [zlet]
  rw [rAt_nI (by decide) _ (hS.lt hi)]
theorem lock_x (hS : SOK S n L) {i : Nat} (hi : i < n) : X5_isLocked S (nI i) = if S.2.2.2.2.2.2.1 i = 0 then 0 else 1 := by
  unfold X5_isLocked
  simp only [zlet]
  rw [rAt_nI (by decide) _ (hS.lt hi)]
  rcases (hS.e hi).2.2.2.2.1 with h | h | h <;> rw [h] <;> decide
theorem omit_x (hS : SOK S n L) {i : Nat} (hi : i < n) : X5_isOmitted S (nI i) = if S.2.2.2.2.2.2.1 i = 2 then 1 else 0 := by
  unfold X5_isOmitted
  simp only [zlet]
  rw [rAt_nI (by decide) _ (hS.lt hi)]
theorem has_x (hS : SOK S n L) {i : Nat} (hi : i < 2147483648) : X5_has S (nI i) = if i < n then 1 else 0 := by
  unfold X5_has X6_isBelow
  simp only [zlet]
  rw [hS.1, if_neg (nI_pos hi)]
  have := hS.2.2.1
  by_cases h : i < n
  · rw [if_pos h, if_neg (nI_ge h (by omega))]
  · rw [if_neg h, if_pos (nI_le (by omega) hi)]
theorem blanks_x (hS : SOK S n L) {i : Nat} (hi : i < n) : ∃ b, b ≤ 2 ∧ X5_blanksAhead S (nI i) = nI b := by
  unfold X5_blanksAhead
  simp only [zlet]
  rw [rAt_nI (by decide) _ (hS.lt hi)]
  rcases (hS.e hi).1 with h | h | h | h | h <;> rw [h]
  · exact ⟨2, by decide, by decide⟩
  · exact ⟨1, by decide, by decide⟩
  · exact ⟨1, by decide, by decide⟩
  · exact ⟨0, by decide, by decide⟩
  · exact ⟨0, by decide, by decide⟩
theorem lines_x (hS : SOK S n L) {i : Nat} (hi : i < n) : ∃ v, 1 ≤ v ∧ v ≤ 16 ∧ X5_linesOf S (nI i) = nI v := by
  obtain ⟨l, h1, h2, h3⟩ := (hS.e hi).2.1
  unfold X5_linesOf
  simp only [zlet]
  rw [omit_x hS hi, rAt_nI (by decide) _ (hS.lt hi), rAt_nI (by decide) _ (hS.lt hi), h3]
  have d : ∀ a w : Nat, 0 < w → a < 1000 → w < 100 → (nI a : Int32) / nI w = nI (a / w) := fun a w h0 ha hw => pk_div (by omega) h0 (by omega)
  have e35 : (nI l + 34) / 35 = nI ((l + 34) / 35) := by
    rw [show (34 : Int32) = nI 34 from rfl, show (35 : Int32) = nI 35 from rfl, nI_add, d _ _ (by omega) (by omega) (by omega)]
  have e25 : (nI l + 24) / 25 = nI ((l + 24) / 25) := by
    rw [show (24 : Int32) = nI 24 from rfl, show (25 : Int32) = nI 25 from rfl, nI_add, d _ _ (by omega) (by omega) (by omega)]
  have e60 : (nI l + 59) / 60 = nI ((l + 59) / 60) := by
    rw [show (59 : Int32) = nI 59 from rfl, show (60 : Int32) = nI 60 from rfl, nI_add, d _ _ (by omega) (by omega) (by omega)]
  rw [e35, e25, e60]
  have one : ∃ v, 1 ≤ v ∧ v ≤ 16 ∧ (1 : Int32) = nI v := ⟨1, by decide, by decide, rfl⟩
  have c35 : ∃ v, 1 ≤ v ∧ v ≤ 16 ∧ nI ((l + 34) / 35) = nI v := ⟨_, by omega, by omega, rfl⟩
  have c25 : ∃ v, 1 ≤ v ∧ v ≤ 16 ∧ nI ((l + 24) / 25) = nI v := ⟨_, by omega, by omega, rfl⟩
  have c60 : ∃ v, 1 ≤ v ∧ v ≤ 16 ∧ nI ((l + 59) / 60) = nI v := ⟨_, by omega, by omega, rfl⟩
  repeat' split
  all_goals first | exact one | exact c35 | exact c25 | exact c60
end MB

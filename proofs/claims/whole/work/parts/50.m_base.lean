-- the mathematics: rows at natural places, what a script is, the reference's row of numbers that tells the same
theorem im1 (x : Int32) : x + (-1) = x - 1 := (Int32.sub_eq_add_neg x 1).symm
theorem zix1 {α : Type} (x : Option α) : zix 1 542 x = x := zix_nI (j := 1) (by decide) (by decide)
theorem zix0 {α : Type} (x : Option α) : zix 0 542 x = x := zix_nI (j := 0) (by decide) (by decide)
theorem cl1 : (1 : Int32).toNatClampNeg = 1 := by decide
theorem cl0 : (0 : Int32).toNatClampNeg = 0 := by decide
theorem rAt_nI {n : Nat} (hn : n < 2147483648) (f : Rw) {i : Nat} (h : i < n) : rAt n f (nI i) = f i := by
  unfold rAt
  rw [if_neg (nI_pos (by omega)), if_neg (show ¬ Int32.ofNat n ≤ nI i from nI_ge h hn), nI_clamp (by omega)]
theorem rAt_m1 {n : Nat} (f : Rw) : rAt n f (-1) = -1 := by
  unfold rAt
  rw [if_pos (by decide)]
theorem rAt_hi {n : Nat} (f : Rw) {i : Nat} (h : n ≤ i) (hi : i < 2147483648) : rAt n f (nI i) = -1 := by
  unfold rAt
  rw [if_neg (nI_pos (by omega)), if_pos (show Int32.ofNat n ≤ nI i from nI_le h hi)]
theorem rPut_nI {n : Nat} (hn : n < 2147483648) (f : Rw) {i : Nat} (h : i < n) (x : Int32) : rPut n f (nI i) x = upd f i x := by
  unfold rPut
  rw [if_neg (nI_pos (by omega)), if_neg (show ¬ Int32.ofNat n ≤ nI i from nI_ge h hn), nI_clamp (by omega)]
theorem rPut_m1 {n : Nat} (f : Rw) (x : Int32) : rPut n f (-1) x = f := by
  unfold rPut
  rw [if_pos (by decide)]
theorem rPlus_nI {n : Nat} (hn : n < 2147483648) (f : Rw) {i : Nat} (h : i < n) (x : Int32) : rPlus n f (nI i) x = upd f i (f i + x) := by
  unfold rPlus
  rw [if_neg (nI_pos (by omega)), if_neg (show ¬ Int32.ofNat n ≤ nI i from nI_ge h hn), nI_clamp (by omega)]
theorem rPlus_m1 {n : Nat} (f : Rw) (x : Int32) : rPlus n f (-1) x = f := by
  unfold rPlus
  rw [if_pos (by decide)]
theorem rCopy_lt {n : Nat} (f g : Rw) {j : Nat} (h : j < n) : rCopy n n f g j = g j := by
  unfold rCopy
  rw [if_pos ⟨h, h⟩]
theorem upd_t (f : Rw) (k : Nat) (x : Int32) (j : Nat) : upd f k x j = if j = k then x else f j := rfl
/-- element i of S is a lawful one -/
def EOK (S : t_Script) (i : Nat) : Prop :=
  (S.2.2.1 i = 0 ∨ S.2.2.1 i = 1 ∨ S.2.2.1 i = 2 ∨ S.2.2.1 i = 3 ∨ S.2.2.1 i = 4) ∧
  (∃ l, 1 ≤ l ∧ l ≤ 400 ∧ S.2.2.2.1 i = nI l) ∧
  (S.2.2.1 i = 2 → ∃ q, q ≤ 9 ∧ S.2.2.2.2.1 i = nI q) ∧ (S.2.2.1 i ≠ 2 → S.2.2.2.2.1 i = -1) ∧
  (S.2.2.2.2.2.2.1 i = 0 ∨ S.2.2.2.2.2.2.1 i = 1 ∨ S.2.2.2.2.2.2.1 i = 2) ∧ (S.2.2.2.2.2.2.1 i ≠ 0 → S.2.2.1 i = 0) ∧ (S.2.2.2.2.2.2.1 i ≠ 0 → S.2.2.2.2.2.2.2.1 i ≠ -1)
def SOK (S : t_Script) (n L : Nat) : Prop := S.1 = nI n ∧ S.2.1 = nI L ∧ n ≤ 60 ∧ 20 ≤ L ∧ L ≤ 60 ∧ ∀ i, i < n → EOK S i
/-- the reference's row m tells of element i what S tells -/
def ERel (S : t_Script) (m : Rw) (i : Nat) : Prop :=
  m (2 + 9 * i) = S.2.2.1 i ∧ m (2 + 9 * i + 1) = S.2.2.2.1 i ∧ m (2 + 9 * i + 2) = S.2.2.2.2.1 i ∧ m (2 + 9 * i + 3) = (if S.2.2.2.2.2.2.1 i = 2 then 1 else 0) ∧ m (2 + 9 * i + 4) = (if S.2.2.2.2.2.2.1 i = 0 then 0 else 1) ∧ m (2 + 9 * i + 5) = S.2.2.2.2.2.2.2.1 i ∧ m (2 + 9 * i + 6) = S.2.2.2.2.2.2.2.2.1 i ∧ m (2 + 9 * i + 7) = S.2.2.2.2.2.2.2.2.2 i ∧ m (2 + 9 * i + 8) = S.2.2.2.2.2.1 i
def MR (S : t_Script) (m : Rw) (n L : Nat) : Prop := m 0 = nI L ∧ m 1 = nI n ∧ ∀ i, i < n → ERel S m i
theorem MR_congr {S : t_Script} {m m' : Rw} {n L : Nat} (hn : n ≤ 60) (h : ∀ k, k < 542 → m' k = m k) (hM : MR S m n L) : MR S m' n L := by
  obtain ⟨h0, h1, h2⟩ := hM
  refine ⟨by rw [h 0 (by omega)]; exact h0, by rw [h 1 (by omega)]; exact h1, fun i hi => ?_⟩
  have := h2 i hi
  unfold ERel at this ⊢
  rw [h _ (by omega), h _ (by omega), h _ (by omega), h _ (by omega), h _ (by omega), h _ (by omega), h _ (by omega), h _ (by omega), h _ (by omega)]
  exact this
theorem of_t (M : t_Model) {i w : Nat} (hi : i < 60) (hw : w < 9) : X7_of M (nI i) (nI w) = some (M.1 (2 + 9 * i + w)) := by
  unfold X7_of
  simp only [zlet]
  have e : (2 : Int32) + 9 * nI i + nI w = nI (2 + 9 * i + w) := by
    rw [show (9 : Int32) = nI 9 from rfl, show (2 : Int32) = nI 2 from rfl, pk_mul, nI_add, nI_add]
  rw [e, zix_nI (by omega) (by omega), nI_clamp (by omega)]
section MB
variable {S : t_Script} {M : t_Model} {n L L1 : Nat}
theorem SOK.lt (hS : SOK S n L) {i : Nat} (hi : i < n) : i < 60 := Nat.lt_of_lt_of_le hi hS.2.2.1
theorem SOK.e (hS : SOK S n L) {i : Nat} (hi : i < n) : EOK S i := hS.2.2.2.2.2 i hi
theorem of_kd (hS : SOK S n L) (hM : MR S M.1 n L1) {i : Nat} (hi : i < n) : X7_of M (nI i) 0 = some (S.2.2.1 i) := (of_t M (w := 0) (hS.lt hi) (by decide)).trans (congrArg some (hM.2.2 i hi).1)
theorem of_ln (hS : SOK S n L) (hM : MR S M.1 n L1) {i : Nat} (hi : i < n) : X7_of M (nI i) 1 = some (S.2.2.2.1 i) := (of_t M (w := 1) (hS.lt hi) (by decide)).trans (congrArg some (hM.2.2 i hi).2.1)
theorem of_pr (hS : SOK S n L) (hM : MR S M.1 n L1) {i : Nat} (hi : i < n) : X7_of M (nI i) 2 = some (S.2.2.2.2.1 i) := (of_t M (w := 2) (hS.lt hi) (by decide)).trans (congrArg some (hM.2.2 i hi).2.2.1)
theorem of_om (hS : SOK S n L) (hM : MR S M.1 n L1) {i : Nat} (hi : i < n) : X7_of M (nI i) 3 = some (if S.2.2.2.2.2.2.1 i = 2 then 1 else 0) := (of_t M (w := 3) (hS.lt hi) (by decide)).trans (congrArg some (hM.2.2 i hi).2.2.2.1)
theorem of_lk (hS : SOK S n L) (hM : MR S M.1 n L1) {i : Nat} (hi : i < n) : X7_of M (nI i) 4 = some (if S.2.2.2.2.2.2.1 i = 0 then 0 else 1) := (of_t M (w := 4) (hS.lt hi) (by decide)).trans (congrArg some (hM.2.2 i hi).2.2.2.2.1)
theorem of_la (hS : SOK S n L) (hM : MR S M.1 n L1) {i : Nat} (hi : i < n) : X7_of M (nI i) 5 = some (S.2.2.2.2.2.2.2.1 i) := (of_t M (w := 5) (hS.lt hi) (by decide)).trans (congrArg some (hM.2.2 i hi).2.2.2.2.2.1)
theorem of_lb (hS : SOK S n L) (hM : MR S M.1 n L1) {i : Nat} (hi : i < n) : X7_of M (nI i) 6 = some (S.2.2.2.2.2.2.2.2.1 i) := (of_t M (w := 6) (hS.lt hi) (by decide)).trans (congrArg some (hM.2.2 i hi).2.2.2.2.2.2.1)
theorem of_lc (hS : SOK S n L) (hM : MR S M.1 n L1) {i : Nat} (hi : i < n) : X7_of M (nI i) 7 = some (S.2.2.2.2.2.2.2.2.2 i) := (of_t M (w := 7) (hS.lt hi) (by decide)).trans (congrArg some (hM.2.2 i hi).2.2.2.2.2.2.2.1)
theorem of_mk (hS : SOK S n L) (hM : MR S M.1 n L1) {i : Nat} (hi : i < n) : X7_of M (nI i) 8 = some (S.2.2.2.2.2.1 i) := (of_t M (w := 8) (hS.lt hi) (by decide)).trans (congrArg some (hM.2.2 i hi).2.2.2.2.2.2.2.2)
theorem head_t (hS : SOK S n L) (hM : MR S M.1 n L1) {i : Nat} (hi : i < n) : X7_isHeading M (nI i) = some (if S.2.2.1 i = 0 then 1 else 0) := by
  unfold X7_isHeading
  rw [of_kd hS hM hi, Option.bind_some]
  by_cases h : S.2.2.1 i = 0
  · rw [if_pos h, if_pos h]
  · rw [if_neg h, if_neg h]
theorem head_x (hS : SOK S n L) {i : Nat} (hi : i < n) : X5_isHeading S (nI i) = if S.2.2.1 i = 0 then 1 else 0 := by
  unfold X5_isHeading
  simp only [zlet]
  rw [rAt_nI (by decide) _ (hS.lt hi)]
theorem lock_x (hS : SOK S n L) {i : Nat} (hi : i < n) : X5_isLocked S (nI i) = if S.2.2.2.2.2.2.1 i = 0 then 0 else 1 := by
  unfold X5_isLocked
  simp only [zlet]
  rw [rAt_nI (by decide) _ (hS.lt hi)]
  rcases (hS.e hi).2.2.2.2.1 with h | h | h <;> rw [h] <;> decide
theorem lock_t (hS : SOK S n L) (hM : MR S M.1 n L1) {i : Nat} (hi : i < n) : X7_isLocked M (nI i) = some (if S.2.2.2.2.2.2.1 i = 0 then 0 else 1) := by
  unfold X7_isLocked
  rw [head_t hS hM hi, Option.bind_some, of_lk hS hM hi, Option.bind_some]
  by_cases h : S.2.2.2.2.2.2.1 i = 0
  · rw [if_pos h]
    by_cases h2 : S.2.2.1 i = 0
    · rw [if_pos h2]; decide
    · rw [if_neg h2]; decide
  · rw [if_neg h, if_pos ((hS.e hi).2.2.2.2.2.1 h)]; decide
theorem omit_x (hS : SOK S n L) {i : Nat} (hi : i < n) : X5_isOmitted S (nI i) = if S.2.2.2.2.2.2.1 i = 2 then 1 else 0 := by
  unfold X5_isOmitted
  simp only [zlet]
  rw [rAt_nI (by decide) _ (hS.lt hi)]
theorem has_x (hS : SOK S n L) {i : Nat} (hi : i < 2147483648) : X5_has S (nI i) = if i < n then 1 else 0 := by
  unfold X5_has X6_isBelow
  simp only [zlet]
  rw [hS.1, if_neg (nI_pos hi)]
  have := hS.2.2.1
  by_cases h : i < n
  · rw [if_pos h, if_neg (nI_ge h (by omega))]
  · rw [if_neg h, if_pos (nI_le (by omega) hi)]
theorem blanks_x (hS : SOK S n L) {i : Nat} (hi : i < n) : ∃ b, b ≤ 2 ∧ X5_blanksAhead S (nI i) = nI b := by
  unfold X5_blanksAhead
  simp only [zlet]
  rw [rAt_nI (by decide) _ (hS.lt hi)]
  rcases (hS.e hi).1 with h | h | h | h | h <;> rw [h]
  · exact ⟨2, by decide, by decide⟩
  · exact ⟨1, by decide, by decide⟩
  · exact ⟨1, by decide, by decide⟩
  · exact ⟨0, by decide, by decide⟩
  · exact ⟨0, by decide, by decide⟩
theorem blanks_t (hS : SOK S n L) (hM : MR S M.1 n L1) {i : Nat} (hi : i < n) : X7_blanks M (nI i) = some (X5_blanksAhead S (nI i)) := by
  unfold X5_blanksAhead X7_blanks
  simp only [zlet]
  rw [rAt_nI (by decide) _ (hS.lt hi), of_kd hS hM hi, Option.bind_some]
  rcases (hS.e hi).1 with h | h | h | h | h <;> rw [h] <;> decide
theorem lines_x (hS : SOK S n L) {i : Nat} (hi : i < n) : ∃ v, 1 ≤ v ∧ v ≤ 16 ∧ X5_linesOf S (nI i) = nI v := by
  obtain ⟨l, h1, h2, h3⟩ := (hS.e hi).2.1
  unfold X5_linesOf
  simp only [zlet]
  rw [omit_x hS hi, rAt_nI (by decide) _ (hS.lt hi), rAt_nI (by decide) _ (hS.lt hi), h3]
  have d : ∀ a w : Nat, 0 < w → a < 1000 → w < 100 → (nI a : Int32) / nI w = nI (a / w) := fun a w h0 ha hw => pk_div (by omega) h0 (by omega)
  have e35 : (nI l + 34) / 35 = nI ((l + 34) / 35) := by
    rw [show (34 : Int32) = nI 34 from rfl, show (35 : Int32) = nI 35 from rfl, nI_add, d _ _ (by omega) (by omega) (by omega)]
  have e25 : (nI l + 24) / 25 = nI ((l + 24) / 25) := by
    rw [show (24 : Int32) = nI 24 from rfl, show (25 : Int32) = nI 25 from rfl, nI_add, d _ _ (by omega) (by omega) (by omega)]
  have e60 : (nI l + 59) / 60 = nI ((l + 59) / 60) := by
    rw [show (59 : Int32) = nI 59 from rfl, show (60 : Int32) = nI 60 from rfl, nI_add, d _ _ (by omega) (by omega) (by omega)]
  rw [e35, e25, e60]
  have one : ∃ v, 1 ≤ v ∧ v ≤ 16 ∧ (1 : Int32) = nI v := ⟨1, by decide, by decide, rfl⟩
  have c35 : ∃ v, 1 ≤ v ∧ v ≤ 16 ∧ nI ((l + 34) / 35) = nI v := ⟨_, by omega, by omega, rfl⟩
  have c25 : ∃ v, 1 ≤ v ∧ v ≤ 16 ∧ nI ((l + 24) / 25) = nI v := ⟨_, by omega, by omega, rfl⟩
  have c60 : ∃ v, 1 ≤ v ∧ v ≤ 16 ∧ nI ((l + 59) / 60) = nI v := ⟨_, by omega, by omega, rfl⟩
  repeat' split
  all_goals first | exact one | exact c35 | exact c25 | exact c60
theorem lines_t (hS : SOK S n L) (hM : MR S M.1 n L1) {i : Nat} (hi : i < n) : X7_lines M (nI i) = some (X5_linesOf S (nI i)) := by
  unfold X5_linesOf X7_lines X7_wide
  simp only [zlet]
  rw [omit_x hS hi, rAt_nI (by decide) _ (hS.lt hi), rAt_nI (by decide) _ (hS.lt hi), of_kd hS hM hi, Option.bind_some, of_om hS hM hi, Option.bind_some, of_ln hS hM hi, Option.bind_some]
  have a3 : ∀ y : Int32, y + 35 - 1 = y + 34 := fun y => by rw [Int32.sub_eq_add_neg, Int32.add_assoc]; rfl
  have a4 : ∀ y : Int32, y + 25 - 1 = y + 24 := fun y => by rw [Int32.sub_eq_add_neg, Int32.add_assoc]; rfl
  have a6 : ∀ y : Int32, y + 60 - 1 = y + 59 := fun y => by rw [Int32.sub_eq_add_neg, Int32.add_assoc]; rfl
  have d3 : ∀ (x : Option Int32), zdv 35 x = x := fun x => if_neg (by decide)
  have d4 : ∀ (x : Option Int32), zdv 25 x = x := fun x => if_neg (by decide)
  have d6 : ∀ (x : Option Int32), zdv 60 x = x := fun x => if_neg (by decide)
  rcases (hS.e hi).2.2.2.2.1 with h2 | h2 | h2 <;> rcases (hS.e hi).1 with h | h | h | h | h <;> simp [h, h2, a3, a4, a6, d3, d4, d6]
theorem least_t (hS : SOK S n L) (hM : MR S M.1 n L1) {i : Nat} (hi : i < n) : X7_least M (nI i) = some (X1_leastPart (S.2.2.1 i) (X5_linesOf S (nI i))) := by
  unfold X7_least X1_leastPart j_X1_leastPart_12
  rw [lines_t hS hM hi, Option.bind_some, of_kd hS hM hi, Option.bind_some, Option.bind_some]
  obtain ⟨v, h1, h2, h3⟩ := lines_x hS hi
  rw [h3]
  by_cases h4 : v < 4
  · rw [if_neg (show ¬ (4 : Int32) ≤ nI v from nI_ge (b := 4) h4 (by decide)), if_pos (show nI v < (4 : Int32) from nI_lt (b := 4) h4 (by decide))]
    rw [if_pos (show nI v < (4 : Int32) from nI_lt (b := 4) h4 (by decide))]
  · rw [if_pos (show (4 : Int32) ≤ nI v from nI_le (a := 4) (by omega) (by omega)), if_neg (show ¬ nI v < (4 : Int32) from nI_nlt (b := 4) (by omega) (by omega))]
    rw [if_neg (show ¬ nI v < (4 : Int32) from nI_nlt (b := 4) (by omega) (by omega))]
    rcases (hS.e hi).1 with h | h | h | h | h <;> rw [h] <;> rfl
theorem wants_t (hS : SOK S n L) (hM : MR S M.1 n L1) {i : Nat} (hi : i < n) : X7_wantsNext M (nI i) = some (X1_holdsNext S (nI i)) := by
  unfold X7_wantsNext X7_isText X1_holdsNext
  have hn := hS.2.2.1
  simp only [zlet, zix1, cl1, hM.2.1, nI_1]
  rw [of_kd hS hM hi, Option.bind_some, has_x hS (by omega), head_t hS hM hi]
  by_cases h1 : i + 1 < n
  · rw [if_pos h1, of_mk hS hM h1, head_t hS hM h1, of_kd hS hM h1, rAt_nI (by decide) _ (hS.lt hi), rAt_nI (by decide) _ (hS.lt h1), rAt_nI (by decide) _ (hS.lt h1)]
    have e0 : ¬ nI (i + 1) = nI n := fun e => by have := (nI_eq (by omega) (by omega)).mp e; omega
    simp only [e0, if_false, Option.bind_some]
    rcases (hS.e hi).1 with h | h | h | h | h <;> rcases (hS.e h1).1 with k | k | k | k | k <;> by_cases hm : S.2.2.2.2.2.1 (i + 1) = -1 <;> simp [h, k, hm]
  · have e0 : nI (i + 1) = nI n := by rw [show i + 1 = n by omega]
    simp only [h1, e0, if_true, if_false, Option.bind_some]
    rcases (hS.e hi).1 with h | h | h | h | h <;> simp [h]
end MB

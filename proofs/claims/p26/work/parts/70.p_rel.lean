-- the law's own arrays beside a script: what its small methods answer
theorem zg0 {α : Type} (x : Option α) : zix 0 2 x = x := zix_nI (j := 0) (by decide) (by decide)
theorem zg1 {α : Type} (x : Option α) : zix 1 2 x = x := zix_nI (j := 1) (by decide) (by decide)
theorem z41 {α : Type} {i : Nat} (h : i < 41) (x : Option α) : zix (nI i) 41 x = x := zix_nI h (by decide)
def MKr (a b : Int32) : Prop := (a = -1 ∧ b = 0) ∨ ∃ q, 1 ≤ q ∧ q < 1000 ∧ a = nI q ∧ b = nI q
/-- the label that the law holds for element i: of a locked heading its three numbers in one -/
def LBr (S : t_Script) (b : Int32) (i : Nat) : Prop :=
  (S.2.2.2.2.2.2.1 i = 0 ∧ b = -1) ∨ (S.2.2.2.2.2.2.1 i ≠ 0 ∧ ∃ x y z, S.2.2.2.2.2.2.2.1 i = nI x ∧ S.2.2.2.2.2.2.2.2.1 i = nI y ∧ S.2.2.2.2.2.2.2.2.2 i = nI z ∧ b = nI (10000 * x + 100 * y + z) ∧ x ≤ lkN S.2.2.2.2.2.2.1 i + 1 ∧ y ≤ lkN S.2.2.2.2.2.2.1 i + 1 ∧ z ≤ lkN S.2.2.2.2.2.2.1 i + 1)
def LE (S : t_Script) (k ln pr lb mk : Rw) (i : Nat) : Prop :=
  k i = (if S.2.2.2.2.2.2.1 i = 2 then 5 else S.2.2.1 i) ∧ ln i = S.2.2.2.1 i ∧ pr i = S.2.2.2.2.1 i ∧ LBr S (lb i) i ∧ MKr (S.2.2.2.2.2.1 i) (mk i)
def LR (S : t_Script) (n L : Nat) (g k ln pr lb mk : Rw) : Prop := g 0 = nI n ∧ g 1 = nI L ∧ n ≤ 40 ∧ ∀ i, i < n → LE S k ln pr lb mk i
section PR
variable {S : t_Script} {n L : Nat} {g k ln pr lb mk : Rw}
theorem LR.le (hR : LR S n L g k ln pr lb mk) {i : Nat} (hi : i < n) : LE S k ln pr lb mk i := hR.2.2.2 i hi
theorem LR.lt (hR : LR S n L g k ln pr lb mk) {i : Nat} (hi : i < n) : i < 41 := by
  have := hR.2.2.1
  omega
theorem k_cases (hS : SOK S n L) (hR : LR S n L g k ln pr lb mk) {i : Nat} (hi : i < n) : (S.2.2.1 i = 0 ∧ S.2.2.2.2.2.2.1 i = 2 ∧ k i = 5) ∨ (S.2.2.2.2.2.2.1 i ≠ 2 ∧ k i = S.2.2.1 i) := by
  have h := (hR.le hi).1
  by_cases c : S.2.2.2.2.2.2.1 i = 2
  · rw [if_pos c] at h
    exact Or.inl ⟨(hS.e hi).2.2.2.2.2.1 (by rw [c]; decide), c, h⟩
  · rw [if_neg c] at h
    exact Or.inr ⟨c, h⟩
theorem heads_l (hS : SOK S n L) (hR : LR S n L g k ln pr lb mk) {i : Nat} (hi : i < n) : L_heads k (nI i) = some (if S.2.2.1 i = 0 then 1 else 0) := by
  have h41 := hR.lt hi
  unfold L_heads
  simp only [zlet_e]
  rw [z41 h41, nI_clamp (by omega)]
  rcases k_cases hS hR hi with ⟨h1, h2, h3⟩ | ⟨h1, h2⟩
  · rw [h3, h1]; decide
  · rw [h2]
    rcases (hS.e hi).1 with h | h | h | h | h <;> rw [h] <;> decide
theorem ceil_l {l w : Nat} (hw : w = 35 ∨ w = 25 ∨ w = 60) (hl : l ≤ 400) {i : Nat} (hi : i < 41) (h : ln i = nI l) : j_L_lines_42 k ln (nI i) (nI w) = some (nI ((l + w - 1) / w)) := by
  obtain ⟨X, h1, h2⟩ := zl_up (body := b_L_lines_46 k ln (nI i) (nI w)) (fun j v => v = nI j) (fun X => X = nI ((l + w - 1) / w)) ((l + w - 1) / w)
    (fun rec v hv => by
      subst hv
      unfold b_L_lines_46
      simp only [zlet_e]
      rw [z41 hi, nI_clamp (by omega), h, pk_mul, if_pos (nI_le (by rcases hw with e | e | e <;> subst e <;> omega) (by rcases hw with e | e | e <;> subst e <;> omega))]
      exact ⟨_, rfl, rfl⟩)
    (fun rec j v hj hv kk => by
      subst hv
      unfold b_L_lines_46
      simp only [zlet_e]
      rw [z41 hi, nI_clamp (by omega), h, pk_mul, if_neg (nI_ge (by rcases hw with e | e | e <;> subst e <;> omega) (by omega)), nI_1]
      exact kk _ rfl)
    FU 0 0 (Nat.zero_le _) rfl (show (l + w - 1) / w - 0 < 3000 by rcases hw with e | e | e <;> subst e <;> omega)
  unfold j_L_lines_42
  rw [h1, Option.bind_some, h2]
theorem lines_l (hS : SOK S n L) (hR : LR S n L g k ln pr lb mk) {i : Nat} (hi : i < n) : L_lines k ln (nI i) = some (X5_linesOf S (nI i)) := by
  have h41 := hR.lt hi
  obtain ⟨l, l1, l2, l3⟩ := (hS.e hi).2.1
  have hln : ln i = nI l := by rw [(hR.le hi).2.1, l3]
  have d : ∀ a w : Nat, 0 < w → a < 1000 → w < 100 → (nI a : Int32) / nI w = nI (a / w) := fun a w h0 ha hw => pk_div (by omega) h0 (by omega)
  have c35 : j_L_lines_42 k ln (nI i) 35 = some ((nI l + 34) / 35) := by
    refine (ceil_l (w := 35) (Or.inl rfl) l2 h41 hln).trans (congrArg some ?_)
    rw [show (34 : Int32) = nI 34 from rfl, show (35 : Int32) = nI 35 from rfl, nI_add, d _ _ (by omega) (by omega) (by omega), show l + 35 - 1 = l + 34 by omega]
  have c25 : j_L_lines_42 k ln (nI i) 25 = some ((nI l + 24) / 25) := by
    refine (ceil_l (w := 25) (Or.inr (Or.inl rfl)) l2 h41 hln).trans (congrArg some ?_)
    rw [show (24 : Int32) = nI 24 from rfl, show (25 : Int32) = nI 25 from rfl, nI_add, d _ _ (by omega) (by omega) (by omega), show l + 25 - 1 = l + 24 by omega]
  have c60 : j_L_lines_42 k ln (nI i) 60 = some ((nI l + 59) / 60) := by
    refine (ceil_l (w := 60) (Or.inr (Or.inr rfl)) l2 h41 hln).trans (congrArg some ?_)
    rw [show (59 : Int32) = nI 59 from rfl, show (60 : Int32) = nI 60 from rfl, nI_add, d _ _ (by omega) (by omega) (by omega), show l + 60 - 1 = l + 59 by omega]
  unfold L_lines X5_linesOf
  simp only [zlet_e, z41 h41, nI_clamp (show i < 2 ^ 31 by omega)]
  rw [omit_x hS hi, rAt_nI (by decide) _ (hS.lt hi), rAt_nI (by decide) _ (hS.lt hi), l3, c35, c25, c60]
  rcases k_cases hS hR hi with ⟨h1, h2, h3⟩ | ⟨h1, h2⟩
  · simp [h1, h2, h3]
  · rw [h2]
    rcases (hS.e hi).1 with h | h | h | h | h <;> simp [h, h1]
theorem scenes_l (hS : SOK S n L) (hR : LR S n L g k ln pr lb mk) : L_scenes g k = some (nI (hcN S.2.2.1 n)) := by
  have hn := hR.2.2.1
  obtain ⟨X, h1, h2⟩ := zl_up (body := b_L_scenes_4 g k) (fun j v => v = (nI (hcN S.2.2.1 j), nI j)) (fun X => X = nI (hcN S.2.2.1 n)) n
    (fun rec v hv => by
      subst hv
      unfold b_L_scenes_4
      simp only [zlet_e, zg0, cl0, hR.1]
      rw [if_pos (nI_le (Nat.le_refl _) (by omega))]
      exact ⟨_, rfl, rfl⟩)
    (fun rec j v hj hv kk => by
      subst hv
      unfold b_L_scenes_4
      simp only [zlet_e, zg0, cl0, hR.1, nI_1]
      rw [if_neg (nI_ge hj (by omega)), heads_l hS hR hj, Option.bind_some]
      by_cases h0 : S.2.2.1 j = 0
      · rw [if_pos h0, if_neg (by decide)]
        exact kk _ (by rw [hc_s0 h0])
      · rw [if_neg h0, if_pos rfl, Int32.add_zero]
        exact kk _ (by rw [hc_s1 h0]))
    FU 0 (0, 0) (Nat.zero_le _) rfl (show n - 0 < 3000 by omega)
  unfold L_scenes
  rw [h1, Option.bind_some, h2]
theorem blanks_l (hS : SOK S n L) (hR : LR S n L g k ln pr lb mk) {i : Nat} (hi : i < n) : L_blanks k (nI i) = some (X5_blanksAhead S (nI i)) := by
  have h41 := hR.lt hi
  unfold L_blanks X5_blanksAhead
  simp only [zlet_e, z41 h41, nI_clamp (show i < 2 ^ 31 by omega)]
  rw [rAt_nI (by decide) _ (hS.lt hi)]
  rcases k_cases hS hR hi with ⟨h1, h2, h3⟩ | ⟨h1, h2⟩
  · rw [h3, h1]; decide
  · rw [h2]
    rcases (hS.e hi).1 with h | h | h | h | h <;> rw [h] <;> decide
theorem splits_l (hS : SOK S n L) (hR : LR S n L g k ln pr lb mk) {i v : Nat} (hi : i < n) (hv : X5_linesOf S (nI i) = nI v) (hv16 : v ≤ 16) : L_splits k ln (nI i) = some (if (S.2.2.1 i = 1 ∨ S.2.2.1 i = 3) ∧ 4 ≤ v then 1 else 0) := by
  have h41 := hR.lt hi
  have e : j_L_splits_14 k ln (nI i) = some (if 4 ≤ v then 1 else 0) := by
    unfold j_L_splits_14
    rw [lines_l hS hR hi, Option.bind_some, hv]
    by_cases c : 4 ≤ v
    · rw [if_pos c, if_neg (show ¬ nI v ≤ (3 : Int32) from nI_ge (a := 3) (by omega) (by omega))]
    · rw [if_neg c, if_pos (show nI v ≤ (3 : Int32) from nI_le (b := 3) (by omega) (by omega))]
  unfold L_splits
  simp only [zlet_e, z41 h41, nI_clamp (show i < 2 ^ 31 by omega)]
  rw [e]
  rcases k_cases hS hR hi with ⟨h1, h2, h3⟩ | ⟨h1, h2⟩
  · simp [h1, h3]
  · rw [h2]
    rcases (hS.e hi).1 with h | h | h | h | h <;> simp [h]
end PR
/-- the cells from i on move down by one -/
theorem closes_l (f : Rw) {n i : Nat} (hn : n ≤ 41) (hi : i < n) : ∃ f', L_closes f (nI n) (nI i) = some f' ∧ ∀ t, f' t = if i ≤ t ∧ t + 1 < n then f (t + 1) else f t := by
  obtain ⟨X, h1, h2⟩ := zl_up (body := b_L_closes_2 (nI n) (nI i)) (fun j v => i ≤ j ∧ ∃ f', v = (f', nI j) ∧ ∀ t, f' t = if i ≤ t ∧ t < j then f (t + 1) else f t) (fun X => ∀ t, X t = if i ≤ t ∧ t + 1 < n then f (t + 1) else f t) (n - 1)
    (fun rec v hv => by
      obtain ⟨-, f', rfl, hf⟩ := hv
      unfold b_L_closes_2
      simp only [zlet_e, nI_1]
      rw [if_pos (nI_le (by omega) (by omega))]
      refine ⟨_, rfl, fun t => ?_⟩
      rw [hf]
      by_cases c : i ≤ t ∧ t < n - 1
      · rw [if_pos c, if_pos (by omega)]
      · rw [if_neg c, if_neg (by omega)])
    (fun rec j v hj hv kk => by
      obtain ⟨hij, f', rfl, hf⟩ := hv
      unfold b_L_closes_2
      simp only [zlet_e, nI_1]
      rw [if_neg (nI_ge (by omega) (by omega)), z41 (by omega), z41 (by omega), nI_clamp (by omega), nI_clamp (by omega)]
      refine kk _ ⟨by omega, _, rfl, fun t => ?_⟩
      by_cases e : t = j
      · subst e
        rw [pk_us, if_pos (by omega), hf, if_neg (by omega)]
      · rw [pk_un e, hf]
        by_cases c : i ≤ t ∧ t < j
        · rw [if_pos c, if_pos (by omega)]
        · rw [if_neg c, if_neg (by omega)])
    FU i (f, nI i) (by omega) ⟨Nat.le_refl _, f, rfl, fun t => by rw [if_neg (by omega)]⟩ (show n - 1 - i < 3000 by omega)
  refine ⟨X, ?_, h2⟩
  unfold L_closes
  rw [h1, Option.bind_some]
/-- the cells from p on move up by one, and x comes to p -/
theorem opens_l (f : Rw) {n p : Nat} (hn : n < 41) (hp : p ≤ n) (x : Int32) : ∃ f', L_opens f (nI n) (nI p) x = some f' ∧ ∀ t, f' t = if t = p then x else if p < t ∧ t ≤ n then f (t - 1) else f t := by
  obtain ⟨X, h1, h2⟩ := zl_dn (body := b_L_opens_3 (nI n) (nI p) x) (fun d v => d ≤ n - p ∧ ∃ f', v = (f', nI (p + d)) ∧ ∀ t, f' t = if p + d < t ∧ t ≤ n then f (t - 1) else f t) (fun X => ∀ t, X t = if p < t ∧ t ≤ n then f (t - 1) else f t)
    (fun rec v hv => by
      obtain ⟨-, f', rfl, hf⟩ := hv
      unfold b_L_opens_3
      simp only [Nat.add_zero] at hf ⊢
      rw [if_pos (nI_le (Nat.le_refl _) (by omega))]
      exact ⟨_, rfl, hf⟩)
    (fun rec d v hv kk => by
      obtain ⟨hd, f', rfl, hf⟩ := hv
      unfold b_L_opens_3
      simp only [zlet_e]
      rw [if_neg (nI_ge (by omega) (by omega)), show p + (d + 1) = (p + d) + 1 by omega, nI_pred, pk_m1, z41 (by omega), z41 (by omega), nI_clamp (by omega), nI_clamp (by omega)]
      refine kk _ ⟨by omega, _, rfl, fun t => ?_⟩
      by_cases e : t = p + d + 1
      · subst e
        rw [pk_us, if_pos (by omega), hf, if_neg (by omega)]
        rfl
      · rw [pk_un e, hf]
        by_cases c : p + (d + 1) < t ∧ t ≤ n
        · rw [if_pos c, if_pos (by omega)]
        · rw [if_neg c, if_neg (by omega)])
    FU (n - p) (f, nI n) ⟨Nat.le_refl _, f, by rw [show p + (n - p) = n by omega], fun t => by rw [if_neg (by omega)]⟩ (show n - p < 3000 by omega)
  refine ⟨upd X p x, ?_, fun t => ?_⟩
  · unfold L_opens
    rw [h1, Option.bind_some]
    simp only [zlet_e]
    rw [z41 (by omega), nI_clamp (by omega)]
  · rw [upd_t]
    by_cases e : t = p
    · rw [if_pos e, if_pos e]
    · rw [if_neg e, if_neg e]; exact h2 t

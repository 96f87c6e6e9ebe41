-- labels, by the law
def xV (lb lk : Rw) (i : Nat) : Int32 := if xsN lk i = 0 then 0 else lb (xsN lk i - 1)
def yV (lb lk : Rw) (n i : Nat) : Int32 := if ysN lk n i < n then lb (ysN lk n i) else -1
theorem yV_0 {lb lk : Rw} {n m : Nat} (hm : m < n) (hl : lk m = 0) : yV lb lk n m = yV lb lk n (m + 1) := by
  unfold yV
  rw [ys_s0 hm hl]
theorem yV_1 {lb lk : Rw} {n m : Nat} (hm : m < n) (hl : ¬ lk m = 0) : yV lb lk n m = lb m := by
  unfold yV
  rw [ys_s1 hm hl, if_pos hm]
theorem lk_hc {kd lk : Rw} {n : Nat} (hlk : ∀ i, i < n → lk i ≠ 0 → kd i = 0) : ∀ i, i ≤ n → lkN lk i ≤ hcN kd i := by
  intro i
  induction i with
  | zero => intro _; exact Nat.le_refl _
  | succ i ih =>
    intro h
    have := ih (by omega)
    by_cases hl : lk i = 0
    · rw [lk_s0 hl]
      have := hc_mono kd (i := i) (j := i + 1) (by omega)
      omega
    · rw [lk_s1 hl, hc_s0 (hlk i (by omega) hl)]
      omega
theorem ks_hc {kd lk : Rw} {n : Nat} (hlk : ∀ i, i < n → lk i ≠ 0 → kd i = 0) : ∀ i, i ≤ n → (xsN lk i = 0 → ksN kd lk i = hcN kd i) ∧ (xsN lk i ≠ 0 → hcN kd i = hcN kd (xsN lk i - 1) + 1 + ksN kd lk i) := by
  intro i
  induction i with
  | zero => intro _; exact ⟨fun _ => rfl, fun h => absurd rfl h⟩
  | succ i ih =>
    intro h
    obtain ⟨a, b⟩ := ih (by omega)
    by_cases hl : lk i = 0
    · rw [xs_s0 hl]
      by_cases hk : kd i = 0
      · rw [ks_s0 hl hk, hc_s0 hk]
        exact ⟨fun h => by rw [a h], fun h => by rw [b h]; omega⟩
      · rw [ks_s2 hl hk, hc_s1 hk]
        exact ⟨a, b⟩
    · rw [xs_s1 hl, ks_s1 hl, hc_s0 (hlk i (by omega) hl)]
      exact ⟨fun h => absurd h (by omega), fun _ => by rw [Nat.add_sub_cancel]⟩
/-- heading h's label in one number -/
def ENC (S : t_Script) (n h : Nat) (t : Int32) : Prop := ∃ A B C, lbA S n h = nI A ∧ lbB S n h = nI B ∧ lbC S n h = nI C ∧ A ≤ hcN S.2.2.1 h + 1 ∧ B ≤ hcN S.2.2.1 h + 1 ∧ C ≤ hcN S.2.2.1 h + 1 ∧ t = nI (10000 * A + 100 * B + C)
section PL
variable {S : t_Script} {n L : Nat} {g k ln pr lb mk : Rw}
theorem SOK.lk (hS : SOK S n L) : ∀ i, i < n → S.2.2.2.2.2.2.1 i ≠ 0 → S.2.2.1 i = 0 := fun i hi h => (hS.e hi).2.2.2.2.2.1 h
theorem SOK.un (hS : SOK S n L) {i : Nat} (hi : i < n) (h : ¬ S.2.2.1 i = 0) : S.2.2.2.2.2.2.1 i = 0 := by
  by_cases c : S.2.2.2.2.2.2.1 i = 0
  · exact c
  · exact absurd (hS.lk i hi c) h
theorem lb_0 (hR : LR S n L g k ln pr lb mk) {i : Nat} (hi : i < n) (h : S.2.2.2.2.2.2.1 i = 0) : lb i = -1 := by
  rcases (hR.le hi).2.2.2.1 with a | a
  · exact a.2
  · exact absurd h a.1
theorem lb_e (hR : LR S n L g k ln pr lb mk) {i : Nat} (hi : i < n) (h : S.2.2.2.2.2.2.1 i ≠ 0) : ∃ x y z, S.2.2.2.2.2.2.2.1 i = nI x ∧ S.2.2.2.2.2.2.2.2.1 i = nI y ∧ S.2.2.2.2.2.2.2.2.2 i = nI z ∧ lb i = nI (10000 * x + 100 * y + z) ∧ x ≤ lkN S.2.2.2.2.2.2.1 i + 1 ∧ y ≤ lkN S.2.2.2.2.2.2.1 i + 1 ∧ z ≤ lkN S.2.2.2.2.2.2.1 i + 1 := by
  rcases (hR.le hi).2.2.2.1 with a | a
  · exact absurd a.1 h
  · exact a.2
theorem lb_1 (hR : LR S n L g k ln pr lb mk) {i : Nat} (hi : i < n) (h : S.2.2.2.2.2.2.1 i ≠ 0) : ¬ lb i < 0 := by
  obtain ⟨x, y, z, -, -, -, e, b1, b2, b3⟩ := lb_e hR hi h
  have := lk_le S.2.2.2.2.2.2.1 i
  have := hR.lt hi
  rw [e]
  exact nI_pos (by omega)
theorem flag_l (hS : SOK S n L) (hR : LR S n L g k ln pr lb mk) (to : Rw) : zloop (b_L_labels_6 g k lb to) FU (0, 0) = some (if lkN S.2.2.2.2.2.2.1 n = 0 then 0 else 1) := by
  have hn := hR.2.2.1
  obtain ⟨X, h1, h2⟩ := zl_up (body := b_L_labels_6 g k lb to) (fun j v => v = ((if lkN S.2.2.2.2.2.2.1 j = 0 then 0 else 1), nI j)) (fun X => X = (if lkN S.2.2.2.2.2.2.1 n = 0 then 0 else 1)) n
    (fun rec v hv => by
      subst hv
      unfold b_L_labels_6
      simp only [zlet_e, zg0, cl0, hR.1]
      rw [if_pos (nI_le (Nat.le_refl _) (by omega))]
      exact ⟨_, rfl, rfl⟩)
    (fun rec j v hj hv kk => by
      subst hv
      unfold b_L_labels_6
      simp only [zlet_e, zg0, cl0, hR.1, nI_1]
      rw [if_neg (nI_ge hj (by omega))]
      by_cases c : lkN S.2.2.2.2.2.2.1 j = 0
      · rw [if_pos c, if_pos rfl, heads_l hS hR hj, Option.bind_some]
        by_cases h0 : S.2.2.1 j = 0
        · rw [if_pos h0, if_neg (by decide), z41 (by omega), nI_clamp (by omega)]
          by_cases hl : S.2.2.2.2.2.2.1 j = 0
          · rw [lb_0 hR hj hl, if_pos (by decide)]
            exact kk _ (by rw [lk_s0 hl, if_pos c])
          · rw [if_neg (lb_1 hR hj hl)]
            exact kk _ (by rw [lk_s1 hl, if_neg (by omega)])
        · rw [if_neg h0, if_pos rfl]
          exact kk _ (by rw [lk_s0 (hS.un hj h0), if_pos c])
      · rw [if_neg c, if_neg (by decide)]
        have := lk_mono S.2.2.2.2.2.2.1 (i := j) (j := j + 1) (by omega)
        exact kk _ (by rw [if_neg (by omega)]))
    FU 0 (0, 0) (Nat.zero_le _) rfl (show n - 0 < 3000 by omega)
  rw [h1, h2]
theorem next_l (hS : SOK S n L) (hR : LR S n L g k ln pr lb mk) (to : Rw) (x4 x5 x6 : Int32) {h : Nat} (hh : h < n) : zloop (b_L_labels_118 g k lb to x4 x5 x6 (nI h)) FU (-1, nI n - 1) = some (yV lb S.2.2.2.2.2.2.1 n (h + 1)) := by
  have hn := hR.2.2.1
  obtain ⟨X, h1, h2⟩ := zl_dn (body := b_L_labels_118 g k lb to x4 x5 x6 (nI h)) (fun d v => d ≤ n - 1 - h ∧ v = (yV lb S.2.2.2.2.2.2.1 n (h + d + 1), nI (h + d))) (fun X => X = yV lb S.2.2.2.2.2.2.1 n (h + 1))
    (fun rec v hv => by
      obtain ⟨-, rfl⟩ := hv
      unfold b_L_labels_118
      simp only [Nat.add_zero]
      rw [if_pos (nI_le (Nat.le_refl _) (by omega))]
      exact ⟨_, rfl, rfl⟩)
    (fun rec d v hv kk => by
      obtain ⟨hd, rfl⟩ := hv
      have hm : h + (d + 1) < n := by omega
      unfold b_L_labels_118
      simp only [zlet_e]
      rw [if_neg (nI_ge (by omega) (by omega)), heads_l hS hR hm, Option.bind_some]
      have e1 : nI (h + (d + 1)) + (-1) = nI (h + d) := pk_m1 (h + d)
      rw [e1]
      by_cases h0 : S.2.2.1 (h + (d + 1)) = 0
      · rw [if_pos h0, if_neg (by decide), z41 (by omega), nI_clamp (by omega)]
        by_cases hl : S.2.2.2.2.2.2.1 (h + (d + 1)) = 0
        · rw [lb_0 hR hm hl, if_pos (by decide)]
          exact kk _ ⟨by omega, by rw [← yV_0 hm hl]; rfl⟩
        · rw [if_neg (lb_1 hR hm hl), z41 (by omega)]
          exact kk _ ⟨by omega, by rw [← yV_1 (lb := lb) hm hl]; rfl⟩
      · rw [if_neg h0, if_pos rfl]
        exact kk _ ⟨by omega, by rw [← yV_0 hm (hS.un hm h0)]; rfl⟩)
    FU (n - 1 - h) (-1, nI n - 1) ⟨Nat.le_refl _, by
      have e1 : h + (n - 1 - h) + 1 = n := by omega
      have e2 := nI_pred (h + (n - 1 - h))
      rw [e1] at e2
      rw [e1, e2]
      unfold yV
      rw [ys_n, if_neg (Nat.lt_irrefl _)]⟩ (show n - 1 - h < 3000 by omega)
  rw [h1, h2]
theorem enc_lk (hS : SOK S n L) (hR : LR S n L g k ln pr lb mk) {h : Nat} (hh : h < n) (hl : S.2.2.2.2.2.2.1 h ≠ 0) : ENC S n h (lb h) := by
  obtain ⟨x, y, z, e1, e2, e3, e4, b1, b2, b3⟩ := lb_e hR hh hl
  have := lk_hc hS.lk h (by omega)
  refine ⟨x, y, z, ?_, ?_, ?_, by omega, by omega, by omega, e4⟩
  · unfold lbA; rw [if_neg hl]; exact e1
  · unfold lbB; rw [if_neg hl]; exact e2
  · unfold lbC; rw [if_neg hl]; exact e3
/-- what the latest locked heading ahead of h tells, in numbers -/
theorem xV_e (hS : SOK S n L) (hR : LR S n L g k ln pr lb mk) {h : Nat} (hh : h < n) (h0 : S.2.2.1 h = 0) (hl : S.2.2.2.2.2.2.1 h = 0) : ∃ a b c q, ksN S.2.2.1 S.2.2.2.2.2.2.1 (h + 1) = q ∧ xV lb S.2.2.2.2.2.2.1 h = nI (10000 * a + 100 * b + c) ∧ (if xsN S.2.2.2.2.2.2.1 h = 0 then 0 else S.2.2.2.2.2.2.2.1 (xsN S.2.2.2.2.2.2.1 h - 1)) = nI a ∧ (if xsN S.2.2.2.2.2.2.1 h = 0 then 0 else S.2.2.2.2.2.2.2.2.1 (xsN S.2.2.2.2.2.2.1 h - 1)) = nI b ∧ (if xsN S.2.2.2.2.2.2.1 h = 0 then 0 else S.2.2.2.2.2.2.2.2.2 (xsN S.2.2.2.2.2.2.1 h - 1)) = nI c ∧
    a ≤ hcN S.2.2.1 h + 1 ∧ b + q ≤ hcN S.2.2.1 h + 1 ∧ c + q ≤ hcN S.2.2.1 h + 1 ∧ (xsN S.2.2.2.2.2.2.1 h = 0 → q = hcN S.2.2.1 h + 1) := by
  obtain ⟨k1, k2⟩ := ks_hc hS.lk h (by omega)
  have eq : ksN S.2.2.1 S.2.2.2.2.2.2.1 (h + 1) = ksN S.2.2.1 S.2.2.2.2.2.2.1 h + 1 := ks_s0 hl h0
  by_cases hx : xsN S.2.2.2.2.2.2.1 h = 0
  · have e := k1 hx
    refine ⟨0, 0, 0, _, rfl, ?_, ?_, ?_, ?_, by omega, by omega, by omega, fun _ => by omega⟩
    · unfold xV; rw [if_pos hx]; rfl
    · rw [if_pos hx]; rfl
    · rw [if_pos hx]; rfl
    · rw [if_pos hx]; rfl
  · have e := k2 hx
    have hle := xs_le S.2.2.2.2.2.2.1 h
    have hlt : xsN S.2.2.2.2.2.2.1 h - 1 < n := by omega
    obtain ⟨x, y, z, e1, e2, e3, e4, b1, b2, b3⟩ := lb_e hR hlt (xs_lk S.2.2.2.2.2.2.1 h hx)
    have := lk_hc hS.lk (xsN S.2.2.2.2.2.2.1 h - 1) (by omega)
    refine ⟨x, y, z, _, rfl, ?_, ?_, ?_, ?_, by omega, by omega, by omega, fun h => absurd h hx⟩
    · unfold xV; rw [if_neg hx]; exact e4
    · rw [if_neg hx]; exact e1
    · rw [if_neg hx]; exact e2
    · rw [if_neg hx]; exact e3
theorem enc_un (hS : SOK S n L) (hR : LR S n L g k ln pr lb mk) {h : Nat} (hh : h < n) (h0 : S.2.2.1 h = 0) (hl : S.2.2.2.2.2.2.1 h = 0) :
    (lkN S.2.2.2.2.2.2.1 n = 0 → ENC S n h (10000 * nI (ksN S.2.2.1 S.2.2.2.2.2.2.1 (h + 1)))) ∧ (lkN S.2.2.2.2.2.2.1 n ≠ 0 →
      (yV lb S.2.2.2.2.2.2.1 n (h + 1) < 0 → ENC S n h (xV lb S.2.2.2.2.2.2.1 h / 100 * 100 + 100 * nI (ksN S.2.2.1 S.2.2.2.2.2.2.1 (h + 1)))) ∧
      (¬ yV lb S.2.2.2.2.2.2.1 n (h + 1) < 0 → (yV lb S.2.2.2.2.2.2.1 n (h + 1) / 10000 = xV lb S.2.2.2.2.2.2.1 h / 10000 → ENC S n h (xV lb S.2.2.2.2.2.2.1 h + nI (ksN S.2.2.1 S.2.2.2.2.2.2.1 (h + 1)))) ∧ (¬ yV lb S.2.2.2.2.2.2.1 n (h + 1) / 10000 = xV lb S.2.2.2.2.2.2.1 h / 10000 → ENC S n h (xV lb S.2.2.2.2.2.2.1 h / 100 * 100 + 100 * nI (ksN S.2.2.1 S.2.2.2.2.2.2.1 (h + 1)))))) := by
  have hcl := hc_le S.2.2.1 h
  have h41 := hR.lt hh
  obtain ⟨a, b, c, q, eq, ex, ea, eb, ec, b1, b2, b3, b4⟩ := xV_e hS hR hh h0 hl
  have ey : ysN S.2.2.2.2.2.2.1 n h = ysN S.2.2.2.2.2.2.1 n (h + 1) := ys_s0 hh hl
  rw [eq, ex]
  have none : lkN S.2.2.2.2.2.2.1 n = 0 ↔ xsN S.2.2.2.2.2.2.1 h = 0 ∧ ysN S.2.2.2.2.2.2.1 n h = n := lk_none (by omega)
  -- the road of the number behind the second one
  have far : lkN S.2.2.2.2.2.2.1 n ≠ 0 → ¬ (ysN S.2.2.2.2.2.2.1 n h < n ∧ S.2.2.2.2.2.2.2.1 (ysN S.2.2.2.2.2.2.1 n h) = nI a) → ENC S n h (nI (10000 * a + 100 * b + c) / 100 * 100 + 100 * nI q) := by
    intro z w
    refine ⟨a, b + q, 0, ?_, ?_, ?_, b1, b2, by omega, ?_⟩
    · unfold lbA; rw [if_pos hl, if_neg (fun h => z (none.mpr h)), ea]
    · unfold lbB; rw [if_pos hl, if_neg (fun h => z (none.mpr h)), ea, if_neg w, eb, eq, nI_add]
    · unfold lbC; rw [if_pos hl, if_neg (fun h => z (none.mpr h)), ea, if_neg w]; rfl
    · rw [show (100 : Int32) = nI 100 from rfl, pk_div (by omega) (by omega) (by omega), pk_mul, pk_mul, nI_add]
      congr 1
      omega
  have near : lkN S.2.2.2.2.2.2.1 n ≠ 0 → (ysN S.2.2.2.2.2.2.1 n h < n ∧ S.2.2.2.2.2.2.2.1 (ysN S.2.2.2.2.2.2.1 n h) = nI a) → ENC S n h (nI (10000 * a + 100 * b + c) + nI q) := by
    intro z w
    refine ⟨a, b, c + q, ?_, ?_, ?_, b1, by omega, b3, ?_⟩
    · unfold lbA; rw [if_pos hl, if_neg (fun h => z (none.mpr h)), ea]
    · unfold lbB; rw [if_pos hl, if_neg (fun h => z (none.mpr h)), ea, if_pos w, eb]
    · unfold lbC; rw [if_pos hl, if_neg (fun h => z (none.mpr h)), ea, if_pos w, ec, eq, nI_add]
    · rw [nI_add]
      exact congrArg nI (by omega)
  refine ⟨fun z => ?_, fun z => ⟨fun y => far z ?_, fun y => ⟨fun w => near z ?_, fun w => far z ?_⟩⟩⟩
  · obtain ⟨n1, n2⟩ := none.mp z
    refine ⟨q, 0, 0, ?_, ?_, ?_, by have := b4 n1; omega, by omega, by omega, ?_⟩
    · unfold lbA; rw [if_pos hl, if_pos ⟨n1, n2⟩, eq]
    · unfold lbB; rw [if_pos hl, if_pos ⟨n1, n2⟩]; rfl
    · unfold lbC; rw [if_pos hl, if_pos ⟨n1, n2⟩]; rfl
    · rw [show (10000 : Int32) = nI 10000 from rfl, pk_mul]
      rfl
  · intro ⟨y1, y2⟩
    obtain ⟨f1, f2, f3, f4⟩ := ys_fact S.2.2.2.2.2.2.1 n _ h rfl (by omega)
    have := lb_1 hR y1 (f3 y1).1
    rw [ey] at y1 this
    unfold yV at y
    rw [if_pos y1] at y
    exact this y
  · obtain ⟨f1, f2, f3, f4⟩ := ys_fact S.2.2.2.2.2.2.1 n _ h rfl (by omega)
    by_cases y1 : ysN S.2.2.2.2.2.2.1 n h < n
    · refine ⟨y1, ?_⟩
      obtain ⟨x', y', z', e1, e2, e3, e4, c1, c2, c3⟩ := lb_e hR y1 (f3 y1).1
      have := lk_le S.2.2.2.2.2.2.1 (ysN S.2.2.2.2.2.2.1 n h)
      have := hR.lt y1
      unfold yV at w
      rw [← ey, if_pos y1, e4, show (10000 : Int32) = nI 10000 from rfl, pk_div (by omega) (by omega) (by omega), pk_div (by omega) (by omega) (by omega)] at w
      have w2 := (nI_eq (by omega) (by omega)).mp w
      rw [e1]
      congr 1
      omega
    · exfalso
      apply y
      unfold yV
      rw [← ey, if_neg y1]
      decide
  · intro ⟨y1, y2⟩
    obtain ⟨f1, f2, f3, f4⟩ := ys_fact S.2.2.2.2.2.2.1 n _ h rfl (by omega)
    obtain ⟨x', y', z', e1, e2, e3, e4, c1, c2, c3⟩ := lb_e hR y1 (f3 y1).1
    have := lk_le S.2.2.2.2.2.2.1 (ysN S.2.2.2.2.2.2.1 n h)
    have := hR.lt y1
    rw [e1] at y2
    have y3 := (nI_eq (by omega) (by omega)).mp y2
    apply w
    unfold yV
    rw [← ey, if_pos y1, e4, show (10000 : Int32) = nI 10000 from rfl, pk_div (by omega) (by omega) (by omega), pk_div (by omega) (by omega) (by omega)]
    congr 1
    omega
theorem labels_l (hS : SOK S n L) (hR : LR S n L g k ln pr lb mk) (to : Rw) : ∃ to', L_labels g k lb to = some to' ∧ ∀ h, h < n → S.2.2.1 h = 0 → ENC S n h (to' h) := by
  have hn := hR.2.2.1
  obtain ⟨fl, hfl⟩ : ∃ fl : Int32, fl = (if lkN S.2.2.2.2.2.2.1 n = 0 then 0 else 1) := ⟨_, rfl⟩
  obtain ⟨X, h1, h2⟩ := zl_up (body := b_L_labels_57 g k lb fl) (fun j v => ∃ t, v = (t, xV lb S.2.2.2.2.2.2.1 j, nI (ksN S.2.2.1 S.2.2.2.2.2.2.1 j), nI j) ∧ ∀ h, h < j → S.2.2.1 h = 0 → ENC S n h (t h)) (fun X => ∀ h, h < n → S.2.2.1 h = 0 → ENC S n h (X h)) n
    (fun rec v hv => by
      obtain ⟨t, rfl, ht⟩ := hv
      unfold b_L_labels_57
      simp only [zlet_e, zg0, cl0, hR.1]
      rw [if_pos (nI_le (Nat.le_refl _) (by omega))]
      exact ⟨_, rfl, ht⟩)
    (fun rec j v hj hv kk => by
      obtain ⟨t, rfl, ht⟩ := hv
      have h41 : j < 41 := by omega
      have up : ∀ x : Int32, ENC S n j x → ∀ h, h < j + 1 → S.2.2.1 h = 0 → ENC S n h (upd t j x h) := by
        intro x hx h hh h0
        by_cases e : h = j
        · subst e; rw [pk_us]; exact hx
        · rw [pk_un e]; exact ht h (by omega) h0
      unfold b_L_labels_57 j_L_labels_99
      simp only [zlet_e, zg0, cl0, hR.1, nI_1]
      rw [if_neg (nI_ge hj (by omega)), heads_l hS hR hj, Option.bind_some, Option.bind_some]
      by_cases h0 : S.2.2.1 j = 0
      · rw [if_pos h0, if_neg (by decide), z41 h41, nI_clamp (by omega)]
        by_cases hl : S.2.2.2.2.2.2.1 j = 0
        · have ex : xV lb S.2.2.2.2.2.2.1 (j + 1) = xV lb S.2.2.2.2.2.2.1 j := by unfold xV; rw [xs_s0 hl]
          have ek : ksN S.2.2.1 S.2.2.2.2.2.2.1 (j + 1) = ksN S.2.2.1 S.2.2.2.2.2.2.1 j + 1 := ks_s0 hl h0
          obtain ⟨c1, c2⟩ := enc_un hS hR hj h0 hl
          rw [ek] at c1 c2
          have fin : ∀ x : Int32, ENC S n j x → ∃ X, rec (upd t j x, xV lb S.2.2.2.2.2.2.1 j, nI (ksN S.2.2.1 S.2.2.2.2.2.2.1 j + 1), nI (j + 1)) = some X ∧ ∀ h, h < n → S.2.2.1 h = 0 → ENC S n h (X h) := fun x hx => kk _ ⟨_, by rw [ex, ek], up x hx⟩
          rw [lb_0 hR hj hl, if_pos (by decide), if_neg (by decide), next_l hS hR t fl _ _ hj, Option.bind_some]
          unfold j_L_labels_206
          simp only [zlet_e, z41 h41, nI_clamp (show j < 2 ^ 31 by omega), nI_1]
          by_cases z : lkN S.2.2.2.2.2.2.1 n = 0
          · rw [if_pos z] at hfl
            rw [hfl, if_pos rfl]
            exact fin _ (c1 z)
          · rw [if_neg z] at hfl
            rw [hfl, if_neg (by decide)]
            obtain ⟨d1, d2⟩ := c2 z
            by_cases y : yV lb S.2.2.2.2.2.2.1 n (j + 1) < 0
            · rw [if_pos y]
              exact fin _ (d1 y)
            · rw [if_neg y]
              obtain ⟨d3, d4⟩ := d2 y
              by_cases w : yV lb S.2.2.2.2.2.2.1 n (j + 1) / 10000 = xV lb S.2.2.2.2.2.2.1 j / 10000
              · rw [if_pos w]
                exact fin _ (d3 w)
              · rw [if_neg w]
                exact fin _ (d4 w)
        · rw [if_neg (lb_1 hR hj hl), z41 h41, z41 h41]
          refine kk _ ⟨_, ?_, up _ (enc_lk hS hR hj hl)⟩
          have ex : xV lb S.2.2.2.2.2.2.1 (j + 1) = lb j := by unfold xV; rw [xs_s1 hl, if_neg (by omega), Nat.add_sub_cancel]
          rw [ex, ks_s1 hl]
          rfl
      · rw [if_neg h0, if_pos rfl, if_pos rfl]
        have hl := hS.un hj h0
        refine kk _ ⟨t, ?_, fun h hh hk => ht h ?_ hk⟩
        · have ex : xV lb S.2.2.2.2.2.2.1 (j + 1) = xV lb S.2.2.2.2.2.2.1 j := by unfold xV; rw [xs_s0 hl]
          rw [ex, ks_s2 hl h0]
        · have : h ≠ j := fun e => h0 (by rw [← e]; exact hk)
          omega)
    FU 0 (to, 0, 0, 0) (Nat.zero_le _) ⟨to, rfl, fun h hh => absurd hh (Nat.not_lt_zero _)⟩ (show n - 0 < 3000 by omega)
  refine ⟨X, ?_, h2⟩
  unfold L_labels
  rw [flag_l hS hR, Option.bind_some, ← hfl, h1, Option.bind_some]
/-- two headings' numbers are equal just where their labels are -/
theorem enc_tw {h j : Nat} {t u : Int32} (hn : n ≤ 40) (hh : h < n) (hj : j < n) (a : ENC S n h t) (b : ENC S n j u) : t = u ↔ TW S n h j := by
  obtain ⟨A, B, C, a1, a2, a3, a4, a5, a6, a7⟩ := a
  obtain ⟨A', B', C', b1, b2, b3, b4, b5, b6, b7⟩ := b
  have := hc_le S.2.2.1 h
  have := hc_le S.2.2.1 j
  unfold TW
  rw [a1, a2, a3, b1, b2, b3, a7, b7, nI_eq (by omega) (by omega), nI_eq (by omega) (by omega), nI_eq (by omega) (by omega), nI_eq (by omega) (by omega)]
  omega
theorem hasTwo_l (hS : SOK S n L) (hR : LR S n L g k ln pr lb mk) : ∃ r, L_hasTwo g k lb = some r ∧ ((r = 1 ∧ DUP S n) ∨ (r = 0 ∧ ¬ DUP S n)) := by
  have hn := hR.2.2.1
  obtain ⟨to, hto, ht⟩ := labels_l hS hR z0R
  have inner : ∀ (i : Nat) (v1 : Int32) (A : Prop), i < n → ((v1 = 1 ∧ A) ∨ (v1 = 0 ∧ ¬ A)) → ∃ X, zloop (b_L_hasTwo_32 g k lb to (nI i)) FU (v1, nI (i + 1)) = some X ∧ ((X = 1 ∧ (A ∨ ∃ h, i < h ∧ h < n ∧ S.2.2.1 h = 0 ∧ S.2.2.1 i = 0 ∧ TW S n h i)) ∨ (X = 0 ∧ ¬ (A ∨ ∃ h, i < h ∧ h < n ∧ S.2.2.1 h = 0 ∧ S.2.2.1 i = 0 ∧ TW S n h i))) := by
    intro i v1 A hi hv1
    exact zl_up (body := b_L_hasTwo_32 g k lb to (nI i)) (fun j v => i < j ∧ v.2 = nI j ∧ ((v.1 = 1 ∧ (A ∨ ∃ h, i < h ∧ h < j ∧ S.2.2.1 h = 0 ∧ S.2.2.1 i = 0 ∧ TW S n h i)) ∨ (v.1 = 0 ∧ ¬ (A ∨ ∃ h, i < h ∧ h < j ∧ S.2.2.1 h = 0 ∧ S.2.2.1 i = 0 ∧ TW S n h i)))) _ n
      (fun rec v hv => by
        obtain ⟨v0, v2⟩ := v
        obtain ⟨-, rfl, hv⟩ := hv
        unfold b_L_hasTwo_32
        simp only [zlet_e, zg0, cl0, hR.1]
        rw [if_pos (nI_le (Nat.le_refl _) (by omega))]
        exact ⟨_, rfl, hv⟩)
      (fun rec j v hj hv kk => by
        obtain ⟨v0, v2⟩ := v
        obtain ⟨hij, rfl, hv⟩ := hv
        unfold b_L_hasTwo_32
        simp only [zlet_e, zg0, cl0, hR.1, nI_1]
        rw [if_neg (nI_ge hj (by omega))]
        rcases hv with ⟨rfl, hv⟩ | ⟨rfl, hv⟩
        · rw [if_neg (by decide)]
          refine kk _ ⟨by omega, rfl, Or.inl ⟨rfl, ?_⟩⟩
          rcases hv with hv | ⟨h, b1, b2, b3⟩
          · exact Or.inl hv
          · exact Or.inr ⟨h, b1, by omega, b3⟩
        · have no : (∀ (b2 : S.2.2.1 i = 0) (b3 : S.2.2.1 j = 0), ¬ TW S n j i) → ¬ (A ∨ ∃ h, i < h ∧ h < j + 1 ∧ S.2.2.1 h = 0 ∧ S.2.2.1 i = 0 ∧ TW S n h i) := by
            rintro b (c | ⟨h, c1, c2, c3, c4, c5⟩)
            · exact hv (Or.inl c)
            · by_cases e : h = j
              · subst e; exact b c4 c3 c5
              · exact hv (Or.inr ⟨h, c1, by omega, c3, c4, c5⟩)
          rw [if_pos rfl, heads_l hS hR hi, heads_l hS hR hj, Option.bind_some, Option.bind_some]
          by_cases c1 : S.2.2.1 i = 0
          · rw [if_pos c1, if_neg (by decide)]
            by_cases c2 : S.2.2.1 j = 0
            · rw [if_pos c2, if_neg (by decide), z41 (by omega), nI_clamp (by omega), z41 (by omega), nI_clamp (by omega)]
              have tw := enc_tw hn hj hi (ht j hj c2) (ht i hi c1)
              by_cases c3 : to i = to j
              · rw [if_pos c3]
                exact kk _ ⟨by omega, rfl, Or.inl ⟨rfl, Or.inr ⟨j, hij, by omega, c2, c1, tw.mp c3.symm⟩⟩⟩
              · rw [if_neg c3]
                exact kk _ ⟨by omega, rfl, Or.inr ⟨rfl, no (fun _ _ w => c3 (tw.mpr w).symm)⟩⟩
            · rw [if_neg c2, if_pos rfl]
              exact kk _ ⟨by omega, rfl, Or.inr ⟨rfl, no (fun _ b => absurd b c2)⟩⟩
          · rw [if_neg c1, if_pos rfl]
            exact kk _ ⟨by omega, rfl, Or.inr ⟨rfl, no (fun b _ => absurd b c1)⟩⟩)
      FU (i + 1) (v1, nI (i + 1)) (by omega) ⟨by omega, rfl, by
        rcases hv1 with ⟨a, b⟩ | ⟨a, b⟩
        · exact Or.inl ⟨a, Or.inl b⟩
        · refine Or.inr ⟨a, ?_⟩
          rintro (c | ⟨h, c1, c2, -⟩)
          · exact b c
          · omega⟩ (show n - (i + 1) < 3000 by omega)
  obtain ⟨X, h1, h2⟩ := zl_up (body := b_L_hasTwo_18 g k lb to) (fun j v => v.2 = nI j ∧ ((v.1 = 1 ∧ ∃ h i, i < j ∧ i < h ∧ h < n ∧ S.2.2.1 h = 0 ∧ S.2.2.1 i = 0 ∧ TW S n h i) ∨ (v.1 = 0 ∧ ¬ ∃ h i, i < j ∧ i < h ∧ h < n ∧ S.2.2.1 h = 0 ∧ S.2.2.1 i = 0 ∧ TW S n h i))) (fun X => (X = 1 ∧ DUP S n) ∨ (X = 0 ∧ ¬ DUP S n)) n
    (fun rec v hv => by
      obtain ⟨v0, v2⟩ := v
      obtain ⟨rfl, hv⟩ := hv
      unfold b_L_hasTwo_18
      simp only [zlet_e, zg0, cl0, hR.1]
      rw [if_pos (nI_le (Nat.le_refl _) (by omega))]
      refine ⟨_, rfl, ?_⟩
      rcases hv with ⟨a, h, i, b1, b2, b3, b4, b5, b6⟩ | ⟨a, b⟩
      · exact Or.inl ⟨a, h, i, b2, b3, b4, b5, b6⟩
      · refine Or.inr ⟨a, ?_⟩
        rintro ⟨h, i, b2, b3, b4, b5, b6⟩
        exact b ⟨h, i, by omega, b2, b3, b4, b5, b6⟩)
    (fun rec j v hj hv kk => by
      obtain ⟨v0, v2⟩ := v
      obtain ⟨rfl, hv⟩ := hv
      obtain ⟨X, x1, x2⟩ := inner j v0 _ hj hv
      unfold b_L_hasTwo_18
      simp only [zlet_e, zg0, cl0, hR.1, nI_1]
      rw [if_neg (nI_ge hj (by omega)), x1, Option.bind_some]
      refine kk _ ⟨rfl, ?_⟩
      have e : ((∃ h i, i < j ∧ i < h ∧ h < n ∧ S.2.2.1 h = 0 ∧ S.2.2.1 i = 0 ∧ TW S n h i) ∨ ∃ h, j < h ∧ h < n ∧ S.2.2.1 h = 0 ∧ S.2.2.1 j = 0 ∧ TW S n h j) ↔ ∃ h i, i < j + 1 ∧ i < h ∧ h < n ∧ S.2.2.1 h = 0 ∧ S.2.2.1 i = 0 ∧ TW S n h i := by
        constructor
        · rintro (⟨h, i, a, b⟩ | ⟨h, a⟩)
          · exact ⟨h, i, by omega, b⟩
          · exact ⟨h, j, by omega, a⟩
        · rintro ⟨h, i, a, b⟩
          by_cases c : i = j
          · subst c; exact Or.inr ⟨h, b⟩
          · exact Or.inl ⟨h, i, by omega, b⟩
      rw [e] at x2
      exact x2)
    FU 0 (0, 0) (Nat.zero_le _) ⟨rfl, Or.inr ⟨rfl, by rintro ⟨h, i, a, -⟩; exact absurd a (Nat.not_lt_zero _)⟩⟩ (show n - 0 < 3000 by omega)
  refine ⟨X, ?_, h2⟩
  unfold L_hasTwo
  rw [hto, Option.bind_some, h1, Option.bind_some]
  unfold zbl
  rw [if_pos]
  rcases h2 with ⟨h2, -⟩ | ⟨h2, -⟩
  · exact Or.inr h2
  · exact Or.inl h2
end PL

-- the law's own check: it finds all as it should be
def so (x : t_SP) (i : Nat) : Int32 × Int32 × Int32 × Int32 × Int32 × Int32 × Int32 := (nI (mkN x.2.1 i), nI (ctN (crN x.2.1.2.2.1 x.2.1.2.2.2.2.1) i), nI (lkN x.2.1.2.2.2.2.2.2.1 i), nI (hcN x.2.1.2.2.1 i) - 1, ltN x.2.1.2.2.1 x.2.1.2.2.2.2.1 i, 1, nI i)
section PV
variable {x : t_SP} {n L : Nat} {g k ln pr lb mk to : Rw}
theorem k2_l (hS : SOK x.2.1 n L) (hR : LR x.2.1 n L g k ln pr lb mk) {i : Nat} (hi : i < n) : k i = 2 ↔ x.2.1.2.2.1 i = 2 := by
  rcases k_cases hS hR hi with ⟨h1, h2, h3⟩ | ⟨h1, h2⟩
  · rw [h3, h1]; decide
  · rw [h2]
theorem pr_l (hS : SOK x.2.1 n L) {i : Nat} (hi : i < n) : x.2.1.2.2.2.2.1 i = -1 ↔ ¬ x.2.1.2.2.1 i = 2 := by
  have h := hS.e hi
  constructor
  · intro z w
    obtain ⟨q, q1, q2⟩ := h.2.2.1 w
    rw [q2] at z
    exact absurd (z ▸ nI_pos (n := q) (by omega) : ¬ (-1 : Int32) < 0) (by decide)
  · exact h.2.2.2.1
theorem so_scene (hI : IX x n L) (hR : LR x.2.1 n L g k ln pr lb mk) (ht : ∀ h, h < n → x.2.1.2.2.1 h = 0 → ENC x.2.1 n h (to h)) {i : Nat} (hi : i < n) (hk : x.2.1.2.2.1 i = 0) (rec) (x8 x9 x10 x12 : Int32) :
    j_L_isSo_357_a91 x g k ln pr lb mk to rec x8 x9 x10 (nI (hcN x.2.1.2.2.1 i)) x12 (nI i) 1 1 = rec (x8, x9, x10, nI (hcN x.2.1.2.2.1 i), x12, 1, nI (i + 1)) := by
  have hS : SOK x.2.1 n L := hI.1
  have hC : CSok x.2.2.2.1 x.2.1 n := hI.2.1
  have hd : ¬ DUP x.2.1 n := hI.2.2.2.2
  have hn := hR.2.2.1
  have h41 := hR.lt hi
  have hcl := hc_le x.2.1.2.2.1 n
  obtain ⟨A, B, C, a1, a2, a3, a4, a5, a6, a7⟩ := ht i hi hk
  have hci := hc_le x.2.1.2.2.1 i
  obtain ⟨e, e1, e2, e3, e4⟩ := next_h hi hk
  obtain ⟨n1, n2⟩ := cn_sc rfl hk e1 e2 e3 e4
  obtain ⟨s0, s1, s2, s3, s4, s5, s6, s7, s8⟩ := sc_l hS hC hi hk
  have lo : ∀ j, i < j → j < e → ¬ x.2.1.2.2.1 j = 0 ∧ hcN x.2.1.2.2.1 (j + 1) = hcN x.2.1.2.2.1 i + 1 := by
    intro j j1 j2
    have hz : ¬ x.2.1.2.2.1 j = 0 := by
      intro b
      have m1 := hc_lt j1 hk
      have m2 := hc_lt j2 b
      omega
    refine ⟨hz, ?_⟩
    have m1 := hc_mono x.2.1.2.2.1 (i := i + 1) (j := j) (by omega)
    have m2 := hc_mono x.2.1.2.2.1 (i := j) (j := e) (by omega)
    have m3 := hc_s0 hk
    rw [hc_s1 hz]
    omega
  obtain ⟨X, h1, h2⟩ := zl_up (body := b_L_isSo_387 x g k ln pr lb mk to x8 x9 x10 (nI (hcN x.2.1.2.2.1 i)) x12 (nI i)) (fun j v => i < j ∧ v = (nI (j - i), smN x.2.1 (hcN x.2.1.2.2.1 i) j, nI j)) (fun X => X = (nI (e - i), smN x.2.1 (hcN x.2.1.2.2.1 i) e)) e
    (fun rec v hv => by
      obtain ⟨-, rfl⟩ := hv
      unfold b_L_isSo_387
      simp only [zlet_e, zg0, cl0]
      rw [hR.1]
      by_cases c : e = n
      · rw [if_pos (nI_le (by omega) (by omega))]
        exact ⟨_, rfl, rfl⟩
      · rw [if_neg (nI_ge (by omega) (by omega)), heads_l hS hR (by omega), if_pos (e4 (by omega)), Option.bind_some, if_neg (by decide)]
        exact ⟨_, rfl, rfl⟩)
    (fun rec j v hj hv kk => by
      obtain ⟨j1, rfl⟩ := hv
      obtain ⟨l1, l2⟩ := lo j j1 hj
      unfold b_L_isSo_387
      simp only [zlet_e, zg0, cl0]
      rw [hR.1, if_neg (nI_ge (by omega) (by omega)), heads_l hS hR (by omega), if_neg l1, Option.bind_some, if_pos rfl, lines_l hS hR (by omega), Option.bind_some]
      refine kk _ ⟨by omega, ?_⟩
      rw [sm_s1 l2, nI_1, nI_1, show j + 1 - i = j - i + 1 by omega])
    FU (i + 1) (1, X5_linesOf x.2.1 (nI i), nI (i + 1)) (by omega) ⟨by omega, by
      rw [sm_s1 (hc_s0 hk), sm_0 (Nat.le_refl _), Int32.zero_add, show i + 1 - i = 1 by omega]
      rfl⟩ (show e - (i + 1) < 3000 by omega)
  have eA : to i / 10000 = nI A := by
    rw [a7, show (10000 : Int32) = nI 10000 from rfl, pk_div (by omega) (by decide) (by decide), show (10000 * A + 100 * B + C) / 10000 = A by omega]
  have eB : to i / 100 - to i / 100 / 100 * 100 = nI B := by
    rw [a7, show (100 : Int32) = nI 100 from rfl, pk_div (by omega) (by decide) (by decide), pk_rem (by omega) (by decide) (by decide), show (10000 * A + 100 * B + C) / 100 % 100 = B by omega]
  have eC : to i - to i / 100 * 100 = nI C := by
    rw [a7, show (100 : Int32) = nI 100 from rfl, pk_rem (by omega) (by decide) (by decide), show (10000 * A + 100 * B + C) % 100 = C by omega]
  have k5 : k i / 5 = if x.2.1.2.2.2.2.2.2.1 i = 2 then 1 else 0 := by
    rw [(hR.le hi).1, hk]
    by_cases c : x.2.1.2.2.2.2.2.2.1 i = 2
    · rw [if_pos c, if_pos c]; decide
    · rw [if_neg c, if_neg c]; decide
  have fnd : P_find x (nI A) (nI B) (nI C) = some (nI (hcN x.2.1.2.2.1 i)) := by
    have hs := hc_lt hi hk
    rw [find_s hI hn (s := hcN x.2.1.2.2.1 i) (Nat.le_of_lt hs) ?_ ?_, if_pos hs]
    · intro h hh hkh hch z
      exact hd ⟨i, h, hc_rev hch, hi, hk, hkh, by rw [a1, z.1], by rw [a2, z.2.1], by rw [a3, z.2.2]⟩
    · intro _
      exact ⟨i, hi, hk, rfl, a1, a2, a3⟩
  have c503 : j_L_isSo_503_a91 x g k ln pr lb mk to rec x8 x9 x10 (nI (hcN x.2.1.2.2.1 i)) x12 (nI i) (nI (e - i)) (smN x.2.1 (hcN x.2.1.2.2.1 i) e) (if x.2.1.2.2.2.2.2.2.1 i = 0 then 0 else 1) (if x.2.1.2.2.2.2.2.2.1 i = 0 then 0 else 1) = rec (x8, x9, x10, nI (hcN x.2.1.2.2.1 i), x12, 1, nI (i + 1)) := by
    have hL := hS.2.2.2.1
    have hL2 := hS.2.2.2.2.1
    unfold j_L_isSo_503_a91
    simp only [zlet_e, zg1, cl1, z41 h41, nI_clamp (show i < 2 ^ 31 by omega), if_true]
    rw [s4, Option.bind_some, k5, if_pos rfl, s5, Option.bind_some, if_pos rfl, s6, Option.bind_some, n1, if_pos rfl, s7, Option.bind_some, n2, if_pos rfl, s8, Option.bind_some, hR.2.1, zdv_nI (by omega) (by omega), n2, if_pos rfl, eA, eB, eC, fnd, Option.bind_some, if_pos rfl, nI_1]
  unfold j_L_isSo_357_a91
  simp only [zlet_e]
  rw [if_neg (by decide), if_neg (by decide), lines_l hS hR hi, Option.bind_some, nI_1, h1, Option.bind_some, h2]
  simp only []
  unfold j_L_isSo_425_a91
  simp only [zlet_e, z41 h41, nI_clamp (show i < 2 ^ 31 by omega)]
  rw [s0, Option.bind_some, a1, eA, if_pos rfl, s1, Option.bind_some, a2, eB, if_pos rfl, s2, Option.bind_some, a3, eC, if_pos rfl, s3, Option.bind_some]
  by_cases hl : x.2.1.2.2.2.2.2.2.1 i = 0
  · rw [lb_0 hR hi hl, if_pos (by decide)]
    rw [if_pos hl] at c503 ⊢
    exact c503
  · rw [if_neg (lb_1 hR hi hl)]
    rw [if_neg hl] at c503 ⊢
    exact c503
theorem so_227 (hI : IX x n L) (hR : LR x.2.1 n L g k ln pr lb mk) {i : Nat} (hi : i < n) (rec) (x8 x9 x12 x15 z0 z1 : Int32) :
    j_L_isSo_227_a91 x g k ln pr lb mk to rec x8 x9 (nI (hcN x.2.1.2.2.1 (i + 1)) - 1) x12 (nI i) x15 (if crN x.2.1.2.2.1 x.2.1.2.2.2.2.1 i = true then 1 else 0) z0 z1 = j_L_isSo_357_a91 x g k ln pr lb mk to rec x8 x9 (z1 + z0) (nI (hcN x.2.1.2.2.1 (i + 1)) - 1) x12 (nI i) x15 1 := by
  have hS : SOK x.2.1 n L := hI.1
  have hC : CSok x.2.2.2.1 x.2.1 n := hI.2.1
  have h41 := hR.lt hi
  obtain ⟨s0, s1, s2, s3, s4, s5, s9⟩ := el_l hS hi
  obtain ⟨c1, c2⟩ := hC.2.2.2.2.2 i hi
  obtain ⟨f1, f2, f3, f4, f5⟩ := hR.le hi
  have km : k i - k i / 5 * 5 = x.2.1.2.2.1 i := by
    rcases k_cases hS hR hi with ⟨h1, h2, h3⟩ | ⟨h1, h2⟩
    · rw [h3, h1]; decide
    · rw [h2]
      rcases (hS.e hi).1 with h | h | h | h | h <;> rw [h] <;> decide
  have c328 : ∀ w, j_L_isSo_328_a91 x g k ln pr lb mk to rec x8 x9 (z1 + z0) (nI (hcN x.2.1.2.2.1 (i + 1)) - 1) x12 (nI i) x15 (if crN x.2.1.2.2.1 x.2.1.2.2.2.2.1 i = true then 1 else 0) w w = j_L_isSo_357_a91 x g k ln pr lb mk to rec x8 x9 (z1 + z0) (nI (hcN x.2.1.2.2.1 (i + 1)) - 1) x12 (nI i) x15 1 := by
    intro w
    unfold j_L_isSo_328_a91 j_L_isSo_349_a91
    rw [if_pos rfl, s9, Option.bind_some, c2]
    by_cases d : crN x.2.1.2.2.1 x.2.1.2.2.2.2.1 i = true
    · rw [if_pos d, if_neg (by decide), if_pos rfl]
    · rw [if_neg d, if_pos rfl, if_pos rfl]
  unfold j_L_isSo_227_a91
  simp only [zlet_e, z41 h41, nI_clamp (show i < 2 ^ 31 by omega)]
  rw [s0, Option.bind_some, km, if_pos rfl, s1, Option.bind_some, f2, if_pos rfl, s2, Option.bind_some, f3, if_pos rfl, s3, Option.bind_some, lines_l hS hR hi, Option.bind_some, if_pos rfl, s4, Option.bind_some, c1, if_pos rfl, s5, Option.bind_some]
  rcases f5 with ⟨m1, m2⟩ | ⟨q, q1, q2, m1, m2⟩
  · rw [m2, if_pos (by decide), m1]
    exact c328 _
  · rw [m2, if_neg (nI_nle (by omega) (by omega)), m1]
    exact c328 _
theorem so_152 (hI : IX x n L) (hR : LR x.2.1 n L g k ln pr lb mk) (ht : ∀ h, h < n → x.2.1.2.2.1 h = 0 → ENC x.2.1 n h (to h)) {i : Nat} (hi : i < n) (rec) (x12 : Int32) (hx : (if k i = 2 then pr i else x12) = ltN x.2.1.2.2.1 x.2.1.2.2.2.2.1 (i + 1)) :
    j_L_isSo_152_a91 x g k ln pr lb mk to rec (nI (mkN x.2.1 i)) (nI (ctN (crN x.2.1.2.2.1 x.2.1.2.2.2.2.1) i)) (nI (lkN x.2.1.2.2.2.2.2.2.1 i)) (nI (hcN x.2.1.2.2.1 (i + 1)) - 1) x12 (nI i) (if x.2.1.2.2.1 i = 0 then 1 else 0) (if crN x.2.1.2.2.1 x.2.1.2.2.2.2.1 i = true then 1 else 0) = rec (so x (i + 1)) := by
  have hS : SOK x.2.1 n L := hI.1
  have h41 := hR.lt hi
  have e357 : ∀ x8 x9 x10 x12 : Int32, j_L_isSo_357_a91 x g k ln pr lb mk to rec x8 x9 x10 (nI (hcN x.2.1.2.2.1 (i + 1)) - 1) x12 (nI i) (if x.2.1.2.2.1 i = 0 then 1 else 0) 1 = rec (x8, x9, x10, nI (hcN x.2.1.2.2.1 (i + 1)) - 1, x12, 1, nI (i + 1)) := by
    intro x8 x9 x10 x12
    by_cases h0 : x.2.1.2.2.1 i = 0
    · rw [if_pos h0, hc_s0 h0, nI_pred]
      exact so_scene hI hR ht hi h0 rec x8 x9 x10 x12
    · rw [if_neg h0]
      unfold j_L_isSo_357_a91
      simp only [zlet_e]
      rw [if_pos trivial, nI_1]
  have lkz : x.2.1.2.2.2.2.2.2.1 i = 0 → nI (lkN x.2.1.2.2.2.2.2.2.1 i) + 0 = nI (lkN x.2.1.2.2.2.2.2.2.1 (i + 1)) := fun z => by rw [lk_s0 z, Int32.add_zero]
  have e204 : ∀ x8 x9 x12 z : Int32, j_L_isSo_204_a91 x g k ln pr lb mk to rec x8 (nI (lkN x.2.1.2.2.2.2.2.2.1 i)) (nI (hcN x.2.1.2.2.1 (i + 1)) - 1) x12 (nI i) (if x.2.1.2.2.1 i = 0 then 1 else 0) (if crN x.2.1.2.2.1 x.2.1.2.2.2.2.1 i = true then 1 else 0) z x9 = rec (x8, x9 + z, nI (lkN x.2.1.2.2.2.2.2.2.1 (i + 1)), nI (hcN x.2.1.2.2.1 (i + 1)) - 1, x12, 1, nI (i + 1)) := by
    intro x8 x9 x12 z
    unfold j_L_isSo_204_a91 j_L_isSo_226_a91
    simp only [zlet_e, z41 h41, nI_clamp (show i < 2 ^ 31 by omega)]
    rw [so_227 hI hR hi, so_227 hI hR hi, e357, e357]
    by_cases hl : x.2.1.2.2.2.2.2.2.1 i = 0
    · rw [lb_0 hR hi hl, if_pos (show (-1 : Int32) < 0 by decide), lkz hl]
      by_cases h0 : x.2.1.2.2.1 i = 0
      · rw [if_pos h0, if_neg (by decide)]
      · rw [if_neg h0, if_pos rfl]
    · have h0 := (hS.e hi).2.2.2.2.2.1 hl
      rw [if_pos h0, if_neg (by decide), if_neg (lb_1 hR hi hl), lk_s1 hl, nI_1]
  have e189 : ∀ x8 x12 z : Int32, j_L_isSo_189_a91 x g k ln pr lb mk to rec (nI (ctN (crN x.2.1.2.2.1 x.2.1.2.2.2.2.1) i)) (nI (lkN x.2.1.2.2.2.2.2.2.1 i)) (nI (hcN x.2.1.2.2.1 (i + 1)) - 1) x12 (nI i) (if x.2.1.2.2.1 i = 0 then 1 else 0) (if crN x.2.1.2.2.1 x.2.1.2.2.2.2.1 i = true then 1 else 0) z x8 = rec (x8 + z, nI (ctN (crN x.2.1.2.2.1 x.2.1.2.2.2.2.1) (i + 1)), nI (lkN x.2.1.2.2.2.2.2.2.1 (i + 1)), nI (hcN x.2.1.2.2.1 (i + 1)) - 1, x12, 1, nI (i + 1)) := by
    intro x8 x12 z
    unfold j_L_isSo_189_a91
    simp only [zlet_e]
    rw [e204, e204]
    by_cases d : crN x.2.1.2.2.1 x.2.1.2.2.2.2.1 i = true
    · rw [if_pos d, if_neg (by decide), ct_s1 d, nI_1]
    · rw [if_neg d, if_pos rfl, ct_s0 d, Int32.add_zero]
  have e172 : ∀ x12 : Int32, j_L_isSo_172_a91 x g k ln pr lb mk to rec (nI (mkN x.2.1 i)) (nI (ctN (crN x.2.1.2.2.1 x.2.1.2.2.2.2.1) i)) (nI (lkN x.2.1.2.2.2.2.2.2.1 i)) (nI (hcN x.2.1.2.2.1 (i + 1)) - 1) (nI i) (if x.2.1.2.2.1 i = 0 then 1 else 0) (if crN x.2.1.2.2.1 x.2.1.2.2.2.2.1 i = true then 1 else 0) x12 = rec (nI (mkN x.2.1 (i + 1)), nI (ctN (crN x.2.1.2.2.1 x.2.1.2.2.2.2.1) (i + 1)), nI (lkN x.2.1.2.2.2.2.2.2.1 (i + 1)), nI (hcN x.2.1.2.2.1 (i + 1)) - 1, x12, 1, nI (i + 1)) := by
    intro x12
    unfold j_L_isSo_172_a91
    simp only [zlet_e, z41 h41, nI_clamp (show i < 2 ^ 31 by omega)]
    rw [e189, e189]
    by_cases m : x.2.1.2.2.2.2.2.1 i = -1
    · rw [mk_0 hR hi m, if_pos (by decide), Int32.add_zero]
      unfold mkN
      rw [ct_s0 (p := fun i => decide (x.2.1.2.2.2.2.2.1 i ≠ -1)) (j := i) (fun z => (of_decide_eq_true z) m)]
    · rw [if_neg (Int32.not_le.mpr (mk_1 hR hi m))]
      unfold mkN
      rw [ct_s1 (p := fun i => decide (x.2.1.2.2.2.2.2.1 i ≠ -1)) (decide_eq_true m), nI_1]
  unfold j_L_isSo_152_a91 so
  simp only [zlet_e, z41 h41, nI_clamp (show i < 2 ^ 31 by omega)]
  rw [e172, e172]
  by_cases c : k i = 2
  · rw [if_pos c] at hx ⊢
    rw [hx]
  · rw [if_neg c] at hx ⊢
    rw [hx]
theorem so_one (hI : IX x n L) (hR : LR x.2.1 n L g k ln pr lb mk) (ht : ∀ h, h < n → x.2.1.2.2.1 h = 0 → ENC x.2.1 n h (to h)) {i : Nat} (hi : i < n) (rec) :
    b_L_isSo_75 x g k ln pr lb mk to rec (so x i) = rec (so x (i + 1)) := by
  have hS : SOK x.2.1 n L := hI.1
  have hn := hR.2.2.1
  have h41 := hR.lt hi
  have hcl := hc_le x.2.1.2.2.1 i
  have prE : pr i = x.2.1.2.2.2.2.1 i := (hR.le hi).2.2.1
  have k2 := k2_l hS hR hi
  have p2 := pr_l hS hi
  have nocr : ¬ x.2.1.2.2.1 i = 2 → ¬ crN x.2.1.2.2.1 x.2.1.2.2.2.2.1 i = true := fun z w => (of_decide_eq_true w).1 (p2.mpr z)
  unfold b_L_isSo_75 so
  simp only [zlet_e, zg0, cl0]
  rw [hR.1, if_neg (nI_ge hi (by omega)), if_neg (by decide), heads_l hS hR hi, Option.bind_some]
  unfold j_L_isSo_108_a91 j_L_isSo_122_a91 j_L_isSo_151_a91
  simp only [zlet_e, z41 h41, nI_clamp (show i < 2 ^ 31 by omega)]
  have fin := fun x12 hx => so_152 hI hR ht hi rec x12 hx
  by_cases h0 : x.2.1.2.2.1 i = 0
  · have kn : ¬ x.2.1.2.2.1 i = 2 := by rw [h0]; decide
    have kn2 : ¬ k i = 2 := fun z => kn (k2.mp z)
    have f := fin (-1) (by rw [if_neg kn2]; show _ = if x.2.1.2.2.1 i = 0 then _ else _; rw [if_pos h0])
    rw [if_neg (nocr kn), if_pos h0] at f
    rw [if_pos h0, if_neg (by decide), if_neg (by decide), if_neg kn2, Int32.sub_add_cancel]
    rw [hc_s0 h0, nI_pred] at f
    exact f
  · rw [if_neg h0, if_pos rfl, if_pos rfl, Int32.add_zero]
    have hh : hcN x.2.1.2.2.1 (i + 1) = hcN x.2.1.2.2.1 i := hc_s1 h0
    have f := fin (ltN x.2.1.2.2.1 x.2.1.2.2.2.2.1 i) (by
      show _ = if x.2.1.2.2.1 i = 0 then _ else _
      rw [if_neg h0]
      by_cases c : k i = 2
      · rw [if_pos c, if_neg (fun z => p2.mp z (k2.mp c)), prE]
      · rw [if_neg c, if_pos (p2.mpr (fun z => c (k2.mpr z)))])
    rw [if_neg h0, hh] at f
    by_cases c : k i = 2
    · rw [if_pos c]
      by_cases z : hcN x.2.1.2.2.1 i = 0
      · rw [if_pos (by rw [z]; decide)]
        rw [if_neg (fun w => (of_decide_eq_true w).2.2 (by rw [hh]; exact z))] at f
        exact f
      · obtain ⟨d, hd⟩ : ∃ d, hcN x.2.1.2.2.1 i = d + 1 := ⟨hcN x.2.1.2.2.1 i - 1, by omega⟩
        rw [if_neg (by rw [hd, nI_pred]; exact nI_pos (by omega)), prE]
        by_cases w : ltN x.2.1.2.2.1 x.2.1.2.2.2.2.1 i = x.2.1.2.2.2.2.1 i
        · rw [if_pos w]
          rw [if_pos (show crN x.2.1.2.2.1 x.2.1.2.2.2.2.1 i = true from decide_eq_true ⟨fun y => p2.mp y (k2.mp c), w.symm, by rw [hh]; exact z⟩)] at f
          exact f
        · rw [if_neg w]
          rw [if_neg (fun y => w (of_decide_eq_true y).2.1.symm)] at f
          exact f
    · rw [if_neg c]
      rw [if_neg (nocr (fun z => c (k2.mpr z)))] at f
      exact f
theorem so_all (hI : IX x n L) (hR : LR x.2.1 n L g k ln pr lb mk) (ht : ∀ h, h < n → x.2.1.2.2.1 h = 0 → ENC x.2.1 n h (to h)) :
    zloop (b_L_isSo_75 x g k ln pr lb mk to) FU (0, 0, 0, -1, -1, 1, 0) = some (nI (mkN x.2.1 n), nI (ctN (crN x.2.1.2.2.1 x.2.1.2.2.2.2.1) n), nI (lkN x.2.1.2.2.2.2.2.2.1 n), 1) := by
  have hn := hR.2.2.1
  obtain ⟨X, h1, h2⟩ := zl_up (body := b_L_isSo_75 x g k ln pr lb mk to) (fun j v => v = so x j) (fun X => X = (nI (mkN x.2.1 n), nI (ctN (crN x.2.1.2.2.1 x.2.1.2.2.2.2.1) n), nI (lkN x.2.1.2.2.2.2.2.2.1 n), (1 : Int32))) n
    (fun rec v hv => by
      subst hv
      unfold b_L_isSo_75 so
      simp only [zlet_e, zg0, cl0]
      rw [hR.1, if_pos (nI_le (Nat.le_refl _) (by omega))]
      exact ⟨_, rfl, rfl⟩)
    (fun rec j v hj hv kk => by
      subst hv
      rw [so_one hI hR ht hj]
      exact kk _ rfl)
    FU 0 (0, 0, 0, -1, -1, 1, 0) (Nat.zero_le _) (by unfold so; rfl) (show n - 0 < 3000 by omega)
  rw [h1, h2]
theorem said_l (hI : IX x n L) (hR : LR x.2.1 n L g k ln pr lb mk) {w : Nat} (hw : w < 10) (x8 x9 x10 x14 x15 : Int32) :
    zloop (b_L_isSo_663 x g k ln pr lb mk to x8 x9 x10 x14 x15 (nI w)) FU (0, 0) = some (nI (ctN (whE (fun _ => true) x.2.1.2.2.2.2.1 w) n)) := by
  have hS : SOK x.2.1 n L := hI.1
  have hn := hR.2.2.1
  obtain ⟨X, h1, h2⟩ := zl_up (body := b_L_isSo_663 x g k ln pr lb mk to x8 x9 x10 x14 x15 (nI w)) (fun j v => v = (nI (ctN (whE (fun _ => true) x.2.1.2.2.2.2.1 w) j), nI j)) (fun X => X = nI (ctN (whE (fun _ => true) x.2.1.2.2.2.2.1 w) n)) n
    (fun rec v hv => by
      subst hv
      unfold b_L_isSo_663
      simp only [zlet_e, zg0, cl0]
      rw [hR.1, if_pos (nI_le (Nat.le_refl _) (by omega))]
      exact ⟨_, rfl, rfl⟩)
    (fun rec j v hj hv kk => by
      subst hv
      have h41 := hR.lt hj
      have prE : pr j = x.2.1.2.2.2.2.1 j := (hR.le hj).2.2.1
      have no : ¬ x.2.1.2.2.2.2.1 j = nI w → ¬ whE (fun _ => true) x.2.1.2.2.2.2.1 w j = true := fun z y => by
        unfold whE at y
        rw [Bool.true_and] at y
        exact z (of_decide_eq_true y)
      unfold b_L_isSo_663
      simp only [zlet_e, zg0, cl0, z41 h41, nI_clamp (show j < 2 ^ 31 by omega), nI_1]
      rw [hR.1, if_neg (nI_ge hj (by omega)), prE]
      by_cases c : x.2.1.2.2.2.2.1 j = nI w
      · have c2 : x.2.1.2.2.1 j = 2 := by
          by_cases d : x.2.1.2.2.1 j = 2
          · exact d
          · have := (pr_l hS hj).mpr d
            rw [c] at this
            exact absurd (this ▸ nI_pos (n := w) (by omega) : ¬ (-1 : Int32) < 0) (by decide)
        rw [if_pos ((k2_l hS hR hj).mpr c2), if_pos c]
        refine kk _ ?_
        rw [ct_s1]
        unfold whE
        rw [Bool.true_and]; exact decide_eq_true c
      · rw [if_neg c, Int32.add_zero]
        by_cases d : k j = 2
        · rw [if_pos d]
          exact kk _ (by rw [ct_s0 (no c)])
        · rw [if_neg d]
          exact kk _ (by rw [ct_s0 (no c)]))
    FU 0 (0, 0) (Nat.zero_le _) rfl (show n - 0 < 3000 by omega)
  rw [h1, h2]
theorem whos_l (hI : IX x n L) (hR : LR x.2.1 n L g k ln pr lb mk) (x8 x9 x10 : Int32) :
    zloop (b_L_isSo_645 x g k ln pr lb mk to x8 x9 x10) FU (1, 0, 0, 0) = some (1, nI (ctN (whB (fun _ => true) x.2.1.2.2.2.2.1 10) n), nI (ctN (whB (crN x.2.1.2.2.1 x.2.1.2.2.2.2.1) x.2.1.2.2.2.2.1 10) n)) := by
  have hn := hR.2.2.1
  obtain ⟨X, h1, h2⟩ := zl_up (body := b_L_isSo_645 x g k ln pr lb mk to x8 x9 x10) (fun m v => v = (1, nI (ctN (whB (fun _ => true) x.2.1.2.2.2.2.1 m) n), nI (ctN (whB (crN x.2.1.2.2.1 x.2.1.2.2.2.2.1) x.2.1.2.2.2.2.1 m) n), nI m)) (fun X => X = (1, nI (ctN (whB (fun _ => true) x.2.1.2.2.2.2.1 10) n), nI (ctN (whB (crN x.2.1.2.2.1 x.2.1.2.2.2.2.1) x.2.1.2.2.2.2.1 10) n))) 10
    (fun rec v hv => by
      subst hv
      unfold b_L_isSo_645
      simp only []
      rw [if_pos (by decide)]
      exact ⟨_, rfl, rfl⟩)
    (fun rec m v hm hv kk => by
      subst hv
      obtain ⟨n1, n2⟩ := names_l hI hn hm
      unfold b_L_isSo_645 j_L_isSo_722_a91
      simp only [zlet_e]
      rw [if_neg (show ¬ (10 : Int32) ≤ nI m from nI_ge (b := 10) hm (by decide)), if_neg (by decide), said_l hI hR hm, Option.bind_some, n1, Option.bind_some, if_pos rfl, n2, Option.bind_some, nI_1, nI_add, nI_add, ← wh_step (by omega), ← wh_step (by omega)]
      exact kk _ rfl)
    FU 0 (1, 0, 0, 0) (Nat.zero_le _) (by rw [wh_0, wh_0]; rfl) (by decide)
  rw [h1, h2]
theorem isSo_l (hI : IX x n L) (hR : LR x.2.1 n L g k ln pr lb mk) : L_isSo x g k ln pr lb mk = some 1 := by
  have hS : SOK x.2.1 n L := hI.1
  have hC : CSok x.2.2.2.1 x.2.1 n := hI.2.1
  have hn := hR.2.2.1
  obtain ⟨to, t1, t2⟩ := labels_l hS hR z0R
  obtain ⟨v0, v1, v3, v4, v5, v6⟩ := val_l x
  have all10 : ctN (whB (crN x.2.1.2.2.1 x.2.1.2.2.2.2.1) x.2.1.2.2.2.2.1 10) n = ctN (crN x.2.1.2.2.1 x.2.1.2.2.2.2.1) n := by
    refine ct_cong n (fun i hi => ?_)
    unfold whB
    by_cases c : crN x.2.1.2.2.1 x.2.1.2.2.2.2.1 i = true
    · rw [c, Bool.true_and]
      have c2 : x.2.1.2.2.1 i = 2 := by
        by_cases d : x.2.1.2.2.1 i = 2
        · exact d
        · exact absurd ((pr_l hS hi).mpr d) (of_decide_eq_true c).1
      obtain ⟨q, q1, q2⟩ := (hS.e hi).2.2.1 c2
      exact decide_eq_true ⟨q, by omega, q2⟩
    · have c : crN x.2.1.2.2.1 x.2.1.2.2.2.2.1 i = false := by
        cases h : crN x.2.1.2.2.1 x.2.1.2.2.2.2.1 i
        · rfl
        · exact absurd h c
      rw [c, Bool.false_and]
  have more : ctN (crN x.2.1.2.2.1 x.2.1.2.2.2.2.1) n ≤ ctN (whB (fun _ => true) x.2.1.2.2.2.2.1 10) n := by
    rw [← all10]
    refine ct_mono n (fun i hi z => ?_)
    unfold whB at z ⊢
    rw [Bool.true_and]
    exact (Bool.and_eq_true _ _ ▸ z : _ ∧ _).2
  have le1 := ct_le (whB (fun _ => true) x.2.1.2.2.2.2.1 10) n
  have fnd : P_find x 99 0 0 = some (-1) := by
    rw [find_s hI hn (s := hcN x.2.1.2.2.1 n) (Nat.le_refl _) ?_ (fun z => absurd z (Nat.lt_irrefl _)), if_neg (Nat.lt_irrefl _)]
    intro h hh hk _ z
    obtain ⟨A, B, C, a1, a2, a3, a4, -, -, -⟩ := t2 h hh hk
    have b1 := hc_le x.2.1.2.2.1 h
    have e : nI A = nI 99 := a1.symm.trans z.1
    have := (nI_eq (by omega) (by decide)).mp e
    omega
  unfold L_isSo
  simp only [zlet_e, zg0, cl0, zg1, cl1]
  rw [t1, Option.bind_some, v0, Option.bind_some, hR.1, if_pos hS.1, v1, Option.bind_some, scenes_l hS hR, Option.bind_some, if_pos hC.1, v3, Option.bind_some, hR.2.1, if_pos hS.2.1]
  unfold j_L_isSo_70_a91
  rw [so_all hI hR t2, Option.bind_some]
  unfold j_L_isSo_636_a91
  simp only []
  rw [whos_l hI hR, Option.bind_some]
  unfold j_L_isSo_749_a91
  simp only []
  rw [if_neg (by decide), all10, if_pos rfl, if_neg (nI_nlt more (by omega)), v4, Option.bind_some, if_pos hC.2.1, v5, Option.bind_some, if_pos hI.2.2.1.1, v6, Option.bind_some, if_pos hC.2.2.1, fnd, Option.bind_some, if_pos rfl]
end PV

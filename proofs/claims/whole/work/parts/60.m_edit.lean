-- an element comes, an element goes: class and reference
def RowEq (T T' : t_Script) (j i : Nat) : Prop := T'.2.2.1 i = T.2.2.1 j ∧ T'.2.2.2.1 i = T.2.2.2.1 j ∧ T'.2.2.2.2.1 i = T.2.2.2.2.1 j ∧ T'.2.2.2.2.2.2.1 i = T.2.2.2.2.2.2.1 j ∧ T'.2.2.2.2.2.2.2.1 i = T.2.2.2.2.2.2.2.1 j ∧ T'.2.2.2.2.2.2.2.2.1 i = T.2.2.2.2.2.2.2.2.1 j ∧ T'.2.2.2.2.2.2.2.2.2 i = T.2.2.2.2.2.2.2.2.2 j
theorem EOK_of {T T' : t_Script} {j i : Nat} (h : RowEq T T' j i) (k : EOK T j) : EOK T' i := by
  obtain ⟨h1, h2, h3, h4, h5, -, -⟩ := h
  unfold EOK at k ⊢
  rw [h1, h2, h3, h4, h5]
  exact k
theorem ERel_of {T T' : t_Script} {m m' : Rw} {j i : Nat} (h : RowEq T T' j i) (hmk : T'.2.2.2.2.2.1 i = m' (2 + 9 * i + 8)) (hm : ∀ w, w < 8 → m' (2 + 9 * i + w) = m (2 + 9 * j + w)) (k : ERel T m j) : ERel T' m' i := by
  obtain ⟨h1, h2, h3, h4, h5, h6, h7⟩ := h
  obtain ⟨k0, k1, k2, k3, k4, k5, k6, k7, k8⟩ := k
  unfold ERel
  rw [h1, h2, h3, h4, h5, h6, h7, hmk, ← k0, ← k1, ← k2, ← k3, ← k4, ← k5, ← k6, ← k7]
  exact ⟨hm 0 (by decide), hm 1 (by decide), hm 2 (by decide), hm 3 (by decide), hm 4 (by decide), hm 5 (by decide), hm 6 (by decide), hm 7 (by decide), rfl⟩
/-- the same script as far as its elements reach -/
def SEq (S S' : t_Script) (n : Nat) : Prop := S'.1 = S.1 ∧ S'.2.1 = S.2.1 ∧ ∀ i, i < n → RowEq S S' i i ∧ S'.2.2.2.2.2.1 i = S.2.2.2.2.2.1 i
theorem SEq.ok {S S' : t_Script} {n L : Nat} (h : SEq S S' n) (hS : SOK S n L) : SOK S' n L := ⟨h.1.trans hS.1, h.2.1.trans hS.2.1, hS.2.2.1, hS.2.2.2.1, hS.2.2.2.2.1, fun i hi => EOK_of (h.2.2 i hi).1 (hS.e hi)⟩
theorem SEq.mr {S S' : t_Script} {m : Rw} {n L : Nat} (h : SEq S S' n) (hM : MR S m n L) : MR S' m n L := ⟨hM.1, hM.2.1, fun i hi => ERel_of (h.2.2 i hi).1 ((h.2.2 i hi).2.trans (hM.2.2 i hi).2.2.2.2.2.2.2.2.symm) (fun _ _ => rfl) (hM.2.2 i hi)⟩
theorem copy_eq {S D : t_Script} {n : Nat} (hn : n ≤ 60) : SEq S (X5_copyFrom D S) n := by
  unfold X5_copyFrom
  simp only [zlet]
  refine ⟨rfl, rfl, fun i hi => ⟨⟨?_, ?_, ?_, ?_, ?_, ?_, ?_⟩, ?_⟩⟩ <;> exact rCopy_lt _ _ (by omega)
/-- the reference with another row -/
def mSet (M : t_Model) (m : Rw) : t_Model := (m, M.2.1, M.2.2.1, M.2.2.2.1, M.2.2.2.2.1, M.2.2.2.2.2.1, M.2.2.2.2.2.2.1, M.2.2.2.2.2.2.2.1, M.2.2.2.2.2.2.2.2.1, M.2.2.2.2.2.2.2.2.2.1, M.2.2.2.2.2.2.2.2.2.2.1, M.2.2.2.2.2.2.2.2.2.2.2.1, M.2.2.2.2.2.2.2.2.2.2.2.2.1, M.2.2.2.2.2.2.2.2.2.2.2.2.2.1, M.2.2.2.2.2.2.2.2.2.2.2.2.2.2.1, M.2.2.2.2.2.2.2.2.2.2.2.2.2.2.2.1, M.2.2.2.2.2.2.2.2.2.2.2.2.2.2.2.2.1, M.2.2.2.2.2.2.2.2.2.2.2.2.2.2.2.2.2.1, M.2.2.2.2.2.2.2.2.2.2.2.2.2.2.2.2.2.2)
theorem mSet_s (M : t_Model) (m : Rw) : (mSet M m).1 = m := rfl
theorem mSet2 (M : t_Model) (m m' : Rw) : mSet (mSet M m) m' = mSet M m' := rfl
theorem mSet0 (M : t_Model) : mSet M M.1 = M := rfl
theorem puts_t (M : t_Model) {i w : Nat} (hi : i < 60) (hw : w < 9) (x : Int32) : X7_puts M (nI i) (nI w) x = some (mSet M (upd M.1 (2 + 9 * i + w) x)) := by
  unfold X7_puts
  simp only [zlet]
  have e : (2 : Int32) + 9 * nI i + nI w = nI (2 + 9 * i + w) := by
    rw [show (9 : Int32) = nI 9 from rfl, show (2 : Int32) = nI 2 from rfl, pk_mul, nI_add, nI_add]
  rw [e, zix_nI (by omega) (by decide), nI_clamp (by omega)]
  rfl
theorem rFst_nI {p : Nat} (hp : p < 2147483648) : rFst (nI p) = p := by
  unfold rFst
  by_cases h : p = 0
  · subst h; rfl
  · rw [if_neg (nI_nle (by omega) hp), nI_clamp hp]
theorem open_at (f : Rw) {p : Nat} (hp : p < 60) (x : Int32) {k : Nat} (hk : k < 60) : rOpen 60 f (nI p) x k = if k = p then x else if p < k then f (k - 1) else f k := by
  unfold rOpen
  rw [rPut_nI (by decide) _ hp, rFst_nI (by omega), upd_t]
  by_cases h : k = p
  · rw [if_pos h, if_pos h]
  · rw [if_neg h, if_neg h]
    by_cases h2 : p < k
    · rw [if_pos h2, if_pos ⟨h2, hk⟩]
    · rw [if_neg h2, if_neg (fun a => h2 a.1)]
theorem close_at (f : Rw) {p : Nat} (hp : p < 60) {k : Nat} (hk : k + 1 < 60) : rClose 60 f (nI p) k = if p ≤ k then f (k + 1) else f k := by
  unfold rClose
  rw [rFst_nI (by omega)]
  by_cases h2 : p ≤ k
  · rw [if_pos h2, if_pos ⟨h2, hk⟩]
  · rw [if_neg h2, if_neg (fun a => h2 a.1)]
section ME
variable {T : t_Script} {n L : Nat}
theorem comes_shift {M : t_Model} {p : Nat} (hn : n < 60) (hp : p ≤ n) (hM1 : M.1 1 = nI n) (p2 p3 p4 : Int32) : ∃ m, zloop (b_X7_comes_15 (nI p) p2 p3 p4) FU (M, nI (2 + 9 * n) - 1) = some (mSet M m) ∧ ∀ k, m k = if 2 + 9 * p + 9 ≤ k ∧ k < 2 + 9 * n + 9 then M.1 (k - 9) else M.1 k := by
  have e2 : (2 : Int32) + 9 * nI p = nI (2 + 9 * p) := by
    rw [show (9 : Int32) = nI 9 from rfl, show (2 : Int32) = nI 2 from rfl, pk_mul, nI_add]
  obtain ⟨X, h1, m, h2, h3⟩ := zl_dn (body := b_X7_comes_15 (nI p) p2 p3 p4) (fun d v => d ≤ 9 * (n - p) ∧ ∃ m, v = (mSet M m, nI (2 + 9 * p + d) - 1) ∧ ∀ k, m k = if 2 + 9 * p + d + 9 ≤ k ∧ k < 2 + 9 * n + 9 then M.1 (k - 9) else M.1 k) (fun X => ∃ m, X = mSet M m ∧ ∀ k, m k = if 2 + 9 * p + 9 ≤ k ∧ k < 2 + 9 * n + 9 then M.1 (k - 9) else M.1 k)
    (fun rec v h => by
      obtain ⟨-, m, rfl, h⟩ := h
      unfold b_X7_comes_15
      simp only [zlet_e]
      rw [e2, show 2 + 9 * p + 0 = (1 + 9 * p) + 1 by omega, nI_pred, if_pos (nI_lt (by omega) (by omega))]
      exact ⟨_, rfl, m, rfl, h⟩)
    (fun rec d v h k => by
      obtain ⟨hd, m, rfl, h⟩ := h
      unfold b_X7_comes_15
      simp only [zlet_e]
      rw [e2, show 2 + 9 * p + (d + 1) = (2 + 9 * p + d) + 1 by omega, nI_pred, im1, if_neg (nI_nlt (by omega) (by omega)), show (9 : Int32) = nI 9 from rfl, nI_add, zix_nI (by omega) (by decide), zix_nI (by omega) (by decide), nI_clamp (by omega), nI_clamp (by omega)]
      refine k _ ⟨by omega, _, rfl, fun j => ?_⟩
      rw [mSet_s, upd_t]
      by_cases e : j = 2 + 9 * p + d + 9
      · subst e
        rw [if_pos rfl, if_pos (by omega), h, if_neg (by omega)]
        congr 1
      · rw [if_neg e, h]
        by_cases c : 2 + 9 * p + (d + 1) + 9 ≤ j ∧ j < 2 + 9 * n + 9
        · rw [if_pos c, if_pos (by omega)]
        · rw [if_neg c, if_neg (by omega)])
    FU (9 * (n - p)) (M, nI (2 + 9 * n) - 1) ⟨Nat.le_refl _, M.1, by rw [show 2 + 9 * p + 9 * (n - p) = 2 + 9 * n by omega]; rfl, fun k => by rw [if_neg (by omega)]⟩ (show 9 * (n - p) < 3000 by omega)
  exact ⟨m, by rw [h1, h2], h3⟩
theorem comes_zero {M : t_Model} {p : Nat} (hp : p < 60) (p2 p3 p4 : Int32) : ∃ m, zloop (b_X7_comes_52 (nI p) p2 p3 p4) FU (M, 0) = some (mSet M m) ∧ ∀ k, m k = if 2 + 9 * p ≤ k ∧ k < 2 + 9 * p + 9 then 0 else M.1 k := by
  obtain ⟨X, h1, m, h2, h3⟩ := zl_up (body := b_X7_comes_52 (nI p) p2 p3 p4) (fun d v => ∃ m, v = (mSet M m, nI d) ∧ ∀ k, m k = if 2 + 9 * p ≤ k ∧ k < 2 + 9 * p + d then 0 else M.1 k) (fun X => ∃ m, X = mSet M m ∧ ∀ k, m k = if 2 + 9 * p ≤ k ∧ k < 2 + 9 * p + 9 then 0 else M.1 k) 9
    (fun rec v h => by
      obtain ⟨m, rfl, h⟩ := h
      unfold b_X7_comes_52
      rw [if_pos (show (9 : Int32) ≤ nI 9 by decide)]
      exact ⟨_, rfl, m, rfl, h⟩)
    (fun rec d v hd h k => by
      obtain ⟨m, rfl, h⟩ := h
      unfold b_X7_comes_52
      simp only [zlet_e]
      rw [if_neg (show ¬ (9 : Int32) ≤ nI d from nI_ge (b := 9) hd (by decide)), puts_t _ hp hd, Option.bind_some, nI_1, mSet_s, mSet2]
      refine k _ ⟨_, rfl, fun j => ?_⟩
      rw [upd_t]
      by_cases e : j = 2 + 9 * p + d
      · rw [if_pos e, if_pos (by omega)]
      · rw [if_neg e, h]
        by_cases c : 2 + 9 * p ≤ j ∧ j < 2 + 9 * p + d
        · rw [if_pos c, if_pos (by omega)]
        · rw [if_neg c, if_neg (by omega)])
    FU 0 (M, 0) (Nat.zero_le _) ⟨M.1, rfl, fun k => by rw [if_neg (by omega)]⟩ (show 9 - 0 < 3000 by omega)
  exact ⟨m, by rw [h1, h2], h3⟩
theorem comes_m {M : t_Model} {p : Nat} (hn : n < 60) (hp : p ≤ n) (hM1 : M.1 1 = nI n) (kd ln pr : Int32) : ∃ m, X7_comes M (nI p) kd ln pr = some (mSet M m) ∧ m 0 = M.1 0 ∧ m 1 = nI (n + 1) ∧
    (∀ k, 2 ≤ k → k < 2 + 9 * p → m k = M.1 k) ∧ (∀ k, 2 + 9 * p + 9 ≤ k → k < 2 + 9 * n + 9 → m k = M.1 (k - 9)) ∧
    m (2 + 9 * p) = kd ∧ m (2 + 9 * p + 1) = ln ∧ m (2 + 9 * p + 2) = pr ∧ m (2 + 9 * p + 3) = 0 ∧ m (2 + 9 * p + 4) = 0 ∧ m (2 + 9 * p + 5) = 0 ∧ m (2 + 9 * p + 6) = 0 ∧ m (2 + 9 * p + 7) = 0 ∧ m (2 + 9 * p + 8) = -1 := by
  have e2 : (2 : Int32) + 9 * nI n = nI (2 + 9 * n) := by
    rw [show (9 : Int32) = nI 9 from rfl, show (2 : Int32) = nI 2 from rfl, pk_mul, nI_add]
  obtain ⟨m1, h1, g1⟩ := comes_shift hn hp hM1 kd ln pr
  obtain ⟨m2, h2, g2⟩ := comes_zero (M := mSet M m1) (p := p) (by omega) kd ln pr
  have g2 : ∀ k, m2 k = if 2 + 9 * p ≤ k ∧ k < 2 + 9 * p + 9 then 0 else m1 k := g2
  have hp60 : p < 60 := by omega
  have w0 : ∀ (M : t_Model) (x : Int32), X7_puts M (nI p) 0 x = some (mSet M (upd M.1 (2 + 9 * p + 0) x)) := fun M x => puts_t M (i := p) (w := 0) hp60 (by decide) x
  have w1 : ∀ (M : t_Model) (x : Int32), X7_puts M (nI p) 1 x = some (mSet M (upd M.1 (2 + 9 * p + 1) x)) := fun M x => puts_t M (i := p) (w := 1) hp60 (by decide) x
  have w2 : ∀ (M : t_Model) (x : Int32), X7_puts M (nI p) 2 x = some (mSet M (upd M.1 (2 + 9 * p + 2) x)) := fun M x => puts_t M (i := p) (w := 2) hp60 (by decide) x
  have w8 : ∀ (M : t_Model) (x : Int32), X7_puts M (nI p) 8 x = some (mSet M (upd M.1 (2 + 9 * p + 8) x)) := fun M x => puts_t M (i := p) (w := 8) hp60 (by decide) x
  have e1 : m2 1 = nI n := by rw [g2, if_neg (by omega), g1, if_neg (by omega)]; exact hM1
  obtain ⟨mm, hmm⟩ : ∃ mm, mm = upd (upd (upd (upd (upd m2 (2 + 9 * p + 0) kd) (2 + 9 * p + 1) ln) (2 + 9 * p + 2) pr) (2 + 9 * p + 8) (-1)) 1 (nI (n + 1)) := ⟨_, rfl⟩
  have rd : ∀ k, mm k = if k = 1 then nI (n + 1) else if k = 2 + 9 * p + 8 then -1 else if k = 2 + 9 * p + 2 then pr else if k = 2 + 9 * p + 1 then ln else if k = 2 + 9 * p then kd else m2 k := by
    intro k; rw [hmm]; simp only [upd_t]; rfl
  refine ⟨mm, ?_, ?_, ?_, ?_, ?_, ?_, ?_, ?_, ?_, ?_, ?_, ?_, ?_, ?_⟩
  · have cl : (nI 1).toNatClampNeg = 1 := by decide
    have er : upd (upd (upd (upd m2 (2 + 9 * p + 0) kd) (2 + 9 * p + 1) ln) (2 + 9 * p + 2) pr) (2 + 9 * p + 8) (-1) 1 = nI n := by
      simp only [upd_t]
      rw [if_neg (by omega), if_neg (by omega), if_neg (by omega), if_neg (by omega)]
      exact e1
    unfold X7_comes
    simp only [zlet_e]
    rw [zix1, cl1, hM1, e2, h1, Option.bind_some, h2, Option.bind_some, w0, Option.bind_some, w1, Option.bind_some, w2, Option.bind_some, w8, Option.bind_some]
    simp only [mSet_s, mSet2]
    rw [zix1, zix1, er, nI_1, ← hmm]
    rfl
  · rw [rd, if_neg (by omega), if_neg (by omega), if_neg (by omega), if_neg (by omega), if_neg (by omega), g2, if_neg (by omega), g1, if_neg (by omega)]
  · rw [rd, if_pos rfl]
  · intro k k1 k2
    rw [rd, if_neg (by omega), if_neg (by omega), if_neg (by omega), if_neg (by omega), if_neg (by omega), g2, if_neg (by omega), g1, if_neg (by omega)]
  · intro k k1 k2
    rw [rd, if_neg (by omega), if_neg (by omega), if_neg (by omega), if_neg (by omega), if_neg (by omega), g2, if_neg (by omega), g1, if_pos (by omega)]
  · rw [rd, if_neg (by omega), if_neg (by omega), if_neg (by omega), if_neg (by omega), if_pos rfl]
  · rw [rd, if_neg (by omega), if_neg (by omega), if_neg (by omega), if_pos rfl]
  · rw [rd, if_neg (by omega), if_neg (by omega), if_pos rfl]
  · rw [rd, if_neg (by omega), if_neg (by omega), if_neg (by omega), if_neg (by omega), if_neg (by omega), g2, if_pos (by omega)]
  · rw [rd, if_neg (by omega), if_neg (by omega), if_neg (by omega), if_neg (by omega), if_neg (by omega), g2, if_pos (by omega)]
  · rw [rd, if_neg (by omega), if_neg (by omega), if_neg (by omega), if_neg (by omega), if_neg (by omega), g2, if_pos (by omega)]
  · rw [rd, if_neg (by omega), if_neg (by omega), if_neg (by omega), if_neg (by omega), if_neg (by omega), g2, if_pos (by omega)]
  · rw [rd, if_neg (by omega), if_neg (by omega), if_neg (by omega), if_neg (by omega), if_neg (by omega), g2, if_pos (by omega)]
  · rw [rd, if_neg (by omega), if_pos rfl]
/-- an element that may come -/
def ENew (kd ln pr : Int32) : Prop := (kd = 0 ∨ kd = 1 ∨ kd = 2 ∨ kd = 3 ∨ kd = 4) ∧ (∃ l, 1 ≤ l ∧ l ≤ 400 ∧ ln = nI l) ∧ (kd = 2 → ∃ q, q ≤ 9 ∧ pr = nI q) ∧ (kd ≠ 2 → pr = -1)
theorem comes_t (hS : SOK T n L) {M : t_Model} (hM : MR T M.1 n L) {p : Nat} (hn : n < 60) (hp : p ≤ n) {kd ln pr : Int32} (hE : ENew kd ln pr) : ∃ m, X7_comes M (nI p) kd ln pr = some (mSet M m) ∧ SOK (X5_putIn T (nI p) kd ln pr) (n + 1) L ∧ MR (X5_putIn T (nI p) kd ln pr) m (n + 1) L := by
  obtain ⟨m, h1, a0, a1, a2, a3, b0, b1, b2, b3, b4, b5, b6, b7, b8⟩ := comes_m (M := M) hn hp hM.2.1 kd ln pr
  have hp60 : p < 60 := by omega
  have full : X5_isFull T = 0 := by
    unfold X5_isFull
    rw [hS.1, if_pos (show nI n < (60 : Int32) from nI_lt (b := 60) hn (by decide))]
  have hput : X5_putIn T (nI p) kd ln pr = (nI (n + 1), T.2.1, rOpen 60 T.2.2.1 (nI p) kd, rOpen 60 T.2.2.2.1 (nI p) ln, rOpen 60 T.2.2.2.2.1 (nI p) pr, rOpen 60 T.2.2.2.2.2.1 (nI p) (-1), rOpen 60 T.2.2.2.2.2.2.1 (nI p) 0, rOpen 60 T.2.2.2.2.2.2.2.1 (nI p) 0, rOpen 60 T.2.2.2.2.2.2.2.2.1 (nI p) 0, rOpen 60 T.2.2.2.2.2.2.2.2.2 (nI p) 0) := by
    unfold X5_putIn
    simp only [zlet_e]
    rw [full, if_pos rfl, hS.1, nI_1]
  rw [hput]
  obtain ⟨T', hT'⟩ : ∃ T' : t_Script, T' = (nI (n + 1), T.2.1, rOpen 60 T.2.2.1 (nI p) kd, rOpen 60 T.2.2.2.1 (nI p) ln, rOpen 60 T.2.2.2.2.1 (nI p) pr, rOpen 60 T.2.2.2.2.2.1 (nI p) (-1), rOpen 60 T.2.2.2.2.2.2.1 (nI p) 0, rOpen 60 T.2.2.2.2.2.2.2.1 (nI p) 0, rOpen 60 T.2.2.2.2.2.2.2.2.1 (nI p) 0, rOpen 60 T.2.2.2.2.2.2.2.2.2 (nI p) 0) := ⟨_, rfl⟩
  have lo : ∀ i, i < p → RowEq T T' i i ∧ T'.2.2.2.2.2.1 i = T.2.2.2.2.2.1 i := by
    intro i hi
    have e : ∀ (f : Rw) (x : Int32), rOpen 60 f (nI p) x i = f i := fun f x => by rw [open_at f hp60 x (by omega), if_neg (by omega), if_neg (by omega)]
    subst hT'
    exact ⟨⟨e _ _, e _ _, e _ _, e _ _, e _ _, e _ _, e _ _⟩, e _ _⟩
  have hi' : ∀ i, p < i → i < n + 1 → RowEq T T' (i - 1) i ∧ T'.2.2.2.2.2.1 i = T.2.2.2.2.2.1 (i - 1) := by
    intro i h2 h3
    have e : ∀ (f : Rw) (x : Int32), rOpen 60 f (nI p) x i = f (i - 1) := fun f x => by rw [open_at f hp60 x (by omega), if_neg (by omega), if_pos h2]
    subst hT'
    exact ⟨⟨e _ _, e _ _, e _ _, e _ _, e _ _, e _ _, e _ _⟩, e _ _⟩
  have eq : T'.2.2.1 p = kd ∧ T'.2.2.2.1 p = ln ∧ T'.2.2.2.2.1 p = pr ∧ T'.2.2.2.2.2.1 p = -1 ∧ T'.2.2.2.2.2.2.1 p = 0 ∧ T'.2.2.2.2.2.2.2.1 p = 0 ∧ T'.2.2.2.2.2.2.2.2.1 p = 0 ∧ T'.2.2.2.2.2.2.2.2.2 p = 0 := by
    have e : ∀ (f : Rw) (x : Int32), rOpen 60 f (nI p) x p = x := fun f x => by rw [open_at f hp60 x hp60, if_pos rfl]
    subst hT'
    exact ⟨e _ _, e _ _, e _ _, e _ _, e _ _, e _ _, e _ _, e _ _⟩
  rw [← hT']
  refine ⟨m, h1, ⟨by rw [hT'], by rw [hT']; exact hS.2.1, by omega, hS.2.2.2.1, hS.2.2.2.2.1, fun i hi => ?_⟩, by rw [a0]; exact hM.1, a1, fun i hi => ?_⟩
  · by_cases c1 : i < p
    · exact EOK_of (lo i c1).1 (hS.e (by omega))
    · by_cases c2 : i = p
      · subst c2
        obtain ⟨q1, q2, q3, q4, q5, q6, -, -⟩ := eq
        unfold EOK
        rw [q1, q2, q3, q5]
        exact ⟨hE.1, hE.2.1, hE.2.2.1, hE.2.2.2, Or.inl rfl, fun h => absurd rfl h, fun h => absurd rfl h⟩
      · exact EOK_of (hi' i (by omega) hi).1 (hS.e (by omega))
  · by_cases c1 : i < p
    · refine ERel_of (lo i c1).1 ?_ (fun w hw => a2 _ (by omega) (by omega)) (hM.2.2 i (by omega))
      rw [(lo i c1).2, a2 _ (by omega) (by omega)]
      exact (hM.2.2 i (by omega)).2.2.2.2.2.2.2.2.symm
    · by_cases c2 : i = p
      · subst c2
        obtain ⟨q1, q2, q3, q4, q5, q6, q7, q8⟩ := eq
        unfold ERel
        rw [q1, q2, q3, q4, q5, q6, q7, q8]
        exact ⟨b0, b1, b2, b3, b4, b5, b6, b7, b8⟩
      · have sh : ∀ w, w < 9 → m (2 + 9 * i + w) = M.1 (2 + 9 * (i - 1) + w) := fun w hw => by
          rw [a3 _ (by omega) (by omega)]; exact congrArg M.1 (by omega)
        refine ERel_of (hi' i (by omega) hi).1 ?_ (fun w hw => sh w (by omega)) (hM.2.2 (i - 1) (by omega))
        rw [(hi' i (by omega) hi).2, sh 8 (by decide)]
        exact (hM.2.2 (i - 1) (by omega)).2.2.2.2.2.2.2.2.symm
end ME

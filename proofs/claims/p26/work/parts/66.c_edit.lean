-- an element comes, an element goes: the class alone
def RowEq (T T' : t_Script) (j i : Nat) : Prop := T'.2.2.1 i = T.2.2.1 j ∧ T'.2.2.2.1 i = T.2.2.2.1 j ∧ T'.2.2.2.2.1 i = T.2.2.2.2.1 j ∧ T'.2.2.2.2.2.2.1 i = T.2.2.2.2.2.2.1 j ∧ T'.2.2.2.2.2.2.2.1 i = T.2.2.2.2.2.2.2.1 j ∧ T'.2.2.2.2.2.2.2.2.1 i = T.2.2.2.2.2.2.2.2.1 j ∧ T'.2.2.2.2.2.2.2.2.2 i = T.2.2.2.2.2.2.2.2.2 j
theorem EOK_of {T T' : t_Script} {j i : Nat} (h : RowEq T T' j i) (k : EOK T j) : EOK T' i := by
  obtain ⟨h1, h2, h3, h4, h5, -, -⟩ := h
  unfold EOK at k ⊢
  rw [h1, h2, h3, h4, h5]
  exact k
/-- the same script as far as its elements reach -/
def SEq (S S' : t_Script) (n : Nat) : Prop := S'.1 = S.1 ∧ S'.2.1 = S.2.1 ∧ ∀ i, i < n → RowEq S S' i i ∧ S'.2.2.2.2.2.1 i = S.2.2.2.2.2.1 i
theorem SEq.ok {S S' : t_Script} {n L : Nat} (h : SEq S S' n) (hS : SOK S n L) : SOK S' n L := ⟨h.1.trans hS.1, h.2.1.trans hS.2.1, hS.2.2.1, hS.2.2.2.1, hS.2.2.2.2.1, fun i hi => EOK_of (h.2.2 i hi).1 (hS.e hi)⟩
theorem copy_eq {S D : t_Script} {n : Nat} (hn : n ≤ 60) : SEq S (X5_copyFrom D S) n := by
  unfold X5_copyFrom
  simp only [zlet]
  refine ⟨rfl, rfl, fun i hi => ⟨⟨?_, ?_, ?_, ?_, ?_, ?_, ?_⟩, ?_⟩⟩ <;> exact rCopy_lt _ _ (by omega)
theorem rFst_nI {p : Nat} (hp : p < 2147483648) : rFst (nI p) = p := by
  unfold rFst
  by_cases h : p = 0
  · subst h; rfl
  · rw [if_neg (nI_nle (by omega) hp), nI_clamp hp]
theorem open_at (f : Rw) {p : Nat} (hp : p < 60) (x : Int32) {k : Nat} (hk : k < 60) : rOpen 60 f (nI p) x k = if k = p then x else if p < k then f (k - 1) else f k := by
  unfold rOpen
  rw [rPut_nI (by decide) _ hp, rFst_nI (by omega), upd_t]
  by_cases h : k = p
  · rw [if_pos h, if_pos h]
  · rw [if_neg h, if_neg h]
    by_cases h2 : p < k
    · rw [if_pos h2, if_pos ⟨h2, hk⟩]
    · rw [if_neg h2, if_neg (fun a => h2 a.1)]
theorem close_at (f : Rw) {p : Nat} (hp : p < 60) {k : Nat} (hk : k + 1 < 60) : rClose 60 f (nI p) k = if p ≤ k then f (k + 1) else f k := by
  unfold rClose
  rw [rFst_nI (by omega)]
  by_cases h2 : p ≤ k
  · rw [if_pos h2, if_pos ⟨h2, hk⟩]
  · rw [if_neg h2, if_neg (fun a => h2 a.1)]
/-- an element that may come -/
def ENew (kd ln pr : Int32) : Prop := (kd = 0 ∨ kd = 1 ∨ kd = 2 ∨ kd = 3 ∨ kd = 4) ∧ (∃ l, 1 ≤ l ∧ l ≤ 400 ∧ ln = nI l) ∧ (kd = 2 → ∃ q, q ≤ 9 ∧ pr = nI q) ∧ (kd ≠ 2 → pr = -1)
section CE
variable {T : t_Script} {n L : Nat}
/-- an element put in at place p -/
theorem comes_x (hS : SOK T n L) {p : Nat} (hn : n < 60) (hp : p ≤ n) {kd ln pr : Int32} (hE : ENew kd ln pr) : ∃ T', X5_putIn T (nI p) kd ln pr = T' ∧ SOK T' (n + 1) L ∧
    (∀ i, i < p → RowEq T T' i i ∧ T'.2.2.2.2.2.1 i = T.2.2.2.2.2.1 i) ∧ (∀ i, p < i → i < n + 1 → RowEq T T' (i - 1) i ∧ T'.2.2.2.2.2.1 i = T.2.2.2.2.2.1 (i - 1)) ∧
    (T'.2.2.1 p = kd ∧ T'.2.2.2.1 p = ln ∧ T'.2.2.2.2.1 p = pr ∧ T'.2.2.2.2.2.1 p = -1 ∧ T'.2.2.2.2.2.2.1 p = 0 ∧ T'.2.2.2.2.2.2.2.1 p = 0 ∧ T'.2.2.2.2.2.2.2.2.1 p = 0 ∧ T'.2.2.2.2.2.2.2.2.2 p = 0) := by
  have hp60 : p < 60 := by omega
  have full : X5_isFull T = 0 := by
    unfold X5_isFull
    rw [hS.1, if_pos (show nI n < (60 : Int32) from nI_lt (b := 60) hn (by decide))]
  have hput : X5_putIn T (nI p) kd ln pr = (nI (n + 1), T.2.1, rOpen 60 T.2.2.1 (nI p) kd, rOpen 60 T.2.2.2.1 (nI p) ln, rOpen 60 T.2.2.2.2.1 (nI p) pr, rOpen 60 T.2.2.2.2.2.1 (nI p) (-1), rOpen 60 T.2.2.2.2.2.2.1 (nI p) 0, rOpen 60 T.2.2.2.2.2.2.2.1 (nI p) 0, rOpen 60 T.2.2.2.2.2.2.2.2.1 (nI p) 0, rOpen 60 T.2.2.2.2.2.2.2.2.2 (nI p) 0) := by
    unfold X5_putIn
    simp only [zlet_e]
    rw [full, if_pos rfl, hS.1, nI_1]
  rw [hput]
  obtain ⟨T', hT'⟩ : ∃ T' : t_Script, T' = (nI (n + 1), T.2.1, rOpen 60 T.2.2.1 (nI p) kd, rOpen 60 T.2.2.2.1 (nI p) ln, rOpen 60 T.2.2.2.2.1 (nI p) pr, rOpen 60 T.2.2.2.2.2.1 (nI p) (-1), rOpen 60 T.2.2.2.2.2.2.1 (nI p) 0, rOpen 60 T.2.2.2.2.2.2.2.1 (nI p) 0, rOpen 60 T.2.2.2.2.2.2.2.2.1 (nI p) 0, rOpen 60 T.2.2.2.2.2.2.2.2.2 (nI p) 0) := ⟨_, rfl⟩
  have lo : ∀ i, i < p → RowEq T T' i i ∧ T'.2.2.2.2.2.1 i = T.2.2.2.2.2.1 i := by
    intro i hi
    have e : ∀ (f : Rw) (x : Int32), rOpen 60 f (nI p) x i = f i := fun f x => by rw [open_at f hp60 x (by omega), if_neg (by omega), if_neg (by omega)]
    subst hT'
    exact ⟨⟨e _ _, e _ _, e _ _, e _ _, e _ _, e _ _, e _ _⟩, e _ _⟩
  have hi' : ∀ i, p < i → i < n + 1 → RowEq T T' (i - 1) i ∧ T'.2.2.2.2.2.1 i = T.2.2.2.2.2.1 (i - 1) := by
    intro i h2 h3
    have e : ∀ (f : Rw) (x : Int32), rOpen 60 f (nI p) x i = f (i - 1) := fun f x => by rw [open_at f hp60 x (by omega), if_neg (by omega), if_pos h2]
    subst hT'
    exact ⟨⟨e _ _, e _ _, e _ _, e _ _, e _ _, e _ _, e _ _⟩, e _ _⟩
  have eq : T'.2.2.1 p = kd ∧ T'.2.2.2.1 p = ln ∧ T'.2.2.2.2.1 p = pr ∧ T'.2.2.2.2.2.1 p = -1 ∧ T'.2.2.2.2.2.2.1 p = 0 ∧ T'.2.2.2.2.2.2.2.1 p = 0 ∧ T'.2.2.2.2.2.2.2.2.1 p = 0 ∧ T'.2.2.2.2.2.2.2.2.2 p = 0 := by
    have e : ∀ (f : Rw) (x : Int32), rOpen 60 f (nI p) x p = x := fun f x => by rw [open_at f hp60 x hp60, if_pos rfl]
    subst hT'
    exact ⟨e _ _, e _ _, e _ _, e _ _, e _ _, e _ _, e _ _, e _ _⟩
  rw [← hT']
  refine ⟨T', rfl, ⟨by rw [hT'], by rw [hT']; exact hS.2.1, by omega, hS.2.2.2.1, hS.2.2.2.2.1, fun i hi => ?_⟩, lo, hi', eq⟩
  by_cases c1 : i < p
  · exact EOK_of (lo i c1).1 (hS.e (by omega))
  · by_cases c2 : i = p
    · subst c2
      obtain ⟨q1, q2, q3, q4, q5, q6, -, -⟩ := eq
      unfold EOK
      rw [q1, q2, q3, q5]
      exact ⟨hE.1, hE.2.1, hE.2.2.1, hE.2.2.2, Or.inl rfl, fun h => absurd rfl h, fun h => absurd rfl h⟩
    · exact EOK_of (hi' i (by omega) hi).1 (hS.e (by omega))
/-- the element at place p taken out -/
theorem goes_x (hS : SOK T n L) {p : Nat} (hp : p < n) : ∃ T', X5_takeOut T (nI p) = some T' ∧ SOK T' (n - 1) L ∧
    (∀ i, i < p → RowEq T T' i i ∧ T'.2.2.2.2.2.1 i = T.2.2.2.2.2.1 i) ∧ (∀ i, p ≤ i → i < n - 1 → RowEq T T' (i + 1) i ∧ T'.2.2.2.2.2.1 i = if i = p ∧ T.2.2.2.2.2.1 (p + 1) = -1 then T.2.2.2.2.2.1 p else T.2.2.2.2.2.1 (i + 1)) := by
  have hn := hS.2.2.1
  have hp60 : p < 60 := by omega
  have cl : ∀ f : Rw, X3_closeAt 60 f (nI p) = some (rClose 60 f (nI p)) := fun f => X3_closeAt_t (by decide) (by decide) f (nI p) (by rw [nI_clamp (by omega)]; omega)
  have es : nI n - 1 = nI (n - 1) := by
    obtain ⟨k, rfl⟩ : ∃ k, n = k + 1 := ⟨n - 1, by omega⟩
    exact nI_pred k
  have hh : X5_has T (nI p) = 1 := by rw [has_x hS (by omega), if_pos hp]
  obtain ⟨mr, hmr⟩ : ∃ mr : Rw, mr = if p < n - 1 ∧ rClose 60 T.2.2.2.2.2.1 (nI p) p = -1 then upd (rClose 60 T.2.2.2.2.2.1 (nI p)) p (T.2.2.2.2.2.1 p) else rClose 60 T.2.2.2.2.2.1 (nI p) := ⟨_, rfl⟩
  obtain ⟨T', hT'⟩ : ∃ T' : t_Script, T' = (nI (n - 1), T.2.1, rClose 60 T.2.2.1 (nI p), rClose 60 T.2.2.2.1 (nI p), rClose 60 T.2.2.2.2.1 (nI p), mr, rClose 60 T.2.2.2.2.2.2.1 (nI p), rClose 60 T.2.2.2.2.2.2.2.1 (nI p), rClose 60 T.2.2.2.2.2.2.2.2.1 (nI p), rClose 60 T.2.2.2.2.2.2.2.2.2 (nI p)) := ⟨_, rfl⟩
  have htake : X5_takeOut T (nI p) = some T' := by
    have hb : ∀ a1 a2 a3 a4 a5 a6 a7 a8 : Rw, X5_has (nI (n - 1), T.2.1, a1, a2, a3, a4, a5, a6, a7, a8) (nI p) = if p < n - 1 then 1 else 0 := by
      intro a1 a2 a3 a4 a5 a6 a7 a8
      unfold X5_has X6_isBelow
      simp only [zlet]
      rw [if_neg (nI_pos (by omega))]
      by_cases c : p < n - 1
      · rw [if_pos c, if_neg (nI_ge c (by omega))]
      · rw [if_neg c, if_pos (nI_le (by omega) (by omega))]
    unfold X5_takeOut
    simp only [zlet_e]
    rw [hh, if_neg (by decide), cl, Option.bind_some, cl, Option.bind_some, cl, Option.bind_some, cl, Option.bind_some, cl, Option.bind_some, cl, Option.bind_some, cl, Option.bind_some, cl, Option.bind_some, hS.1, es, hb, rAt_nI (by decide) _ hp60, rAt_nI (by decide) _ hp60, rPut_nI (by decide) _ hp60, hT', hmr]
    by_cases c : p < n - 1
    · rw [if_pos c, if_neg (by decide)]
      by_cases c2 : rClose 60 T.2.2.2.2.2.1 (nI p) p = -1
      · rw [if_pos c2, if_pos ⟨c, c2⟩]
      · rw [if_neg c2, if_neg (fun h => c2 h.2)]
    · rw [if_neg c, if_pos rfl, if_neg (fun h => c h.1)]
  have lo : ∀ i, i < p → RowEq T T' i i ∧ T'.2.2.2.2.2.1 i = T.2.2.2.2.2.1 i := by
    intro i hi
    have e : ∀ f : Rw, rClose 60 f (nI p) i = f i := fun f => by rw [close_at f hp60 (by omega), if_neg (by omega)]
    subst hT'
    refine ⟨⟨e _, e _, e _, e _, e _, e _, e _⟩, ?_⟩
    show mr i = _
    rw [hmr]
    split
    · rw [pk_un (by omega)]; exact e _
    · exact e _
  have hi' : ∀ i, p ≤ i → i < n - 1 → RowEq T T' (i + 1) i ∧ T'.2.2.2.2.2.1 i = if i = p ∧ T.2.2.2.2.2.1 (p + 1) = -1 then T.2.2.2.2.2.1 p else T.2.2.2.2.2.1 (i + 1) := by
    intro i h2 h3
    have e : ∀ f : Rw, rClose 60 f (nI p) i = f (i + 1) := fun f => by rw [close_at f hp60 (by omega), if_pos h2]
    have ep : rClose 60 T.2.2.2.2.2.1 (nI p) p = T.2.2.2.2.2.1 (p + 1) := by rw [close_at _ hp60 (by omega), if_pos (Nat.le_refl _)]
    subst hT'
    refine ⟨⟨e _, e _, e _, e _, e _, e _, e _⟩, ?_⟩
    show mr i = _
    rw [hmr, ep]
    by_cases c : T.2.2.2.2.2.1 (p + 1) = -1
    · rw [if_pos ⟨by omega, c⟩, upd_t]
      by_cases c2 : i = p
      · rw [if_pos c2, if_pos ⟨c2, c⟩]
      · rw [if_neg c2, if_neg (fun h => c2 h.1)]; exact e _
    · rw [if_neg (fun h => c h.2), if_neg (fun h => c h.2)]; exact e _
  refine ⟨T', htake, ⟨by rw [hT'], by rw [hT']; exact hS.2.1, by omega, hS.2.2.2.1, hS.2.2.2.2.1, fun i hi => ?_⟩, lo, hi'⟩
  by_cases c1 : i < p
  · exact EOK_of (lo i c1).1 (hS.e (by omega))
  · exact EOK_of (hi' i (by omega) hi).1 (hS.e (by omega))
end CE

-- an element goes
section MG
variable {T : t_Script} {n L : Nat}
theorem goes_shift {M : t_Model} {p : Nat} (hn : n ≤ 60) (hp : p < n) (q1 : Int32) : ∃ m, zloop (b_X7_goes_25 (nI p) q1) FU (mSet M (upd M.1 1 (nI (n - 1))), nI (2 + 9 * p)) = some (mSet M m) ∧ ∀ k, m k = if 2 + 9 * p ≤ k ∧ k < 2 + 9 * (n - 1) then M.1 (k + 9) else upd M.1 1 (nI (n - 1)) k := by
  obtain ⟨X, h1, m, h2, h3⟩ := zl_up (body := b_X7_goes_25 (nI p) q1) (fun d v => ∃ m, v = (mSet M m, nI (2 + 9 * p + d)) ∧ ∀ k, m k = if 2 + 9 * p ≤ k ∧ k < 2 + 9 * p + d then M.1 (k + 9) else upd M.1 1 (nI (n - 1)) k) (fun X => ∃ m, X = mSet M m ∧ ∀ k, m k = if 2 + 9 * p ≤ k ∧ k < 2 + 9 * (n - 1) then M.1 (k + 9) else upd M.1 1 (nI (n - 1)) k) (9 * (n - 1 - p))
    (fun rec v h => by
      obtain ⟨m, rfl, h⟩ := h
      have e1 : m 1 = nI (n - 1) := by rw [h, if_neg (by omega), pk_us]
      unfold b_X7_goes_25
      simp only [zlet_e, mSet_s]
      rw [zix1, cl1, e1, show (9 : Int32) = nI 9 from rfl, show (2 : Int32) = nI 2 from rfl, pk_mul, nI_add, if_pos (nI_le (by omega) (by omega))]
      refine ⟨_, rfl, m, rfl, fun k => ?_⟩
      rw [h, show 2 + 9 * p + 9 * (n - 1 - p) = 2 + 9 * (n - 1) by omega])
    (fun rec d v hd h k => by
      obtain ⟨m, rfl, h⟩ := h
      have e1 : m 1 = nI (n - 1) := by rw [h, if_neg (by omega), pk_us]
      unfold b_X7_goes_25
      simp only [zlet_e, mSet_s]
      rw [zix1, cl1, e1, show (9 : Int32) = nI 9 from rfl, show (2 : Int32) = nI 2 from rfl, pk_mul, nI_add, nI_add, if_neg (nI_ge (by omega) (by omega)), zix_nI (by omega) (by decide), zix_nI (by omega) (by decide), nI_clamp (by omega), nI_clamp (by omega), nI_1]
      refine k _ ⟨_, rfl, fun j => ?_⟩
      rw [upd_t]
      by_cases e : j = 2 + 9 * p + d
      · subst e
        rw [if_pos rfl, if_pos (by omega), h, if_neg (by omega), upd_t, if_neg (by omega)]
      · rw [if_neg e, h]
        by_cases c : 2 + 9 * p ≤ j ∧ j < 2 + 9 * p + d
        · rw [if_pos c, if_pos (by omega)]
        · rw [if_neg c, if_neg (by omega)])
    FU 0 (mSet M (upd M.1 1 (nI (n - 1))), nI (2 + 9 * p)) (Nat.zero_le _) ⟨_, rfl, fun k => by rw [if_neg (by omega)]⟩ (show 9 * (n - 1 - p) - 0 < 3000 by omega)
  exact ⟨m, by rw [h1, h2], h3⟩
theorem goes_m {M : t_Model} {p : Nat} (hn : n ≤ 60) (hp : p < n) (hM1 : M.1 1 = nI n) : ∃ m, X7_goes M (nI p) = some (mSet M m) ∧ m 0 = M.1 0 ∧ m 1 = nI (n - 1) ∧ (∀ k, 2 ≤ k → k < 2 + 9 * p → m k = M.1 k) ∧ (∀ k, 2 + 9 * p ≤ k → k < 2 + 9 * (n - 1) → k ≠ 2 + 9 * p + 8 → m k = M.1 (k + 9)) ∧ (p < n - 1 → m (2 + 9 * p + 8) = if M.1 (2 + 9 * p + 8 + 9) = -1 then M.1 (2 + 9 * p + 8) else M.1 (2 + 9 * p + 8 + 9)) := by
  obtain ⟨m, h1, g1⟩ := goes_shift (M := M) hn hp (M.1 (2 + 9 * p + 8))
  have hp60 : p < 60 := by omega
  have o8 : ∀ M : t_Model, X7_of M (nI p) 8 = some (M.1 (2 + 9 * p + 8)) := fun M => of_t M (w := 8) hp60 (by decide)
  have w8 : ∀ (M : t_Model) (x : Int32), X7_puts M (nI p) 8 x = some (mSet M (upd M.1 (2 + 9 * p + 8) x)) := fun M x => puts_t M (i := p) (w := 8) hp60 (by decide) x
  have e1 : m 1 = nI (n - 1) := by rw [g1, if_neg (by omega), pk_us]
  have e2 : (2 : Int32) + 9 * nI p = nI (2 + 9 * p) := by
    rw [show (9 : Int32) = nI 9 from rfl, show (2 : Int32) = nI 2 from rfl, pk_mul, nI_add]
  have es : nI n - 1 = nI (n - 1) := by
    obtain ⟨k, rfl⟩ : ∃ k, n = k + 1 := ⟨n - 1, by omega⟩
    exact nI_pred k
  have fin : ∀ m', (m' = m ∨ (p < n - 1 ∧ M.1 (2 + 9 * p + 8 + 9) = -1 ∧ m' = upd m (2 + 9 * p + 8) (M.1 (2 + 9 * p + 8)))) → (m' = m → p < n - 1 → M.1 (2 + 9 * p + 8 + 9) = -1 → M.1 (2 + 9 * p + 8) = -1) → m' 0 = M.1 0 ∧ m' 1 = nI (n - 1) ∧ (∀ k, 2 ≤ k → k < 2 + 9 * p → m' k = M.1 k) ∧ (∀ k, 2 + 9 * p ≤ k → k < 2 + 9 * (n - 1) → k ≠ 2 + 9 * p + 8 → m' k = M.1 (k + 9)) ∧ (p < n - 1 → m' (2 + 9 * p + 8) = if M.1 (2 + 9 * p + 8 + 9) = -1 then M.1 (2 + 9 * p + 8) else M.1 (2 + 9 * p + 8 + 9)) := by
    intro m' hm' hm2
    have un : ∀ k, k ≠ 2 + 9 * p + 8 → m' k = m k := by
      intro k hk
      rcases hm' with e | ⟨-, -, e⟩
      · rw [e]
      · rw [e, pk_un hk]
    refine ⟨?_, ?_, fun k k1 k2 => ?_, fun k k1 k2 k3 => ?_, fun hq => ?_⟩
    · rw [un 0 (by omega), g1, if_neg (by omega), pk_un (by omega)]
    · rw [un 1 (by omega), e1]
    · rw [un k (by omega), g1, if_neg (by omega), pk_un (by omega)]
    · rw [un k k3, g1, if_pos ⟨k1, k2⟩]
    · rcases hm' with e | ⟨-, e3, e⟩
      · rw [e, g1, if_pos (by omega)]
        by_cases c : M.1 (2 + 9 * p + 8 + 9) = -1
        · rw [if_pos c, c, hm2 e hq c]
        · rw [if_neg c]
      · rw [e, pk_us, if_pos e3]
  have start : X7_goes M (nI p) = if M.1 (2 + 9 * p + 8) = -1 then some (mSet M m) else (if nI (n - 1) ≤ nI p then some (mSet M m) else (if m (2 + 9 * p + 8) = -1 then some (mSet M (upd m (2 + 9 * p + 8) (M.1 (2 + 9 * p + 8)))) else some (mSet M m))) := by
    unfold X7_goes
    simp only [zlet_e]
    rw [o8, Option.bind_some, zix1, zix1, cl1, hM1, es, e2, show (upd M.1 1 (nI (n - 1)), M.2.1, M.2.2.1, M.2.2.2.1, M.2.2.2.2.1, M.2.2.2.2.2.1, M.2.2.2.2.2.2.1, M.2.2.2.2.2.2.2.1, M.2.2.2.2.2.2.2.2.1, M.2.2.2.2.2.2.2.2.2.1, M.2.2.2.2.2.2.2.2.2.2.1, M.2.2.2.2.2.2.2.2.2.2.2.1, M.2.2.2.2.2.2.2.2.2.2.2.2.1, M.2.2.2.2.2.2.2.2.2.2.2.2.2.1, M.2.2.2.2.2.2.2.2.2.2.2.2.2.2.1, M.2.2.2.2.2.2.2.2.2.2.2.2.2.2.2.1, M.2.2.2.2.2.2.2.2.2.2.2.2.2.2.2.2.1, M.2.2.2.2.2.2.2.2.2.2.2.2.2.2.2.2.2.1, M.2.2.2.2.2.2.2.2.2.2.2.2.2.2.2.2.2.2) = mSet M (upd M.1 1 (nI (n - 1))) from rfl, h1, Option.bind_some, zix1, mSet_s, e1, o8, Option.bind_some, mSet_s, w8, Option.bind_some, mSet_s, mSet2]
  rw [start]
  by_cases c1 : M.1 (2 + 9 * p + 8) = -1
  · rw [if_pos c1]
    exact ⟨m, rfl, fin m (Or.inl rfl) (fun _ _ _ => c1)⟩
  · rw [if_neg c1]
    by_cases c2 : p < n - 1
    · rw [if_neg (nI_ge c2 (by omega))]
      have e8 : m (2 + 9 * p + 8) = M.1 (2 + 9 * p + 8 + 9) := by rw [g1, if_pos (by omega)]
      by_cases c3 : M.1 (2 + 9 * p + 8 + 9) = -1
      · rw [if_pos (by rw [e8]; exact c3)]
        refine ⟨_, rfl, fin _ (Or.inr ⟨c2, c3, rfl⟩) (fun e _ _ => ?_)⟩
        have := congrFun e (2 + 9 * p + 8)
        rw [pk_us, e8, c3] at this
        exact this
      · rw [if_neg (by rw [e8]; exact c3)]
        exact ⟨m, rfl, fin m (Or.inl rfl) (fun _ _ h => absurd h c3)⟩
    · rw [if_pos (nI_le (by omega) (by omega))]
      exact ⟨m, rfl, fin m (Or.inl rfl) (fun _ h => absurd h c2)⟩
theorem goes_t (hS : SOK T n L) {M : t_Model} (hM : MR T M.1 n L) {p : Nat} (hp : p < n) : ∃ T' m, X5_takeOut T (nI p) = some T' ∧ X7_goes M (nI p) = some (mSet M m) ∧ SOK T' (n - 1) L ∧ MR T' m (n - 1) L ∧ (∀ i, i < p → RowEq T T' i i) ∧ ∀ i, p ≤ i → i < n - 1 → RowEq T T' (i + 1) i := by
  have hn := hS.2.2.1
  have hp60 : p < 60 := by omega
  obtain ⟨m, h1, a0, a1, a2, a3, a4⟩ := goes_m (M := M) hn hp hM.2.1
  have cl : ∀ f : Rw, X3_closeAt 60 f (nI p) = some (rClose 60 f (nI p)) := fun f => X3_closeAt_t (by decide) (by decide) f (nI p) (by rw [nI_clamp (by omega)]; omega)
  have es : nI n - 1 = nI (n - 1) := by
    obtain ⟨k, rfl⟩ : ∃ k, n = k + 1 := ⟨n - 1, by omega⟩
    exact nI_pred k
  have hh : X5_has T (nI p) = 1 := by rw [has_x hS (by omega), if_pos hp]
  obtain ⟨mr, hmr⟩ : ∃ mr : Rw, mr = if p < n - 1 ∧ rClose 60 T.2.2.2.2.2.1 (nI p) p = -1 then upd (rClose 60 T.2.2.2.2.2.1 (nI p)) p (T.2.2.2.2.2.1 p) else rClose 60 T.2.2.2.2.2.1 (nI p) := ⟨_, rfl⟩
  obtain ⟨T', hT'⟩ : ∃ T' : t_Script, T' = (nI (n - 1), T.2.1, rClose 60 T.2.2.1 (nI p), rClose 60 T.2.2.2.1 (nI p), rClose 60 T.2.2.2.2.1 (nI p), mr, rClose 60 T.2.2.2.2.2.2.1 (nI p), rClose 60 T.2.2.2.2.2.2.2.1 (nI p), rClose 60 T.2.2.2.2.2.2.2.2.1 (nI p), rClose 60 T.2.2.2.2.2.2.2.2.2 (nI p)) := ⟨_, rfl⟩
  have htake : X5_takeOut T (nI p) = some T' := by
    have hb : ∀ a1 a2 a3 a4 a5 a6 a7 a8 : Rw, X5_has (nI (n - 1), T.2.1, a1, a2, a3, a4, a5, a6, a7, a8) (nI p) = if p < n - 1 then 1 else 0 := by
      intro a1 a2 a3 a4 a5 a6 a7 a8
      unfold X5_has X6_isBelow
      simp only [zlet]
      rw [if_neg (nI_pos (by omega))]
      by_cases c : p < n - 1
      · rw [if_pos c, if_neg (nI_ge c (by omega))]
      · rw [if_neg c, if_pos (nI_le (by omega) (by omega))]
    unfold X5_takeOut
    simp only [zlet_e]
    rw [hh, if_neg (by decide), cl, Option.bind_some, cl, Option.bind_some, cl, Option.bind_some, cl, Option.bind_some, cl, Option.bind_some, cl, Option.bind_some, cl, Option.bind_some, cl, Option.bind_some, hS.1, es, hb, rAt_nI (by decide) _ hp60, rAt_nI (by decide) _ hp60, rPut_nI (by decide) _ hp60, hT', hmr]
    by_cases c : p < n - 1
    · rw [if_pos c, if_neg (by decide)]
      by_cases c2 : rClose 60 T.2.2.2.2.2.1 (nI p) p = -1
      · rw [if_pos c2, if_pos ⟨c, c2⟩]
      · rw [if_neg c2, if_neg (fun h => c2 h.2)]
    · rw [if_neg c, if_pos rfl, if_neg (fun h => c h.1)]
  have lo : ∀ i, i < p → RowEq T T' i i ∧ T'.2.2.2.2.2.1 i = T.2.2.2.2.2.1 i := by
    intro i hi
    have e : ∀ f : Rw, rClose 60 f (nI p) i = f i := fun f => by rw [close_at f hp60 (by omega), if_neg (by omega)]
    subst hT'
    refine ⟨⟨e _, e _, e _, e _, e _, e _, e _⟩, ?_⟩
    show mr i = _
    rw [hmr]
    split
    · rw [pk_un (by omega)]; exact e _
    · exact e _
  have hi' : ∀ i, p ≤ i → i < n - 1 → RowEq T T' (i + 1) i ∧ T'.2.2.2.2.2.1 i = if i = p ∧ T.2.2.2.2.2.1 (p + 1) = -1 then T.2.2.2.2.2.1 p else T.2.2.2.2.2.1 (i + 1) := by
    intro i h2 h3
    have e : ∀ f : Rw, rClose 60 f (nI p) i = f (i + 1) := fun f => by rw [close_at f hp60 (by omega), if_pos h2]
    have ep : rClose 60 T.2.2.2.2.2.1 (nI p) p = T.2.2.2.2.2.1 (p + 1) := by rw [close_at _ hp60 (by omega), if_pos (Nat.le_refl _)]
    subst hT'
    refine ⟨⟨e _, e _, e _, e _, e _, e _, e _⟩, ?_⟩
    show mr i = _
    rw [hmr, ep]
    by_cases c : T.2.2.2.2.2.1 (p + 1) = -1
    · rw [if_pos ⟨by omega, c⟩, upd_t]
      by_cases c2 : i = p
      · rw [if_pos c2, if_pos ⟨c2, c⟩]
      · rw [if_neg c2, if_neg (fun h => c2 h.1)]; exact e _
    · rw [if_neg (fun h => c h.2), if_neg (fun h => c h.2)]; exact e _
  refine ⟨T', m, htake, h1, ⟨by rw [hT'], by rw [hT']; exact hS.2.1, by omega, hS.2.2.2.1, hS.2.2.2.2.1, fun i hi => ?_⟩, ⟨by rw [a0]; exact hM.1, a1, fun i hi => ?_⟩, fun i hi => (lo i hi).1, fun i h2 h3 => (hi' i h2 h3).1⟩
  · by_cases c1 : i < p
    · exact EOK_of (lo i c1).1 (hS.e (by omega))
    · exact EOK_of (hi' i (by omega) hi).1 (hS.e (by omega))
  · by_cases c1 : i < p
    · refine ERel_of (lo i c1).1 ?_ (fun w hw => a2 _ (by omega) (by omega)) (hM.2.2 i (by omega))
      rw [(lo i c1).2, a2 _ (by omega) (by omega)]
      exact (hM.2.2 i (by omega)).2.2.2.2.2.2.2.2.symm
    · have k9 : ∀ w, w < 9 → M.1 (2 + 9 * i + w + 9) = M.1 (2 + 9 * (i + 1) + w) := fun w _ => congrArg M.1 (by omega)
      have mk1 : ∀ j, j < n → M.1 (2 + 9 * j + 8) = T.2.2.2.2.2.1 j := fun j hj => (hM.2.2 j hj).2.2.2.2.2.2.2.2
      refine ERel_of (hi' i (by omega) hi).1 ?_ (fun w hw => ?_) (hM.2.2 (i + 1) (by omega))
      · rw [(hi' i (by omega) hi).2]
        by_cases c2 : i = p
        · subst c2
          rw [a4 hi, k9 8 (by decide), mk1 (i + 1) (by omega), mk1 i (by omega)]
          by_cases c3 : T.2.2.2.2.2.1 (i + 1) = -1
          · rw [if_pos ⟨rfl, c3⟩, if_pos c3]
          · rw [if_neg (fun h => c3 h.2), if_neg c3]
        · rw [if_neg (fun h => c2 h.1), a3 _ (by omega) (by omega) (by omega), k9 8 (by decide), mk1 (i + 1) (by omega)]
      · rw [a3 _ (by omega) (by omega) (by omega), k9 w (by omega)]
end MG

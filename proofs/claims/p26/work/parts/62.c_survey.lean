-- what the class notes of a script's scenes
theorem lk_s0 {lk : Rw} {i : Nat} (h : lk i = 0) : lkN lk (i + 1) = lkN lk i := by
  show lkN lk i + (if lk i = 0 then 0 else 1) = _
  rw [if_pos h]; rfl
theorem lk_s1 {lk : Rw} {i : Nat} (h : ¬ lk i = 0) : lkN lk (i + 1) = lkN lk i + 1 := by
  show lkN lk i + (if lk i = 0 then 0 else 1) = _
  rw [if_neg h]
theorem cn_s1 {kd : Rw} {s j : Nat} (h : hcN kd (j + 1) = s + 1) : cnN kd s (j + 1) = cnN kd s j + 1 := if_pos h
theorem cn_s0 {kd : Rw} {s j : Nat} (h : ¬ hcN kd (j + 1) = s + 1) : cnN kd s (j + 1) = cnN kd s j := if_neg h
theorem sm_s1 {S : t_Script} {s j : Nat} (h : hcN S.2.2.1 (j + 1) = s + 1) : smN S s (j + 1) = smN S s j + X5_linesOf S (nI j) := if_pos h
theorem sm_s0 {S : t_Script} {s j : Nat} (h : ¬ hcN S.2.2.1 (j + 1) = s + 1) : smN S s (j + 1) = smN S s j := if_neg h
def GIn (S : t_Script) (j : Nat) (C : t_Scenes) : Prop :=
  C.1 = nI (hcN S.2.2.1 j) ∧ C.2.1 = nI (lkN S.2.2.2.2.2.2.1 j) ∧ (∀ h, h < j → S.2.2.1 h = 0 → C.2.2.2.1 (hcN S.2.2.1 h) = nI h) ∧
  (∀ s, s < hcN S.2.2.1 j → C.2.2.2.2.1 s = nI (cnN S.2.2.1 s j) ∧ C.2.2.2.2.2.1 s = smN S s j) ∧ (∀ i, i < j → C.2.2.2.2.2.2.2.2.2.2.1 i = nI (hcN S.2.2.1 (i + 1)) - 1)
section MS
variable {S : t_Script} {n L : Nat}
theorem gather_t (hS : SOK S n L) (C : t_Scenes) : ∃ C', X4_gather C S = some C' ∧ GIn S n C' := by
  have hn := hS.2.2.1
  have i10 : ¬ ((1 : Int32) = 0) := by decide
  obtain ⟨X, h1, h2⟩ := zl_up (body := b_X4_gather_12 S) (fun j v => v.2 = nI j ∧ GIn S j v.1) (fun X => GIn S n X) n
    (fun rec v h => by
      unfold b_X4_gather_12
      rw [h.1, hS.1, if_pos (nI_le (Nat.le_refl _) (by omega))]
      exact ⟨_, rfl, h.2⟩)
    (fun rec j v hj h k => by
      obtain ⟨hv, c1, c2, c3, c4, c5⟩ := h
      have hcl := hc_le S.2.2.1 j
      have hj60 : j < 60 := by omega
      have g0 : ¬ nI n ≤ nI j := nI_ge hj (by omega)
      have rj : ∀ (f : Rw) (x : Int32), rPut 60 f (nI j) x = upd f j x := fun f x => rPut_nI (by decide) f hj60 x
      unfold b_X4_gather_12 j_X4_gather_74 j_X4_gather_92 j_X4_gather_109
      by_cases h0 : S.2.2.1 j = 0
      · have rc : ∀ (f : Rw) (x : Int32), rPut 60 f (nI (hcN S.2.2.1 j)) x = upd f (hcN S.2.2.1 j) x := fun f x => rPut_nI (by decide) f (by omega) x
        have pc : ∀ (f : Rw) (x : Int32), rPlus 60 f (nI (hcN S.2.2.1 j)) x = upd f (hcN S.2.2.1 j) (f (hcN S.2.2.1 j) + x) := fun f x => rPlus_nI (by decide) f (by omega) x
        have g1 : ¬ nI (hcN S.2.2.1 j + 1) ≤ 0 := nI_nle (by omega) (by omega)
        have fin : ∀ (lc : Int32) (C' : t_Scenes), lc = nI (lkN S.2.2.2.2.2.2.1 (j + 1)) → C' = (nI (hcN S.2.2.1 j + 1), lc, v.1.2.2.1, upd v.1.2.2.2.1 (hcN S.2.2.1 j) (nI j), upd (upd v.1.2.2.2.2.1 (hcN S.2.2.1 j) 0) (hcN S.2.2.1 j) (upd v.1.2.2.2.2.1 (hcN S.2.2.1 j) 0 (hcN S.2.2.1 j) + 1), upd (upd v.1.2.2.2.2.2.1 (hcN S.2.2.1 j) 0) (hcN S.2.2.1 j) (upd v.1.2.2.2.2.2.1 (hcN S.2.2.1 j) 0 (hcN S.2.2.1 j) + X5_linesOf S (nI j)), v.1.2.2.2.2.2.2.1, v.1.2.2.2.2.2.2.2.1, v.1.2.2.2.2.2.2.2.2.1, v.1.2.2.2.2.2.2.2.2.2.1, upd v.1.2.2.2.2.2.2.2.2.2.2.1 j (nI (hcN S.2.2.1 j)), v.1.2.2.2.2.2.2.2.2.2.2.2) → GIn S (j + 1) C' := by
          intro lc C' e1 e2
          subst e2
          refine ⟨by rw [hc_s0 h0], e1, fun h hh hk => ?_, fun s hs => ?_, fun i hi => ?_⟩
          · by_cases e : h = j
            · subst e; exact pk_us
            · have := hc_lt (show h < j by omega) hk
              show upd _ _ _ _ = _
              rw [pk_un (by omega)]
              exact c3 h (by omega) hk
          · rw [hc_s0 h0] at hs
            show upd _ _ _ s = _ ∧ upd _ _ _ s = _
            by_cases e : s = hcN S.2.2.1 j
            · subst e
              rw [pk_us, pk_us, pk_us, pk_us, cn_s1 (hc_s0 h0), sm_s1 (hc_s0 h0), cn_0 (Nat.le_refl _), sm_0 (Nat.le_refl _)]
              exact ⟨rfl, rfl⟩
            · rw [pk_un e, pk_un e, pk_un e, pk_un e, cn_s0 (by rw [hc_s0 h0]; omega), sm_s0 (by rw [hc_s0 h0]; omega)]
              exact c4 s (by omega)
          · show upd _ _ _ i = _
            by_cases e : i = j
            · subst e
              rw [pk_us, hc_s0 h0, nI_pred]
            · rw [pk_un e]
              exact c5 i (by omega)
        by_cases hl : S.2.2.2.2.2.2.1 j = 0
        · simp only [zlet, hv, hS.1, c1, c2, g0, g1, nI_1, nI_pred, head_x hS hj, lock_x hS hj, h0, hl, i10, rj, rc, pc, if_true, if_false]
          exact k _ ⟨rfl, fin _ _ (by rw [lk_s0 hl]) rfl⟩
        · simp only [zlet, hv, hS.1, c1, c2, g0, g1, nI_1, nI_pred, head_x hS hj, lock_x hS hj, h0, hl, i10, rj, rc, pc, if_true, if_false]
          exact k _ ⟨rfl, fin _ _ (by rw [lk_s1 hl]) rfl⟩
      · have hl : S.2.2.2.2.2.2.1 j = 0 := by
          by_cases h5 : S.2.2.2.2.2.2.1 j = 0
          · exact h5
          · exact absurd ((hS.e hj).2.2.2.2.2.1 h5) h0
        by_cases hc : hcN S.2.2.1 j = 0
        · have g1 : nI 0 ≤ 0 := by decide
          simp only [zlet, hv, hS.1, c1, c2, hc, g0, g1, nI_1, nI_pred, head_x hS hj, lock_x hS hj, h0, hl, i10, rj, rPlus_m1, if_true, if_false]
          refine k _ ⟨rfl, by rw [hc_s1 h0, hc], by rw [lk_s0 hl], fun h hh hk => ?_, fun s hs => ?_, fun i hi => ?_⟩
          · have : h ≠ j := fun e => h0 (by rw [← e]; exact hk)
            exact c3 h (by omega) hk
          · rw [hc_s1 h0, hc] at hs
            exact absurd hs (Nat.not_lt_zero _)
          · show upd _ _ _ i = _
            by_cases e : i = j
            · subst e
              rw [pk_us, hc_s1 h0, hc]
              decide
            · rw [pk_un e]
              exact c5 i (by omega)
        · obtain ⟨c, hc2⟩ : ∃ c, hcN S.2.2.1 j = c + 1 := ⟨hcN S.2.2.1 j - 1, by omega⟩
          have pc : ∀ (f : Rw) (x : Int32), rPlus 60 f (nI c) x = upd f c (f c + x) := fun f x => rPlus_nI (by decide) f (by omega) x
          have g1 : ¬ nI (c + 1) ≤ 0 := nI_nle (by omega) (by omega)
          simp only [zlet, hv, hS.1, c1, c2, hc2, g0, g1, nI_1, nI_pred, head_x hS hj, lock_x hS hj, h0, hl, i10, rj, pc, if_true, if_false]
          refine k _ ⟨rfl, by rw [hc_s1 h0, hc2], by rw [lk_s0 hl], fun h hh hk => ?_, fun s hs => ?_, fun i hi => ?_⟩
          · have : h ≠ j := fun e => h0 (by rw [← e]; exact hk)
            exact c3 h (by omega) hk
          · rw [hc_s1 h0] at hs
            show upd _ _ _ s = _ ∧ upd _ _ _ s = _
            by_cases e : s = c
            · subst e
              rw [pk_us, pk_us, cn_s1 (by rw [hc_s1 h0, hc2]), sm_s1 (by rw [hc_s1 h0, hc2]), (c4 s hs).1, (c4 s hs).2, nI_1]
              exact ⟨rfl, rfl⟩
            · rw [pk_un e, pk_un e, cn_s0 (by rw [hc_s1 h0]; omega), sm_s0 (by rw [hc_s1 h0]; omega)]
              exact c4 s hs
          · show upd _ _ _ i = _
            by_cases e : i = j
            · subst e
              rw [pk_us, hc_s1 h0, hc2, nI_pred]
            · rw [pk_un e]
              exact c5 i (by omega))
    FU 0 ((0, 0, C.2.2.1, C.2.2.2.1, C.2.2.2.2.1, C.2.2.2.2.2.1, C.2.2.2.2.2.2.1, C.2.2.2.2.2.2.2.1, C.2.2.2.2.2.2.2.2.1, C.2.2.2.2.2.2.2.2.2.1, C.2.2.2.2.2.2.2.2.2.2.1, C.2.2.2.2.2.2.2.2.2.2.2), 0) (Nat.zero_le _) ⟨rfl, rfl, rfl, fun h hh => absurd hh (Nat.not_lt_zero _), fun h hh => absurd hh (Nat.not_lt_zero _), fun h hh => absurd hh (Nat.not_lt_zero _)⟩ (show n - 0 < 3000 by omega)
  refine ⟨X, ?_, h2⟩
  unfold X4_gather
  rw [h1, Option.bind_some]
theorem hm1_t {c : Nat} (hc : c ≤ 1000) : (nI c - 1 = -1) ↔ c = 0 := by
  constructor
  · intro h
    by_cases h0 : c = 0
    · exact h0
    · obtain ⟨d, rfl⟩ : ∃ d, c = d + 1 := ⟨c - 1, by omega⟩
      rw [nI_pred] at h
      exact absurd (show nI d < 0 by rw [h]; decide) (nI_pos (by omega))
  · intro h; rw [h]; decide
theorem carry_t (hS : SOK S n L) {C : t_Scenes} (hC : GIn S n C) : ∃ f, X4_findCarriedNames C S = some (C.1, C.2.1, nI (ctN (crN S.2.2.1 S.2.2.2.2.1) n), C.2.2.2.1, C.2.2.2.2.1, C.2.2.2.2.2.1, C.2.2.2.2.2.2.1, C.2.2.2.2.2.2.2.1, C.2.2.2.2.2.2.2.2.1, C.2.2.2.2.2.2.2.2.2.1, C.2.2.2.2.2.2.2.2.2.2.1, f) ∧ ∀ i, i < n → f i = if crN S.2.2.1 S.2.2.2.2.1 i = true then 1 else 0 := by
  have hn := hS.2.2.1
  have i10 : ¬ ((1 : Int32) = 0) := by decide
  obtain ⟨X, h1, f, hf, h2⟩ := zl_up (body := b_X4_findCarriedNames_9 S) (fun j v => ∃ f, v = ((C.1, C.2.1, nI (ctN (crN S.2.2.1 S.2.2.2.2.1) j), C.2.2.2.1, C.2.2.2.2.1, C.2.2.2.2.2.1, C.2.2.2.2.2.2.1, C.2.2.2.2.2.2.2.1, C.2.2.2.2.2.2.2.2.1, C.2.2.2.2.2.2.2.2.2.1, C.2.2.2.2.2.2.2.2.2.2.1, f), ltN S.2.2.1 S.2.2.2.2.1 j, nI j) ∧ ∀ i, i < j → f i = if crN S.2.2.1 S.2.2.2.2.1 i = true then 1 else 0) (fun X => ∃ f, X = (C.1, C.2.1, nI (ctN (crN S.2.2.1 S.2.2.2.2.1) n), C.2.2.2.1, C.2.2.2.2.1, C.2.2.2.2.2.1, C.2.2.2.2.2.2.1, C.2.2.2.2.2.2.2.1, C.2.2.2.2.2.2.2.2.1, C.2.2.2.2.2.2.2.2.2.1, C.2.2.2.2.2.2.2.2.2.2.1, f) ∧ ∀ i, i < n → f i = if crN S.2.2.1 S.2.2.2.2.1 i = true then 1 else 0) n
    (fun rec v h => by
      obtain ⟨f, rfl, hf⟩ := h
      unfold b_X4_findCarriedNames_9
      simp only [hS.1]
      rw [if_pos (nI_le (Nat.le_refl _) (by omega))]
      exact ⟨_, rfl, f, rfl, hf⟩)
    (fun rec j v hj h k => by
      obtain ⟨f, rfl, hf⟩ := h
      have hj60 : j < 60 := by omega
      have g0 : ¬ nI n ≤ nI j := nI_ge hj (by omega)
      have rj : ∀ (f : Rw) (x : Int32), rPut 60 f (nI j) x = upd f j x := fun f x => rPut_nI (by decide) f hj60 x
      have aj : ∀ (f : Rw), rAt 60 f (nI j) = f j := fun f => rAt_nI (by decide) f hj60
      have hm := hm1_t (c := hcN S.2.2.1 (j + 1)) (by have := hc_le S.2.2.1 (j + 1); omega)
      have hh := hC.2.2.2.2 j hj
      have up : ∀ x : Int32, x = (if crN S.2.2.1 S.2.2.2.2.1 j = true then 1 else 0) → ∀ i, i < j + 1 → upd f j x i = if crN S.2.2.1 S.2.2.2.2.1 i = true then 1 else 0 := by
        intro x hx i hi
        by_cases e : i = j
        · subst e; rw [pk_us]; exact hx
        · rw [pk_un e]; exact hf i (by omega)
      have e2 : ltN S.2.2.1 S.2.2.2.2.1 (j + 1) = if S.2.2.1 j = 0 then -1 else if S.2.2.2.2.1 j = -1 then ltN S.2.2.1 S.2.2.2.2.1 j else S.2.2.2.2.1 j := rfl
      have e3 : ctN (crN S.2.2.1 S.2.2.2.2.1) (j + 1) = ctN (crN S.2.2.1 S.2.2.2.2.1) j + (if crN S.2.2.1 S.2.2.2.2.1 j then 1 else 0) := rfl
      have k' : ∀ (x a b : Int32), x = (if crN S.2.2.1 S.2.2.2.2.1 j = true then 1 else 0) → a = nI (ctN (crN S.2.2.1 S.2.2.2.2.1) (j + 1)) → b = ltN S.2.2.1 S.2.2.2.2.1 (j + 1) → ∃ X, rec ((C.1, C.2.1, a, C.2.2.2.1, C.2.2.2.2.1, C.2.2.2.2.2.1, C.2.2.2.2.2.2.1, C.2.2.2.2.2.2.2.1, C.2.2.2.2.2.2.2.2.1, C.2.2.2.2.2.2.2.2.2.1, C.2.2.2.2.2.2.2.2.2.2.1, upd f j x), b, nI (j + 1)) = some X ∧ ∃ f, X = (C.1, C.2.1, nI (ctN (crN S.2.2.1 S.2.2.2.2.1) n), C.2.2.2.1, C.2.2.2.2.1, C.2.2.2.2.2.1, C.2.2.2.2.2.2.1, C.2.2.2.2.2.2.2.1, C.2.2.2.2.2.2.2.2.1, C.2.2.2.2.2.2.2.2.2.1, C.2.2.2.2.2.2.2.2.2.2.1, f) ∧ ∀ i, i < n → f i = if crN S.2.2.1 S.2.2.2.2.1 i = true then 1 else 0 := by
        intro x a b hx ha hb
        subst ha; subst hb
        exact k _ ⟨upd f j x, rfl, up x hx⟩
      unfold b_X4_findCarriedNames_9 j_X4_findCarriedNames_55 j_X4_findCarriedNames_56 j_X4_findCarriedNames_73 j_X4_findCarriedNames_91
      by_cases a1 : S.2.2.2.2.1 j = -1
      · have ec : crN S.2.2.1 S.2.2.2.2.1 j = false := by simp [crN, a1]
        by_cases a4 : S.2.2.1 j = 0 <;> simp only [zlet, hS.1, g0, aj, rj, head_x hS hj, nI_1, hh, hm, a1, a4, i10, if_true, if_false] <;> exact k' _ _ _ (by rw [ec]; rfl) (by rw [e3, ec]; rfl) (by rw [e2]; simp [a1, a4])
      · by_cases a2 : S.2.2.2.2.1 j = ltN S.2.2.1 S.2.2.2.2.1 j
        · by_cases a3 : hcN S.2.2.1 (j + 1) = 0
          · have ec : crN S.2.2.1 S.2.2.2.2.1 j = false := by simp [crN, a3]
            by_cases a4 : S.2.2.1 j = 0 <;> simp only [zlet, hS.1, g0, aj, rj, head_x hS hj, nI_1, hh, hm, a1, ← a2, a3, a4, i10, if_true, if_false] <;> exact k' _ _ _ (by rw [ec]; rfl) (by rw [e3, ec]; rfl) (by rw [e2]; simp [a1, a4])
          · have ec : crN S.2.2.1 S.2.2.2.2.1 j = true := by simp [crN, a1, ← a2, a3]
            by_cases a4 : S.2.2.1 j = 0 <;> simp only [zlet, hS.1, g0, aj, rj, head_x hS hj, nI_1, hh, hm, a1, ← a2, a3, a4, i10, if_true, if_false] <;> exact k' _ _ _ (by rw [ec]; rfl) (by rw [e3, ec]; rfl) (by rw [e2]; simp [a1, a4])
        · have ec : crN S.2.2.1 S.2.2.2.2.1 j = false := by simp [crN, a2]
          by_cases a4 : S.2.2.1 j = 0 <;> simp only [zlet, hS.1, g0, aj, rj, head_x hS hj, nI_1, hh, hm, a1, a2, a4, i10, if_true, if_false] <;> exact k' _ _ _ (by rw [ec]; rfl) (by rw [e3, ec]; rfl) (by rw [e2]; simp [a1, a4]))
    FU 0 ((C.1, C.2.1, 0, C.2.2.2.1, C.2.2.2.2.1, C.2.2.2.2.2.1, C.2.2.2.2.2.2.1, C.2.2.2.2.2.2.2.1, C.2.2.2.2.2.2.2.2.1, C.2.2.2.2.2.2.2.2.2.1, C.2.2.2.2.2.2.2.2.2.2.1, C.2.2.2.2.2.2.2.2.2.2.2), -1, 0) (Nat.zero_le _) ⟨C.2.2.2.2.2.2.2.2.2.2.2, rfl, fun h hh => absurd hh (Nat.not_lt_zero _)⟩ (show n - 0 < 3000 by omega)
  refine ⟨f, ?_, h2⟩
  unfold X4_findCarriedNames
  rw [h1, Option.bind_some, hf]
def lmN (S : t_Script) (n y : Nat) : Int32 := if y < n then S.2.2.2.2.2.2.2.1 y else -1
theorem limits_t (hS : SOK S n L) {C : t_Scenes} (hC : GIn S n C) : ∃ f, X4_findLimits C S = some (C.1, C.2.1, C.2.2.1, C.2.2.2.1, C.2.2.2.2.1, C.2.2.2.2.2.1, C.2.2.2.2.2.2.1, C.2.2.2.2.2.2.2.1, C.2.2.2.2.2.2.2.2.1, f, C.2.2.2.2.2.2.2.2.2.2.1, C.2.2.2.2.2.2.2.2.2.2.2) ∧ ∀ h, h < n → S.2.2.1 h = 0 → f (hcN S.2.2.1 h) = lmN S n (ysN S.2.2.2.2.2.2.1 n (h + 1)) := by
  have hn := hS.2.2.1
  have i10 : ¬ ((1 : Int32) = 0) := by decide
  have hcl := hc_le S.2.2.1 n
  have hlk : ∀ i, i < n → S.2.2.2.2.2.2.1 i ≠ 0 → S.2.2.1 i = 0 := fun i hi h => (hS.e hi).2.2.2.2.2.1 h
  obtain ⟨X, h1, f, hf, h2⟩ := zl_dn (body := b_X4_findLimits_9 S) (fun s v => s ≤ hcN S.2.2.1 n ∧ ∃ f lim, v = ((C.1, C.2.1, C.2.2.1, C.2.2.2.1, C.2.2.2.2.1, C.2.2.2.2.2.1, C.2.2.2.2.2.2.1, C.2.2.2.2.2.2.2.1, C.2.2.2.2.2.2.2.2.1, f, C.2.2.2.2.2.2.2.2.2.2.1, C.2.2.2.2.2.2.2.2.2.2.2), lim, nI s - 1) ∧ (∃ j, j ≤ n ∧ hcN S.2.2.1 j = s ∧ lim = lmN S n (ysN S.2.2.2.2.2.2.1 n j)) ∧ ∀ h, h < n → S.2.2.1 h = 0 → s ≤ hcN S.2.2.1 h → f (hcN S.2.2.1 h) = lmN S n (ysN S.2.2.2.2.2.2.1 n (h + 1))) (fun X => ∃ f, X = (C.1, C.2.1, C.2.2.1, C.2.2.2.1, C.2.2.2.2.1, C.2.2.2.2.2.1, C.2.2.2.2.2.2.1, C.2.2.2.2.2.2.2.1, C.2.2.2.2.2.2.2.2.1, f, C.2.2.2.2.2.2.2.2.2.2.1, C.2.2.2.2.2.2.2.2.2.2.2) ∧ ∀ h, h < n → S.2.2.1 h = 0 → f (hcN S.2.2.1 h) = lmN S n (ysN S.2.2.2.2.2.2.1 n (h + 1)))
    (fun rec v h => by
      obtain ⟨-, f, lim, rfl, -, hf⟩ := h
      unfold b_X4_findLimits_9
      rw [if_pos (show nI 0 - 1 < 0 by decide)]
      exact ⟨_, rfl, f, rfl, fun h a b => hf h a b (Nat.zero_le _)⟩)
    (fun rec s v h k => by
      obtain ⟨hs, f, lim, rfl, ⟨j, hj1, hj2, hj3⟩, hf⟩ := h
      obtain ⟨h, hh1, hh2, hh3⟩ := hc_ex (show s < hcN S.2.2.1 n by omega)
      have g0 : ¬ nI s < 0 := nI_pos (by omega)
      have rs : ∀ (f : Rw) (x : Int32), rPut 60 f (nI s) x = upd f s x := fun f x => rPut_nI (by decide) f (by omega) x
      have as : rAt 60 C.2.2.2.1 (nI s) = nI h := by rw [rAt_nI (by decide) _ (by omega), ← hh3]; exact hC.2.2.1 h hh1 hh2
      have al : rAt 60 S.2.2.2.2.2.2.2.1 (nI h) = S.2.2.2.2.2.2.2.1 h := rAt_nI (by decide) _ (by omega)
      have hc1 : hcN S.2.2.1 (h + 1) = s + 1 := by rw [hc_s0 hh2, hh3]
      have ej : lmN S n (ysN S.2.2.2.2.2.2.1 n j) = lmN S n (ysN S.2.2.2.2.2.2.1 n (h + 1)) := by
        by_cases hle : j ≤ h + 1
        · rw [(xs_same hlk hle (by omega) (by rw [hj2, hc1])).2.2]
        · rw [(xs_same hlk (show h + 1 ≤ j by omega) hj1 (by rw [hj2, hc1])).2.2]
      have up : ∀ h', h' < n → S.2.2.1 h' = 0 → s ≤ hcN S.2.2.1 h' → upd f s lim (hcN S.2.2.1 h') = lmN S n (ysN S.2.2.2.2.2.2.1 n (h' + 1)) := by
        intro h' a b c
        by_cases e : hcN S.2.2.1 h' = s
        · have : h' = h := hc_inj b hh2 (by rw [e, hh3])
          subst this
          rw [e, pk_us, hj3, ej]
        · rw [pk_un e]
          exact hf h' a b (by omega)
      unfold b_X4_findLimits_9
      by_cases hl : S.2.2.2.2.2.2.1 h = 0
      · simp only [zlet, nI_pred, g0, rs, as, al, lock_x hS hh1, hl, im1, i10, if_true, if_false]
        exact k _ ⟨by omega, _, _, rfl, ⟨h, by omega, hh3, by rw [hj3, ej, ys_s0 hh1 hl]⟩, up⟩
      · simp only [zlet, nI_pred, g0, rs, as, al, lock_x hS hh1, hl, im1, i10, if_true, if_false]
        exact k _ ⟨by omega, _, _, rfl, ⟨h, by omega, hh3, by rw [ys_s1 hh1 hl]; unfold lmN; rw [if_pos hh1]⟩, up⟩)
    FU (hcN S.2.2.1 n) (C, -1, nI (hcN S.2.2.1 n) - 1) ⟨Nat.le_refl _, C.2.2.2.2.2.2.2.2.2.1, -1, rfl, ⟨n, Nat.le_refl _, rfl, by rw [ys_n]; unfold lmN; rw [if_neg (Nat.lt_irrefl _)]⟩, fun h a b c => by
      have := hc_lt a b
      omega⟩ (show hcN S.2.2.1 n < 3000 by omega)
  refine ⟨f, ?_, h2⟩
  unfold X4_findLimits
  show (zloop (b_X4_findLimits_9 S) FU (C, -1, C.1 - 1)).bind (fun q8 => some q8) = _
  rw [show C.1 - 1 = nI (hcN S.2.2.1 n) - 1 by rw [hC.1], h1, Option.bind_some, hf]
theorem slabel_t (hS : SOK S n L) {C : t_Scenes} (hC : GIn S n C) (hlim : ∀ h, h < n → S.2.2.1 h = 0 → C.2.2.2.2.2.2.2.2.2.1 (hcN S.2.2.1 h) = lmN S n (ysN S.2.2.2.2.2.2.1 n (h + 1))) : ∃ fa fb fc, X4_label C S = some (C.1, C.2.1, C.2.2.1, C.2.2.2.1, C.2.2.2.2.1, C.2.2.2.2.2.1, fa, fb, fc, C.2.2.2.2.2.2.2.2.2.1, C.2.2.2.2.2.2.2.2.2.2.1, C.2.2.2.2.2.2.2.2.2.2.2) ∧ ∀ h, h < n → S.2.2.1 h = 0 → fa (hcN S.2.2.1 h) = lbA S n h ∧ fb (hcN S.2.2.1 h) = lbB S n h ∧ fc (hcN S.2.2.1 h) = lbC S n h := by
  have hn := hS.2.2.1
  have i10 : ¬ ((1 : Int32) = 0) := by decide
  have hcl := hc_le S.2.2.1 n
  have hlk : ∀ i, i < n → S.2.2.2.2.2.2.1 i ≠ 0 → S.2.2.1 i = 0 := fun i hi h => (hS.e hi).2.2.2.2.2.1 h
  obtain ⟨X, h1, fa, fb, fc, hf, h2⟩ := zl_up (body := b_X4_label_13 S)
    (fun s v => ∃ fa fb fc a b c k, v = ((C.1, C.2.1, C.2.2.1, C.2.2.2.1, C.2.2.2.2.1, C.2.2.2.2.2.1, fa, fb, fc, C.2.2.2.2.2.2.2.2.2.1, C.2.2.2.2.2.2.2.2.2.2.1, C.2.2.2.2.2.2.2.2.2.2.2), a, b, c, k, nI s) ∧ (∃ j, j ≤ n ∧ hcN S.2.2.1 j = s ∧ a = (if xsN S.2.2.2.2.2.2.1 j = 0 then 0 else S.2.2.2.2.2.2.2.1 (xsN S.2.2.2.2.2.2.1 j - 1)) ∧ b = (if xsN S.2.2.2.2.2.2.1 j = 0 then 0 else S.2.2.2.2.2.2.2.2.1 (xsN S.2.2.2.2.2.2.1 j - 1)) ∧ c = (if xsN S.2.2.2.2.2.2.1 j = 0 then 0 else S.2.2.2.2.2.2.2.2.2 (xsN S.2.2.2.2.2.2.1 j - 1)) ∧ k = nI (ksN S.2.2.1 S.2.2.2.2.2.2.1 j)) ∧ ∀ h, h < n → S.2.2.1 h = 0 → hcN S.2.2.1 h < s → fa (hcN S.2.2.1 h) = lbA S n h ∧ fb (hcN S.2.2.1 h) = lbB S n h ∧ fc (hcN S.2.2.1 h) = lbC S n h)
    (fun X => ∃ fa fb fc, X = (C.1, C.2.1, C.2.2.1, C.2.2.2.1, C.2.2.2.2.1, C.2.2.2.2.2.1, fa, fb, fc, C.2.2.2.2.2.2.2.2.2.1, C.2.2.2.2.2.2.2.2.2.2.1, C.2.2.2.2.2.2.2.2.2.2.2) ∧ ∀ h, h < n → S.2.2.1 h = 0 → fa (hcN S.2.2.1 h) = lbA S n h ∧ fb (hcN S.2.2.1 h) = lbB S n h ∧ fc (hcN S.2.2.1 h) = lbC S n h) (hcN S.2.2.1 n)
    (fun rec v h => by
      obtain ⟨fa, fb, fc, a, b, c, k, rfl, -, hf⟩ := h
      unfold b_X4_label_13
      rw [if_pos (show C.1 ≤ nI (hcN S.2.2.1 n) by rw [hC.1]; exact nI_le (Nat.le_refl _) (by omega))]
      exact ⟨_, rfl, fa, fb, fc, rfl, fun h x y => hf h x y (hc_lt x y)⟩)
    (fun rec s v hs hI k => by
      obtain ⟨fa, fb, fc, a, b, c, kk, rfl, ⟨j, hj1, hj2, ha, hb, hc, hk⟩, hf⟩ := hI
      obtain ⟨h, hh1, hh2, hh3⟩ := hc_ex hs
      have hjh : j ≤ h := by
        by_cases e : h < j
        · have := hc_lt e hh2; omega
        · omega
      obtain ⟨s1, s2, s3⟩ := xs_same hlk hjh (by omega) (by rw [hj2, hh3])
      rw [← s1] at ha hb hc
      rw [← s2] at hk
      have g0 : ¬ C.1 ≤ nI s := by rw [hC.1]; exact nI_ge hs (by omega)
      have rs : ∀ (f : Rw) (x : Int32), rPut 60 f (nI s) x = upd f s x := fun f x => rPut_nI (by decide) f (by omega) x
      have as : rAt 60 C.2.2.2.1 (nI s) = nI h := by rw [rAt_nI (by decide) _ (by omega), ← hh3]; exact hC.2.2.1 h hh1 hh2
      have al : ∀ f : Rw, rAt 60 f (nI h) = f h := fun f => rAt_nI (by decide) _ (by omega)
      have hc1 : hcN S.2.2.1 (h + 1) = s + 1 := by rw [hc_s0 hh2, hh3]
      have alim : rAt 60 C.2.2.2.2.2.2.2.2.2.1 (nI s) = lmN S n (ysN S.2.2.2.2.2.2.1 n (h + 1)) := by rw [rAt_nI (by decide) _ (by omega), ← hh3]; exact hlim h hh1 hh2
      have fin : ∀ x y z a' b' c' k' : Int32, x = lbA S n h → y = lbB S n h → z = lbC S n h → a' = (if xsN S.2.2.2.2.2.2.1 (h + 1) = 0 then 0 else S.2.2.2.2.2.2.2.1 (xsN S.2.2.2.2.2.2.1 (h + 1) - 1)) → b' = (if xsN S.2.2.2.2.2.2.1 (h + 1) = 0 then 0 else S.2.2.2.2.2.2.2.2.1 (xsN S.2.2.2.2.2.2.1 (h + 1) - 1)) → c' = (if xsN S.2.2.2.2.2.2.1 (h + 1) = 0 then 0 else S.2.2.2.2.2.2.2.2.2 (xsN S.2.2.2.2.2.2.1 (h + 1) - 1)) → k' = nI (ksN S.2.2.1 S.2.2.2.2.2.2.1 (h + 1)) →
          ∃ X, rec ((C.1, C.2.1, C.2.2.1, C.2.2.2.1, C.2.2.2.2.1, C.2.2.2.2.2.1, upd fa s x, upd fb s y, upd fc s z, C.2.2.2.2.2.2.2.2.2.1, C.2.2.2.2.2.2.2.2.2.2.1, C.2.2.2.2.2.2.2.2.2.2.2), a', b', c', k', nI (s + 1)) = some X ∧ ∃ fa fb fc, X = (C.1, C.2.1, C.2.2.1, C.2.2.2.1, C.2.2.2.2.1, C.2.2.2.2.2.1, fa, fb, fc, C.2.2.2.2.2.2.2.2.2.1, C.2.2.2.2.2.2.2.2.2.2.1, C.2.2.2.2.2.2.2.2.2.2.2) ∧ ∀ h, h < n → S.2.2.1 h = 0 → fa (hcN S.2.2.1 h) = lbA S n h ∧ fb (hcN S.2.2.1 h) = lbB S n h ∧ fc (hcN S.2.2.1 h) = lbC S n h := by
        intro x y z a' b' c' k' hx hy hz ha' hb' hc' hk'
        refine k _ ⟨_, _, _, _, _, _, _, rfl, ⟨h + 1, by omega, hc1, ha', hb', hc', hk'⟩, fun h' u1 u2 u3 => ?_⟩
        by_cases e : hcN S.2.2.1 h' = s
        · have : h' = h := hc_inj u2 hh2 (by rw [e, hh3])
          subst this
          rw [e, pk_us, pk_us, pk_us]
          exact ⟨hx, hy, hz⟩
        · rw [pk_un e, pk_un e, pk_un e]
          exact hf h' u1 u2 (by omega)
      unfold b_X4_label_13 X4_labelOpen X4_putLabel
      by_cases hl : S.2.2.2.2.2.2.1 h = 0
      case neg =>
        simp only [zlet, g0, rs, as, al, lock_x hS hh1, hl, nI_1, i10, if_true, if_false]
        refine fin _ _ _ _ _ _ _ ?_ ?_ ?_ ?_ ?_ ?_ ?_
        · unfold lbA; rw [if_neg hl]
        · unfold lbB; rw [if_neg hl]
        · unfold lbC; rw [if_neg hl]
        · rw [xs_s1 hl, if_neg (by omega)]; rfl
        · rw [xs_s1 hl, if_neg (by omega)]; rfl
        · rw [xs_s1 hl, if_neg (by omega)]; rfl
        · rw [ks_s1 hl]; rfl
      have hkk : kk + 1 = nI (ksN S.2.2.1 S.2.2.2.2.2.2.1 (h + 1)) := by rw [hk, nI_1, ks_s0 hl hh2]
      have hlm : lmN S n (ysN S.2.2.2.2.2.2.1 n (h + 1)) = lmN S n (ysN S.2.2.2.2.2.2.1 n h) := by rw [ys_s0 hh1 hl]
      have hll := lk_le S.2.2.2.2.2.2.1 n
      have h0 : (nI (lkN S.2.2.2.2.2.2.1 n) = 0) ↔ (xsN S.2.2.2.2.2.2.1 h = 0 ∧ ysN S.2.2.2.2.2.2.1 n h = n) := by
        rw [← lk_none (lk := S.2.2.2.2.2.2.1) (n := n) (i := h) (by omega)]
        exact nI_eq (b := 0) (by omega) (by omega)
      obtain ⟨y1, y2, y3, y4⟩ := ys_fact S.2.2.2.2.2.2.1 n _ h rfl (by omega)
      have ane : a ≠ -1 := by
        rw [ha]
        by_cases hx : xsN S.2.2.2.2.2.2.1 h = 0
        · rw [if_pos hx]; decide
        · rw [if_neg hx]
          have := xs_le S.2.2.2.2.2.2.1 h
          exact (hS.e (show xsN S.2.2.2.2.2.2.1 h - 1 < n by omega)).2.2.2.2.2.2 (xs_lk S.2.2.2.2.2.2.1 h hx)
      have hi : (lmN S n (ysN S.2.2.2.2.2.2.1 n h) = a) ↔ (ysN S.2.2.2.2.2.2.1 n h < n ∧ S.2.2.2.2.2.2.2.1 (ysN S.2.2.2.2.2.2.1 n h) = a) := by
        unfold lmN
        by_cases hy : ysN S.2.2.2.2.2.2.1 n h < n
        · rw [if_pos hy]; simp [hy]
        · rw [if_neg hy]; simp [hy]; exact fun e => ane e.symm
      have e1 : lbA S n h = if nI (lkN S.2.2.2.2.2.2.1 n) = 0 then kk + 1 else a := by
        unfold lbA
        rw [if_pos hl, hkk, ha]
        by_cases z : nI (lkN S.2.2.2.2.2.2.1 n) = 0
        · rw [if_pos z, if_pos (h0.mp z)]
        · rw [if_neg z, if_neg (fun h => z (h0.mpr h))]
      have e2 : lbB S n h = if nI (lkN S.2.2.2.2.2.2.1 n) = 0 then 0 else if lmN S n (ysN S.2.2.2.2.2.2.1 n h) = a then b else b + (kk + 1) := by
        unfold lbB
        rw [if_pos hl, hkk, hb, ← ha]
        by_cases z : nI (lkN S.2.2.2.2.2.2.1 n) = 0
        · rw [if_pos z, if_pos (h0.mp z)]
        · rw [if_neg z, if_neg (fun h => z (h0.mpr h))]
          by_cases w : lmN S n (ysN S.2.2.2.2.2.2.1 n h) = a
          · rw [if_pos w, if_pos (hi.mp w)]
          · rw [if_neg w, if_neg (fun h => w (hi.mpr h))]
      have e3 : lbC S n h = if nI (lkN S.2.2.2.2.2.2.1 n) = 0 then 0 else if lmN S n (ysN S.2.2.2.2.2.2.1 n h) = a then c + (kk + 1) else 0 := by
        unfold lbC
        rw [if_pos hl, hkk, hc, ← ha]
        by_cases z : nI (lkN S.2.2.2.2.2.2.1 n) = 0
        · rw [if_pos z, if_pos (h0.mp z)]
        · rw [if_neg z, if_neg (fun h => z (h0.mpr h))]
          by_cases w : lmN S n (ysN S.2.2.2.2.2.2.1 n h) = a
          · rw [if_pos w, if_pos (hi.mp w)]
          · rw [if_neg w, if_neg (fun h => w (hi.mpr h))]
      have fin2 := fun x y z hx hy hz => fin x y z a b c (kk + 1) hx hy hz (by rw [xs_s0 hl]; exact ha) (by rw [xs_s0 hl]; exact hb) (by rw [xs_s0 hl]; exact hc) hkk
      by_cases z : nI (lkN S.2.2.2.2.2.2.1 n) = 0
      · have zc : C.2.1 = 0 := by rw [hC.2.1]; exact z
        simp only [zlet, if_pos zc, g0, rs, as, al, lock_x hS hh1, hl, nI_1, i10, if_true, if_false]
        exact fin2 _ _ _ (by rw [e1, if_pos z]) (by rw [e2, if_pos z]) (by rw [e3, if_pos z])
      · have zc : ¬ C.2.1 = 0 := by rw [hC.2.1]; exact z
        by_cases w : lmN S n (ysN S.2.2.2.2.2.2.1 n h) = a
        · simp only [zlet, zc, g0, rs, as, al, alim, hlm, w, lock_x hS hh1, hl, nI_1, i10, if_true, if_false]
          exact fin2 _ _ _ (by rw [e1, if_neg z]) (by rw [e2, if_neg z, if_pos w]) (by rw [e3, if_neg z, if_pos w])
        · simp only [zlet, zc, g0, rs, as, al, alim, hlm, w, lock_x hS hh1, hl, nI_1, i10, if_true, if_false]
          exact fin2 _ _ _ (by rw [e1, if_neg z]) (by rw [e2, if_neg z, if_neg w]) (by rw [e3, if_neg z, if_neg w]))
    FU 0 (C, 0, 0, 0, 0, 0) (Nat.zero_le _) ⟨C.2.2.2.2.2.2.1, C.2.2.2.2.2.2.2.1, C.2.2.2.2.2.2.2.2.1, 0, 0, 0, 0, rfl, ⟨0, Nat.zero_le _, rfl, rfl, rfl, rfl, rfl⟩, fun h a b c => absurd c (Nat.not_lt_zero _)⟩ (show hcN S.2.2.1 n - 0 < 3000 by omega)
  refine ⟨fa, fb, fc, ?_, h2⟩
  unfold X4_label
  rw [h1, Option.bind_some, hf]
/-- all that is noted of the scenes -/
def CSok (C : t_Scenes) (S : t_Script) (n : Nat) : Prop :=
  C.1 = nI (hcN S.2.2.1 n) ∧ C.2.1 = nI (lkN S.2.2.2.2.2.2.1 n) ∧ C.2.2.1 = nI (ctN (crN S.2.2.1 S.2.2.2.2.1) n) ∧
  (∀ h, h < n → S.2.2.1 h = 0 → C.2.2.2.1 (hcN S.2.2.1 h) = nI h ∧ C.2.2.2.2.2.2.1 (hcN S.2.2.1 h) = lbA S n h ∧ C.2.2.2.2.2.2.2.1 (hcN S.2.2.1 h) = lbB S n h ∧ C.2.2.2.2.2.2.2.2.1 (hcN S.2.2.1 h) = lbC S n h) ∧
  (∀ s, s < hcN S.2.2.1 n → C.2.2.2.2.1 s = nI (cnN S.2.2.1 s n) ∧ C.2.2.2.2.2.1 s = smN S s n) ∧
  (∀ i, i < n → C.2.2.2.2.2.2.2.2.2.2.1 i = nI (hcN S.2.2.1 (i + 1)) - 1 ∧ C.2.2.2.2.2.2.2.2.2.2.2 i = if crN S.2.2.1 S.2.2.2.2.1 i = true then 1 else 0)
theorem survey_t (hS : SOK S n L) (C : t_Scenes) : ∃ C', X4_survey C S = some C' ∧ CSok C' S n := by
  obtain ⟨C1, h1, g1⟩ := gather_t hS C
  obtain ⟨f, h2, g2⟩ := carry_t hS g1
  have k2 : GIn S n (C1.1, C1.2.1, nI (ctN (crN S.2.2.1 S.2.2.2.2.1) n), C1.2.2.2.1, C1.2.2.2.2.1, C1.2.2.2.2.2.1, C1.2.2.2.2.2.2.1, C1.2.2.2.2.2.2.2.1, C1.2.2.2.2.2.2.2.2.1, C1.2.2.2.2.2.2.2.2.2.1, C1.2.2.2.2.2.2.2.2.2.2.1, f) := g1
  obtain ⟨f3, h3, g3⟩ := limits_t hS k2
  have k3 : GIn S n (C1.1, C1.2.1, nI (ctN (crN S.2.2.1 S.2.2.2.2.1) n), C1.2.2.2.1, C1.2.2.2.2.1, C1.2.2.2.2.2.1, C1.2.2.2.2.2.2.1, C1.2.2.2.2.2.2.2.1, C1.2.2.2.2.2.2.2.2.1, f3, C1.2.2.2.2.2.2.2.2.2.2.1, f) := g1
  obtain ⟨fa, fb, fc, h4, g4⟩ := slabel_t hS k3 g3
  refine ⟨(C1.1, C1.2.1, nI (ctN (crN S.2.2.1 S.2.2.2.2.1) n), C1.2.2.2.1, C1.2.2.2.2.1, C1.2.2.2.2.2.1, fa, fb, fc, f3, C1.2.2.2.2.2.2.2.2.2.2.1, f), ?_, g1.1, g1.2.1, rfl, fun h a b => ⟨g1.2.2.1 h a b, g4 h a b⟩, g1.2.2.2.1, fun i hi => ⟨g1.2.2.2.2 i hi, g2 i hi⟩⟩
  unfold X4_survey
  rw [h1, Option.bind_some, h2, Option.bind_some, h3, Option.bind_some, h4, Option.bind_some]
end MS

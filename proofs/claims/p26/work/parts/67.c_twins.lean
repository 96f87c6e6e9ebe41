-- twins
theorem below_ex {x : Int32} {N : Nat} (hN : N < 1000) (h : ¬ X6_isBelow x (nI N) = 0) : ∃ j, j < N ∧ x = nI j := by
  unfold X6_isBelow at h
  by_cases h0 : x < 0
  · rw [if_pos h0] at h; exact absurd rfl h
  · rw [if_neg h0] at h
    by_cases h1 : nI N ≤ x
    · rw [if_pos h1] at h; exact absurd rfl h
    · obtain ⟨j, hj, rfl⟩ := nI_of h0
      rw [nI_leI (by omega) hj] at h1
      exact ⟨j, by omega, rfl⟩
section MI
variable {S : t_Script} {n L : Nat} {C : t_Scenes}
theorem has_ex (hS : SOK S n L) {p : Int32} (h : ¬ X5_has S p = 0) : ∃ i, i < n ∧ p = nI i := by
  have hn := hS.2.2.1
  unfold X5_has at h
  rw [hS.1] at h
  exact below_ex (by omega) h
def TW (S : t_Script) (n h k : Nat) : Prop := lbA S n h = lbA S n k ∧ lbB S n h = lbB S n k ∧ lbC S n h = lbC S n k
def DUP (S : t_Script) (n : Nat) : Prop := ∃ h k, k < h ∧ h < n ∧ S.2.2.1 h = 0 ∧ S.2.2.1 k = 0 ∧ TW S n h k
theorem twin_x (hS : SOK S n L) (hC : CSok C S n) {h k : Nat} (hh : h < n) (hk : k < n) (a : S.2.2.1 h = 0) (b : S.2.2.1 k = 0) : (TW S n h k → X4_areTwins C (nI (hcN S.2.2.1 h)) (nI (hcN S.2.2.1 k)) = 1) ∧ (¬ TW S n h k → X4_areTwins C (nI (hcN S.2.2.1 h)) (nI (hcN S.2.2.1 k)) = 0) := by
  have hn := hS.2.2.1
  have e : ∀ (f : Rw) (s : Nat), s < n → rAt 60 f (nI (hcN S.2.2.1 s)) = f (hcN S.2.2.1 s) := fun f s hs => rAt_nI (by decide) f (by have := hc_le S.2.2.1 s; omega)
  obtain ⟨-, x1, x2, x3⟩ := hC.2.2.2.1 h hh a
  obtain ⟨-, y1, y2, y3⟩ := hC.2.2.2.1 k hk b
  unfold X4_areTwins TW
  simp only [zlet_e]
  rw [e _ h hh, e _ k hk, e _ h hh, e _ k hk, e _ h hh, e _ k hk, x1, x2, x3, y1, y2, y3]
  by_cases c1 : lbA S n h = lbA S n k <;> by_cases c2 : lbB S n h = lbB S n k <;> by_cases c3 : lbC S n h = lbC S n k <;> simp [c1, c2, c3]
theorem hc_rev {kd : Rw} {h k : Nat} (a : hcN kd k < hcN kd h) : k < h := by
  by_cases c : k < h
  · exact c
  · have := hc_mono kd (i := h) (j := k) (by omega)
    omega
theorem hasTwins_t (hS : SOK S n L) (hC : CSok C S n) : ∃ r, X4_hasTwins C = some r ∧ ((r = 1 ∧ DUP S n) ∨ (r = 0 ∧ ¬ DUP S n)) := by
  have hn := hS.2.2.1
  have hcl := hc_le S.2.2.1 n
  have inner : ∀ h, h < n → S.2.2.1 h = 0 → ∃ X, zloop (b_X4_hasTwins_12 C (nI (hcN S.2.2.1 h))) FU 0 = some X ∧ ((X = .inl () ∧ ∀ k, k < h → S.2.2.1 k = 0 → ¬ TW S n h k) ∨ (X = .inr 1 ∧ ∃ k, k < h ∧ S.2.2.1 k = 0 ∧ TW S n h k)) := by
    intro h hh a
    have hhl := hc_le S.2.2.1 h
    exact zl_up (body := b_X4_hasTwins_12 C (nI (hcN S.2.2.1 h))) (fun j v => v = nI j ∧ ∀ k, k < n → S.2.2.1 k = 0 → hcN S.2.2.1 k < j → ¬ TW S n h k) _ (hcN S.2.2.1 h)
      (fun rec v hv => by
        obtain ⟨rfl, hv⟩ := hv
        unfold b_X4_hasTwins_12
        rw [if_pos (nI_le (Nat.le_refl _) (by omega))]
        exact ⟨_, rfl, Or.inl ⟨rfl, fun k hk b => hv k (by omega) b (hc_lt hk b)⟩⟩)
      (fun rec j v hj hv kk => by
        obtain ⟨rfl, hv⟩ := hv
        obtain ⟨k, k1, k2, k3⟩ := hc_ex (Nat.lt_trans hj (hc_lt hh a))
        obtain ⟨t1, t2⟩ := twin_x hS hC hh k1 a k2
        unfold b_X4_hasTwins_12
        simp only [zlet_e, nI_1]
        rw [if_neg (nI_ge hj (by omega)), ← k3]
        by_cases c : TW S n h k
        · rw [t1 c, if_neg (by decide)]
          exact ⟨_, rfl, Or.inr ⟨rfl, k, hc_rev (kd := S.2.2.1) (by omega), k2, c⟩⟩
        · rw [t2 c, if_pos rfl, k3]
          refine kk _ ⟨rfl, fun k' b1 b2 b3 => ?_⟩
          by_cases e : hcN S.2.2.1 k' = j
          · rw [hc_inj b2 k2 (by omega)]; exact c
          · exact hv k' b1 b2 (by omega))
      FU 0 0 (Nat.zero_le _) ⟨rfl, fun k b1 b2 b3 => absurd b3 (Nat.not_lt_zero _)⟩ (show hcN S.2.2.1 h - 0 < 3000 by omega)
  obtain ⟨X, h1, h2⟩ := zl_up (body := b_X4_hasTwins_2 C) (fun j v => v = nI j ∧ ∀ h, h < n → S.2.2.1 h = 0 → hcN S.2.2.1 h < j → ∀ k, k < h → S.2.2.1 k = 0 → ¬ TW S n h k) (fun X => (X = .inl () ∧ ¬ DUP S n) ∨ (X = .inr 1 ∧ DUP S n)) (hcN S.2.2.1 n)
    (fun rec v hv => by
      obtain ⟨rfl, hv⟩ := hv
      unfold b_X4_hasTwins_2
      rw [if_pos (show C.1 ≤ _ by rw [hC.1]; exact nI_le (Nat.le_refl _) (by omega))]
      refine ⟨_, rfl, Or.inl ⟨rfl, ?_⟩⟩
      rintro ⟨h, k, b1, b2, b3, b4, b5⟩
      exact hv h b2 b3 (hc_lt b2 b3) k b1 b4 b5)
    (fun rec j v hj hv kk => by
      obtain ⟨rfl, hv⟩ := hv
      obtain ⟨h, k1, k2, k3⟩ := hc_ex hj
      obtain ⟨X, x1, x2⟩ := inner h k1 k2
      unfold b_X4_hasTwins_2
      rw [if_neg (show ¬ C.1 ≤ _ by rw [hC.1]; exact nI_ge hj (by omega)), ← k3, x1, Option.bind_some]
      rcases x2 with ⟨x2, x3⟩ | ⟨x2, k, x3, x4, x5⟩
      · rw [x2]
        show ∃ X, zlet (nI (hcN S.2.2.1 h) + 1) (fun u5 => rec u5) = some X ∧ _
        rw [zlet_e, nI_1]
        refine kk _ ⟨by rw [k3], fun h' b1 b2 b3 => ?_⟩
        by_cases e : hcN S.2.2.1 h' = j
        · rw [hc_inj b2 k2 (by omega)]; exact x3
        · exact hv h' b1 b2 (by omega)
      · rw [x2]
        exact ⟨_, rfl, Or.inr ⟨rfl, h, k, x3, k1, k2, x4, x5⟩⟩)
    FU 0 0 (Nat.zero_le _) ⟨rfl, fun k b1 b2 b3 => absurd b3 (Nat.not_lt_zero _)⟩ (show hcN S.2.2.1 n - 0 < 3000 by omega)
  unfold X4_hasTwins
  rw [h1, Option.bind_some]
  rcases h2 with ⟨h2, h3⟩ | ⟨h2, h3⟩
  · rw [h2]; exact ⟨0, rfl, Or.inr ⟨rfl, h3⟩⟩
  · rw [h2]; exact ⟨1, rfl, Or.inl ⟨rfl, h3⟩⟩
end MI

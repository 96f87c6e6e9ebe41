-- the law's start: an empty class beside arrays of zeros; the calls out of range at its end
def g50 : Rw := upd z0R 1 50
theorem IX_0 : IX sp0 0 50 ∧ LR sp0.2.1 0 50 g50 z0R z0R z0R z0R z0R := by
  have hn : ∀ {P : Nat → Prop} (i : Nat), i < 0 → P i := fun i h => absurd h (Nat.not_lt_zero i)
  have h0 : SOK scr0 0 50 := ⟨rfl, rfl, by decide, by decide, by decide, fun i h => absurd h (Nat.not_lt_zero i)⟩
  refine ⟨⟨h0, ⟨rfl, rfl, rfl, fun i h => absurd h (Nat.not_lt_zero i), fun i h => absurd h (Nat.not_lt_zero i), fun i h => absurd h (Nat.not_lt_zero i)⟩, ⟨rfl, 0, fun _ => 0, by decide, rfl, ?_, ?_⟩, ?_, ?_⟩, rfl, rfl, by decide, fun i h => absurd h (Nat.not_lt_zero i)⟩
  · exact ⟨fun e h => absurd h (Nat.not_lt_zero e), fun e e' _ h => absurd h (Nat.not_lt_zero e'), fun r h => absurd h (Nat.not_lt_zero r)⟩
  · intro g k ln pr lb mk hR
    have e0 : g 0 = nI 0 := hR.1
    obtain ⟨t, t1, -⟩ := needs_l h0 hR (nd := z0R) (fun i h => absurd h (Nat.not_lt_zero i)) z0R
    refine ⟨z0R, z0R, ?_, fun e h => absurd h (Nat.not_lt_zero e)⟩
    unfold L_sets
    rw [t1, Option.bind_some]
    rw [show (FU : Nat) = 2999 + 1 from rfl, zl_s]
    unfold b_L_sets_24
    simp only [zlet_e, zg0, cl0]
    rw [e0, if_pos (by decide), Option.bind_some]
    rfl
  · exact ⟨0, by decide, rfl, by decide⟩
  · rintro ⟨h, k, a, b, -⟩
    exact Nat.not_lt_zero _ b
theorem end_e {x : t_SP} {n L : Nat} (hI : IX x n L) (hn : n ≤ 40) : L_elementOf x (nI n) 0 = some (-100001) := by
  have e : X6_element x.1 x.2.1 x.2.2.1 x.2.2.2.1 x.2.2.2.2.1 x.2.2.2.2.2.1 x.2.2.2.2.2.2.1 x.2.2.2.2.2.2.2.1 x.2.2.2.2.2.2.2.2 (nI n) 0 = some (.inr 0) := by
    unfold X6_element
    simp only [zlet_e]
    rw [has_x hI.1 (by omega), if_neg (Nat.lt_irrefl n), if_pos rfl]
  unfold L_elementOf
  show (X6_element x.1 x.2.1 x.2.2.1 x.2.2.2.1 x.2.2.2.2.1 x.2.2.2.2.2.1 x.2.2.2.2.2.2.1 x.2.2.2.2.2.2.2.1 x.2.2.2.2.2.2.2.2 (nI n) 0).bind _ = _
  rw [e]
  rfl
theorem end_s {x : t_SP} {n L : Nat} (hI : IX x n L) (hn : n ≤ 40) : L_sceneOf x (nI (hcN x.2.1.2.2.1 n)) 0 = some (-100001) := by
  have hc := hc_le x.2.1.2.2.1 n
  have e : X6_scene x.1 x.2.1 x.2.2.1 x.2.2.2.1 x.2.2.2.2.1 x.2.2.2.2.2.1 x.2.2.2.2.2.2.1 x.2.2.2.2.2.2.2.1 x.2.2.2.2.2.2.2.2 (nI (hcN x.2.1.2.2.1 n)) 0 = some (.inr 0) := by
    unfold X6_scene X4_has X6_isBelow
    simp only [zlet_e]
    rw [hI.2.1.1, if_neg (nI_pos (by omega)), if_pos (nI_le (Nat.le_refl _) (by omega)), if_pos rfl]
  unfold L_sceneOf
  show (X6_scene x.1 x.2.1 x.2.2.1 x.2.2.2.1 x.2.2.2.2.1 x.2.2.2.2.2.1 x.2.2.2.2.2.2.1 x.2.2.2.2.2.2.2.1 x.2.2.2.2.2.2.2.2 (nI (hcN x.2.1.2.2.1 n)) 0).bind _ = _
  rw [e]
  rfl
theorem end_n (x : t_SP) : L_namesBy x 10 1 = some (-100002) := rfl

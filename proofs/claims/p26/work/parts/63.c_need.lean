-- needs, and what one element takes
theorem zl_two {σ τ σ2 τ2 : Type} {body : (σ → Option τ) → σ → Option τ} {body2 : (σ2 → Option τ2) → σ2 → Option τ2} (I : Nat → σ → σ2 → Prop) (P : τ → τ2 → Prop) (e : Nat)
    (stop : ∀ rec rec2 (v : σ) (v2 : σ2), I e v v2 → ∃ X X2, body rec v = some X ∧ body2 rec2 v2 = some X2 ∧ P X X2)
    (step : ∀ (rec : σ → Option τ) (rec2 : σ2 → Option τ2) (j : Nat) (v : σ) (v2 : σ2), j < e → I j v v2 → (∀ v' v2', I (j + 1) v' v2' → ∃ X X2, rec v' = some X ∧ rec2 v2' = some X2 ∧ P X X2) → ∃ X X2, body rec v = some X ∧ body2 rec2 v2 = some X2 ∧ P X X2) :
    ∀ (n j : Nat) (v : σ) (v2 : σ2), j ≤ e → I j v v2 → e - j < n → ∃ X X2, zloop body n v = some X ∧ zloop body2 n v2 = some X2 ∧ P X X2
  | 0, _, _, _, _, _, h => absurd h (Nat.not_lt_zero _)
  | n + 1, j, v, v2, hj, hI, h => by
    rw [zl_s, zl_s]
    by_cases h1 : j = e
    · subst h1; exact stop _ _ v v2 hI
    · exact step _ _ j v v2 (by omega) hI (fun v' v2' h2 => zl_two I P e stop step n (j + 1) v' v2' (by omega) h2 (by omega))
theorem upd2 (f : Rw) (k : Nat) (x y : Int32) : upd (upd f k x) k y = upd f k y := by
  funext j
  simp only [upd_t]
  by_cases h : j = k
  · rw [if_pos h, if_pos h]
  · rw [if_neg h, if_neg h, if_neg h]
section MN
variable {S : t_Script} {M : t_Model} {n L L1 : Nat}
theorem holds_lt (hS : SOK S n L) {i : Nat} (hi : i < n) (h : ¬ X1_holdsNext S (nI i) = 0) : i + 1 < n := by
  by_cases h1 : i + 1 < n
  · exact h1
  · exfalso
    apply h
    unfold X1_holdsNext
    have hn := hS.2.2.1
    simp only [zlet, nI_1]
    rw [has_x hS (by omega), if_neg h1, if_pos rfl]
theorem holds_kd (hS : SOK S n L) {i : Nat} (hi : i < n) (h : ¬ X1_holdsNext S (nI i) = 0) : S.2.2.1 i = 0 ∨ S.2.2.1 i = 2 ∨ S.2.2.1 i = 4 := by
  have aj : ∀ (f : Rw), rAt 60 f (nI i) = f i := fun f => rAt_nI (by decide) f (hS.lt hi)
  rcases (hS.e hi).1 with k | k | k | k | k
  · exact Or.inl k
  · exfalso; apply h; unfold X1_holdsNext; simp only [zlet, aj, k]; simp
  · exact Or.inr (Or.inl k)
  · exfalso; apply h; unfold X1_holdsNext; simp only [zlet, aj, k]; simp
  · exact Or.inr (Or.inr k)
/-- the least part: w of v lines -/
theorem least_x (hS : SOK S n L) {i : Nat} (hi : i < n) : ∃ v w, 1 ≤ v ∧ v ≤ 16 ∧ X5_linesOf S (nI i) = nI v ∧ X1_leastPart (S.2.2.1 i) (X5_linesOf S (nI i)) = nI w ∧ 1 ≤ w ∧ w ≤ v ∧ (w = v ∨ (4 ≤ v ∧ ((S.2.2.1 i = 1 ∧ w = 2) ∨ (S.2.2.1 i = 3 ∧ w = 3)))) ∧ (S.2.2.1 i ≠ 1 → S.2.2.1 i ≠ 3 → w = v) := by
  obtain ⟨v, h1, h2, h3⟩ := lines_x hS hi
  rw [h3]
  unfold X1_leastPart j_X1_leastPart_12
  by_cases h4 : v < 4
  · have g : nI v < (4 : Int32) := nI_lt (b := 4) h4 (by decide)
    rw [if_pos g, if_pos g]
    exact ⟨v, v, h1, h2, rfl, rfl, h1, Nat.le_refl _, Or.inl rfl, fun _ _ => rfl⟩
  · have g : ¬ nI v < (4 : Int32) := nI_nlt (b := 4) (by omega) (by omega)
    rw [if_neg g, if_neg g]
    by_cases k1 : S.2.2.1 i = 1
    · rw [if_pos k1]
      exact ⟨v, 2, h1, h2, rfl, rfl, by omega, by omega, Or.inr ⟨by omega, Or.inl ⟨k1, rfl⟩⟩, fun a _ => absurd k1 a⟩
    · rw [if_neg k1]
      by_cases k3 : S.2.2.1 i = 3
      · rw [if_pos k3]
        exact ⟨v, 3, h1, h2, rfl, rfl, by omega, by omega, Or.inr ⟨by omega, Or.inr ⟨k3, rfl⟩⟩, fun _ a => absurd k3 a⟩
      · rw [if_neg k3]
        exact ⟨v, v, h1, h2, rfl, rfl, h1, Nat.le_refl _, Or.inl rfl, fun _ _ => rfl⟩
def NDi (S : t_Script) (n : Nat) (nd : Rw) (i : Nat) : Prop :=
  (∃ v w, nd i = nI v ∧ X1_leastPart (S.2.2.1 i) (X5_linesOf S (nI i)) = nI w ∧ w ≤ v ∧ v ≤ 18 * (n - i)) ∧
  nd i = (if X1_holdsNext S (nI i) = 0 then X1_leastPart (S.2.2.1 i) (X5_linesOf S (nI i)) else X1_leastPart (S.2.2.1 i) (X5_linesOf S (nI i)) + (X5_blanksAhead S (nI (i + 1)) + nd (i + 1)))
theorem needs_t (hS : SOK S n L) (G : t_Pages) : ∃ nd, X1_findNeeds G S = some (G.1, G.2.1, G.2.2.1, G.2.2.2.1, G.2.2.2.2.1, nd, G.2.2.2.2.2.2.1, G.2.2.2.2.2.2.2.1, G.2.2.2.2.2.2.2.2.1, G.2.2.2.2.2.2.2.2.2.1, G.2.2.2.2.2.2.2.2.2.2.1, G.2.2.2.2.2.2.2.2.2.2.2.1, G.2.2.2.2.2.2.2.2.2.2.2.2.1, G.2.2.2.2.2.2.2.2.2.2.2.2.2) ∧ ∀ i, i < n → NDi S n nd i := by
  have hn := hS.2.2.1
  obtain ⟨X, h1, nd, hf, h2⟩ := zl_dn (body := b_X1_findNeeds_7 S) (fun s v => s ≤ n ∧ ∃ nd, v = ((G.1, G.2.1, G.2.2.1, G.2.2.2.1, G.2.2.2.2.1, nd, G.2.2.2.2.2.2.1, G.2.2.2.2.2.2.2.1, G.2.2.2.2.2.2.2.2.1, G.2.2.2.2.2.2.2.2.2.1, G.2.2.2.2.2.2.2.2.2.2.1, G.2.2.2.2.2.2.2.2.2.2.2.1, G.2.2.2.2.2.2.2.2.2.2.2.2.1, G.2.2.2.2.2.2.2.2.2.2.2.2.2), nI s - 1) ∧ ∀ i, s ≤ i → i < n → NDi S n nd i) (fun X => ∃ nd, X = (G.1, G.2.1, G.2.2.1, G.2.2.2.1, G.2.2.2.2.1, nd, G.2.2.2.2.2.2.1, G.2.2.2.2.2.2.2.1, G.2.2.2.2.2.2.2.2.1, G.2.2.2.2.2.2.2.2.2.1, G.2.2.2.2.2.2.2.2.2.2.1, G.2.2.2.2.2.2.2.2.2.2.2.1, G.2.2.2.2.2.2.2.2.2.2.2.2.1, G.2.2.2.2.2.2.2.2.2.2.2.2.2) ∧ ∀ i, i < n → NDi S n nd i)
    (fun rec v h => by
      obtain ⟨-, nd, rfl, hf⟩ := h
      unfold b_X1_findNeeds_7
      rw [if_pos (show nI 0 - 1 < 0 by decide)]
      exact ⟨_, rfl, nd, rfl, fun i hi => hf i (Nat.zero_le _) hi⟩)
    (fun rec s v h k => by
      obtain ⟨hs, nd, rfl, hf⟩ := h
      have hsn : s < n := by omega
      have g0 : ¬ nI s < 0 := nI_pos (by omega)
      have rs : ∀ (f : Rw) (x : Int32), rPut 60 f (nI s) x = upd f s x := fun f x => rPut_nI (by decide) f (by omega) x
      have as : ∀ (f : Rw), rAt 60 f (nI s) = f s := fun f => rAt_nI (by decide) f (by omega)
      obtain ⟨v, w, v1, v2, v3, v4, v5, v6, -, -⟩ := least_x hS hsn
      unfold b_X1_findNeeds_7 j_X1_findNeeds_57
      have fin : ∀ x : Int32, (∃ v w, x = nI v ∧ X1_leastPart (S.2.2.1 s) (X5_linesOf S (nI s)) = nI w ∧ w ≤ v ∧ v ≤ 18 * (n - s)) → x = (if X1_holdsNext S (nI s) = 0 then X1_leastPart (S.2.2.1 s) (X5_linesOf S (nI s)) else X1_leastPart (S.2.2.1 s) (X5_linesOf S (nI s)) + (X5_blanksAhead S (nI (s + 1)) + nd (s + 1))) → ∀ i, s ≤ i → i < n → NDi S n (upd nd s x) i := by
        intro x hx1 hx2 i a b
        unfold NDi
        by_cases e : i = s
        · subst e
          rw [pk_us, pk_un (show i + 1 ≠ i by omega)]
          exact ⟨hx1, hx2⟩
        · rw [pk_un e, pk_un (show i + 1 ≠ s by omega)]
          exact hf i (by omega) b
      by_cases hh : X1_holdsNext S (nI s) = 0
      · simp only [zlet, nI_pred, g0, rs, as, hh, im1, if_true, if_false]
        exact k _ ⟨by omega, _, rfl, fin _ ⟨w, w, v4, v4, Nat.le_refl _, by omega⟩ (by rw [if_pos hh])⟩
      · have h1 := holds_lt hS hsn hh
        have as1 : ∀ (f : Rw), rAt 60 f (nI (s + 1)) = f (s + 1) := fun f => rAt_nI (by decide) f (by omega)
        simp only [zlet, nI_pred, g0, rs, as, as1, hh, im1, nI_1, if_true, if_false]
        obtain ⟨⟨v', w', e1, e2, e3, e4⟩, -⟩ := hf (s + 1) (by omega) h1
        obtain ⟨b, hb1, hb2⟩ := blanks_x hS h1
        refine k _ ⟨by omega, _, rfl, fin _ ⟨w + (b + v'), w, ?_, v4, by omega, by omega⟩ (by rw [if_neg hh])⟩
        rw [v4, hb2, e1, nI_add, nI_add])
    FU n (G, nI n - 1) ⟨Nat.le_refl _, G.2.2.2.2.2.1, rfl, fun i a b => absurd b (by omega)⟩ (show n < 3000 by omega)
  refine ⟨nd, ?_, h2⟩
  unfold X1_findNeeds
  simp only [zlet]
  rw [hS.1, h1, Option.bind_some, hf]
/-- the lines that are set here: of v lines where f are free -/
def hereN (sg v f : Nat) : Nat := if v ≤ f then v else if f - sg < v - 2 then f - sg else v - 2
theorem first_x {kd : Int32} {v f sg : Nat} (hv : v ≤ 60) (hf : f ≤ 60) (hsg : sg = if kd = 3 then 1 else 0) (hx : ¬ v ≤ f → 2 ≤ v ∧ sg ≤ f) : X1_firstPart kd (nI v) (nI f) = nI (hereN sg v f) := by
  unfold X1_firstPart j_X1_firstPart_19 hereN
  simp only [zlet]
  by_cases h : v ≤ f
  · rw [if_pos h, if_neg (nI_nlt h (by omega))]
  · obtain ⟨h1, h2⟩ := hx h
    rw [if_neg h, if_pos (nI_lt (by omega) (by omega)), show (2 : Int32) = nI 2 from rfl, pk_sub h1, show (1 : Int32) = nI 1 from rfl]
    by_cases k : kd = 3
    · rw [if_pos k] at hsg
      subst hsg
      rw [if_pos k, pk_sub h2]
      by_cases c : f - 1 < v - 2
      · rw [if_pos c, if_neg (nI_nlt (by omega) (by omega))]
      · rw [if_neg c]
        by_cases c2 : v - 2 = f - 1
        · rw [c2, if_neg (nI_nlt (by omega) (by omega))]
        · rw [if_pos (nI_lt (by omega) (by omega))]
    · rw [if_neg k] at hsg
      subst hsg
      rw [if_neg k]
      by_cases c : f - 0 < v - 2
      · rw [if_pos c, if_neg (nI_nlt (by omega) (by omega))]; rfl
      · rw [if_neg c]
        by_cases c2 : v - 2 = f
        · rw [c2, if_neg (nI_nlt (by omega) (by omega))]
        · rw [if_pos (nI_lt (by omega) (by omega))]
end MN

-- loops by a number that goes up or down; counts over the elements
theorem zl_up {σ τ : Type} {body : (σ → Option τ) → σ → Option τ} (I : Nat → σ → Prop) (P : τ → Prop) (e : Nat)
    (stop : ∀ (rec : σ → Option τ) (v : σ), I e v → ∃ X, body rec v = some X ∧ P X)
    (step : ∀ (rec : σ → Option τ) (j : Nat) (v : σ), j < e → I j v → (∀ v', I (j + 1) v' → ∃ X, rec v' = some X ∧ P X) → ∃ X, body rec v = some X ∧ P X) :
    ∀ (n j : Nat) (v : σ), j ≤ e → I j v → e - j < n → ∃ X, zloop body n v = some X ∧ P X
  | 0, _, _, _, _, h => absurd h (Nat.not_lt_zero _)
  | n + 1, j, v, hj, hI, h => by
    rw [zl_s]
    by_cases h1 : j = e
    · subst h1; exact stop _ v hI
    · exact step _ j v (by omega) hI (fun v' h2 => zl_up I P e stop step n (j + 1) v' (by omega) h2 (by omega))
theorem zl_dn {σ τ : Type} {body : (σ → Option τ) → σ → Option τ} (I : Nat → σ → Prop) (P : τ → Prop)
    (stop : ∀ (rec : σ → Option τ) (v : σ), I 0 v → ∃ X, body rec v = some X ∧ P X)
    (step : ∀ (rec : σ → Option τ) (j : Nat) (v : σ), I (j + 1) v → (∀ v', I j v' → ∃ X, rec v' = some X ∧ P X) → ∃ X, body rec v = some X ∧ P X) :
    ∀ (n j : Nat) (v : σ), I j v → j < n → ∃ X, zloop body n v = some X ∧ P X
  | 0, _, _, _, h => absurd h (Nat.not_lt_zero _)
  | n + 1, 0, v, hI, _ => by rw [zl_s]; exact stop _ v hI
  | n + 1, j + 1, v, hI, h => by rw [zl_s]; exact step _ j v hI (fun v' h2 => zl_dn I P stop step n j v' h2 (by omega))
/-- the headings ahead of place i -/
def hcN (kd : Rw) : Nat → Nat
  | 0 => 0
  | i + 1 => hcN kd i + (if kd i = 0 then 1 else 0)
/-- the locked ones ahead of place i -/
def lkN (lk : Rw) : Nat → Nat
  | 0 => 0
  | i + 1 => lkN lk i + (if lk i = 0 then 0 else 1)
/-- the latest locked one ahead of place i, and one; 0 without one -/
def xsN (lk : Rw) : Nat → Nat
  | 0 => 0
  | i + 1 => if lk i = 0 then xsN lk i else i + 1
/-- the headings behind the latest locked one ahead of place i -/
def ksN (kd lk : Rw) : Nat → Nat
  | 0 => 0
  | i + 1 => if lk i = 0 then ksN kd lk i + (if kd i = 0 then 1 else 0) else 0
def yN (lk : Rw) (n : Nat) : Nat → Nat
  | 0 => n
  | d + 1 => if lk (n - (d + 1)) = 0 then yN lk n d else n - (d + 1)
/-- the next locked one at place i or behind; n without one -/
def ysN (lk : Rw) (n i : Nat) : Nat := yN lk n (n - i)
/-- the latest person in the scene ahead of place i -/
def ltN (kd pr : Rw) : Nat → Int32
  | 0 => -1
  | i + 1 => if kd i = 0 then -1 else if pr i = -1 then ltN kd pr i else pr i
def ctN (p : Nat → Bool) : Nat → Nat
  | 0 => 0
  | j + 1 => ctN p j + (if p j then 1 else 0)
def crN (kd pr : Rw) (i : Nat) : Bool := decide (pr i ≠ -1 ∧ pr i = ltN kd pr i ∧ hcN kd (i + 1) ≠ 0)
/-- the elements of scene s ahead of place j -/
def cnN (kd : Rw) (s : Nat) : Nat → Nat
  | 0 => 0
  | j + 1 => if hcN kd (j + 1) = s + 1 then cnN kd s j + 1 else cnN kd s j
def smN (S : t_Script) (s : Nat) : Nat → Int32
  | 0 => 0
  | j + 1 => if hcN S.2.2.1 (j + 1) = s + 1 then smN S s j + X5_linesOf S (nI j) else smN S s j
theorem hc_le (kd : Rw) : ∀ i, hcN kd i ≤ i
  | 0 => Nat.le_refl _
  | i + 1 => by
    have := hc_le kd i
    unfold hcN
    split <;> omega
theorem hc_s0 {kd : Rw} {i : Nat} (h : kd i = 0) : hcN kd (i + 1) = hcN kd i + 1 := by
  show hcN kd i + (if kd i = 0 then 1 else 0) = _
  rw [if_pos h]
theorem hc_s1 {kd : Rw} {i : Nat} (h : ¬ kd i = 0) : hcN kd (i + 1) = hcN kd i := by
  show hcN kd i + (if kd i = 0 then 1 else 0) = _
  rw [if_neg h]; rfl
theorem hc_mono (kd : Rw) {i : Nat} : ∀ {j : Nat}, i ≤ j → hcN kd i ≤ hcN kd j := by
  intro j h
  induction j with
  | zero => rw [show i = 0 by omega]; exact Nat.le_refl _
  | succ j ih =>
    by_cases h1 : i = j + 1
    · rw [h1]; exact Nat.le_refl _
    · refine Nat.le_trans (ih (by omega)) ?_
      show hcN kd j ≤ hcN kd j + _
      omega
theorem hc_lt {kd : Rw} {i j : Nat} (h : i < j) (hk : kd i = 0) : hcN kd i < hcN kd j := by
  have h1 := hc_mono kd (i := i + 1) (j := j) (by omega)
  rw [hc_s0 hk] at h1
  omega
theorem hc_inj {kd : Rw} {i j : Nat} (hi : kd i = 0) (hj : kd j = 0) (h : hcN kd i = hcN kd j) : i = j := by
  by_cases h1 : i < j
  · have := hc_lt h1 hi; omega
  · by_cases h2 : j < i
    · have := hc_lt h2 hj; omega
    · omega
/-- the heading of scene s -/
theorem hc_ex {kd : Rw} {s : Nat} : ∀ {n : Nat}, s < hcN kd n → ∃ h, h < n ∧ kd h = 0 ∧ hcN kd h = s := by
  intro n
  induction n with
  | zero => intro h; exact absurd h (Nat.not_lt_zero _)
  | succ n ih =>
    intro h
    by_cases h1 : s < hcN kd n
    · obtain ⟨k, a, b, c⟩ := ih h1
      exact ⟨k, by omega, b, c⟩
    · by_cases h2 : kd n = 0
      · rw [hc_s0 h2] at h
        exact ⟨n, by omega, h2, by omega⟩
      · rw [hc_s1 h2] at h
        omega
theorem hc_same {kd : Rw} {i j : Nat} (hij : i ≤ j) (h : hcN kd i = hcN kd j) : ∀ k, i ≤ k → k < j → ¬ kd k = 0 := by
  intro k h1 h2 h3
  have a := hc_mono kd h1
  have b := hc_lt h2 h3
  omega
theorem ct_le (p : Nat → Bool) : ∀ i, ctN p i ≤ i
  | 0 => Nat.le_refl _
  | i + 1 => by
    have := ct_le p i
    unfold ctN
    split <;> omega
theorem lk_le (lk : Rw) : ∀ i, lkN lk i ≤ i
  | 0 => Nat.le_refl _
  | i + 1 => by
    have := lk_le lk i
    unfold lkN
    split <;> omega
theorem lk_mono (lk : Rw) {i : Nat} : ∀ {j : Nat}, i ≤ j → lkN lk i ≤ lkN lk j := by
  intro j h
  induction j with
  | zero => rw [show i = 0 by omega]; exact Nat.le_refl _
  | succ j ih =>
    by_cases h1 : i = j + 1
    · rw [h1]; exact Nat.le_refl _
    · refine Nat.le_trans (ih (by omega)) ?_
      show lkN lk j ≤ lkN lk j + _
      omega
theorem xs_s0 {lk : Rw} {i : Nat} (h : lk i = 0) : xsN lk (i + 1) = xsN lk i := if_pos h
theorem xs_s1 {lk : Rw} {i : Nat} (h : ¬ lk i = 0) : xsN lk (i + 1) = i + 1 := if_neg h
theorem ks_s1 {kd lk : Rw} {i : Nat} (h : ¬ lk i = 0) : ksN kd lk (i + 1) = 0 := if_neg h
theorem ks_s0 {kd lk : Rw} {i : Nat} (h : lk i = 0) (hk : kd i = 0) : ksN kd lk (i + 1) = ksN kd lk i + 1 := by
  show (if lk i = 0 then ksN kd lk i + (if kd i = 0 then 1 else 0) else 0) = _
  rw [if_pos h, if_pos hk]
theorem ks_s2 {kd lk : Rw} {i : Nat} (h : lk i = 0) (hk : ¬ kd i = 0) : ksN kd lk (i + 1) = ksN kd lk i := by
  show (if lk i = 0 then ksN kd lk i + (if kd i = 0 then 1 else 0) else 0) = _
  rw [if_pos h, if_neg hk]; rfl
theorem xs_le (lk : Rw) : ∀ i, xsN lk i ≤ i
  | 0 => Nat.le_refl _
  | i + 1 => by
    have := xs_le lk i
    unfold xsN
    split <;> omega
theorem ks_le (kd lk : Rw) : ∀ i, ksN kd lk i ≤ i
  | 0 => Nat.le_refl _
  | i + 1 => by
    have := ks_le kd lk i
    unfold ksN
    split
    · split <;> omega
    · omega
theorem xs_lk (lk : Rw) : ∀ i, xsN lk i ≠ 0 → lk (xsN lk i - 1) ≠ 0
  | 0, h => absurd rfl h
  | i + 1, h => by
    by_cases h1 : lk i = 0
    · rw [xs_s0 h1] at h ⊢; exact xs_lk lk i h
    · rw [xs_s1 h1]; exact h1
theorem ys_n (lk : Rw) (n : Nat) : ysN lk n n = n := by
  unfold ysN
  rw [Nat.sub_self]; rfl
theorem ys_s {lk : Rw} {n i : Nat} (h : i < n) : ysN lk n i = if lk i = 0 then ysN lk n (i + 1) else i := by
  unfold ysN
  obtain ⟨d, hd⟩ : ∃ d, n - i = d + 1 := ⟨n - i - 1, by omega⟩
  rw [hd, show n - (i + 1) = d by omega]
  show (if lk (n - (d + 1)) = 0 then yN lk n d else n - (d + 1)) = _
  rw [show n - (d + 1) = i by omega]
theorem ys_s0 {lk : Rw} {n i : Nat} (h : i < n) (hl : lk i = 0) : ysN lk n i = ysN lk n (i + 1) := by rw [ys_s h, if_pos hl]
theorem ys_s1 {lk : Rw} {n i : Nat} (h : i < n) (hl : ¬ lk i = 0) : ysN lk n i = i := by rw [ys_s h, if_neg hl]
theorem ys_fact (lk : Rw) (n : Nat) : ∀ d i, n - i = d → i ≤ n → i ≤ ysN lk n i ∧ ysN lk n i ≤ n ∧ (ysN lk n i < n → lk (ysN lk n i) ≠ 0 ∧ lkN lk i < lkN lk n) ∧ (ysN lk n i = n → lkN lk n = lkN lk i) := by
  intro d
  induction d with
  | zero =>
    intro i h1 h2
    have : i = n := by omega
    subst this
    rw [ys_n]
    exact ⟨Nat.le_refl _, Nat.le_refl _, fun h => absurd h (Nat.lt_irrefl _), fun _ => rfl⟩
  | succ d ih =>
    intro i h1 h2
    obtain ⟨a, b, c, e⟩ := ih (i + 1) (by omega) (by omega)
    by_cases hl : lk i = 0
    · rw [ys_s0 (by omega) hl]
      have e1 : lkN lk (i + 1) = lkN lk i := by
        show lkN lk i + (if lk i = 0 then 0 else 1) = _
        rw [if_pos hl]; rfl
      rw [e1] at c e
      exact ⟨by omega, b, c, e⟩
    · rw [ys_s1 (by omega) hl]
      have e1 : lkN lk (i + 1) = lkN lk i + 1 := by
        show lkN lk i + (if lk i = 0 then 0 else 1) = _
        rw [if_neg hl]
      have := lk_mono lk (i := i + 1) (j := n) (by omega)
      exact ⟨Nat.le_refl _, by omega, fun _ => ⟨hl, by omega⟩, fun h => by omega⟩
theorem xs_lkN (lk : Rw) : ∀ i, xsN lk i = 0 ↔ lkN lk i = 0
  | 0 => ⟨fun _ => rfl, fun _ => rfl⟩
  | i + 1 => by
    have := xs_lkN lk i
    by_cases hl : lk i = 0
    · rw [xs_s0 hl]
      have e1 : lkN lk (i + 1) = lkN lk i := by
        show lkN lk i + (if lk i = 0 then 0 else 1) = _
        rw [if_pos hl]; rfl
      rw [e1]; exact this
    · rw [xs_s1 hl]
      have e1 : lkN lk (i + 1) = lkN lk i + 1 := by
        show lkN lk i + (if lk i = 0 then 0 else 1) = _
        rw [if_neg hl]
      rw [e1]
      constructor <;> intro h <;> omega
/-- no locked one at all: none ahead and none behind -/
theorem lk_none {lk : Rw} {n i : Nat} (h : i ≤ n) : lkN lk n = 0 ↔ xsN lk i = 0 ∧ ysN lk n i = n := by
  obtain ⟨a, b, c, e⟩ := ys_fact lk n _ i rfl h
  have m := lk_mono lk h
  constructor
  · intro h0
    refine ⟨(xs_lkN lk i).mpr (by omega), ?_⟩
    by_cases h1 : ysN lk n i = n
    · exact h1
    · have := (c (by omega)).2; omega
  · intro ⟨h1, h2⟩
    have := (xs_lkN lk i).mp h1
    have := e h2
    omega
theorem xs_same {kd lk : Rw} {n : Nat} (hlk : ∀ i, i < n → lk i ≠ 0 → kd i = 0) {i : Nat} : ∀ {j : Nat}, i ≤ j → j ≤ n → hcN kd i = hcN kd j → xsN lk j = xsN lk i ∧ ksN kd lk j = ksN kd lk i ∧ ysN lk n i = ysN lk n j := by
  intro j
  induction j with
  | zero => intro h1 _ _; rw [show i = 0 by omega]; exact ⟨rfl, rfl, rfl⟩
  | succ j ih =>
    intro h1 h2 h3
    by_cases h4 : i = j + 1
    · rw [h4]; exact ⟨rfl, rfl, rfl⟩
    · have hk := hc_same h1 h3 j (by omega) (by omega)
      have hl : lk j = 0 := by
        by_cases h5 : lk j = 0
        · exact h5
        · exact absurd (hlk j (by omega) h5) hk
      obtain ⟨a, b, c⟩ := ih (by omega) (by omega) (by rw [h3, hc_s1 hk])
      rw [xs_s0 hl, ks_s2 hl hk, ← ys_s0 (by omega) hl]
      exact ⟨a, b, c⟩
theorem cn_0 {kd : Rw} {s : Nat} : ∀ {j : Nat}, hcN kd j ≤ s → cnN kd s j = 0 := by
  intro j
  induction j with
  | zero => intro _; rfl
  | succ j ih =>
    intro h
    have := hc_mono kd (i := j) (j := j + 1) (by omega)
    show (if hcN kd (j + 1) = s + 1 then cnN kd s j + 1 else cnN kd s j) = 0
    rw [if_neg (by omega)]
    exact ih (by omega)
theorem sm_0 {S : t_Script} {s : Nat} : ∀ {j : Nat}, hcN S.2.2.1 j ≤ s → smN S s j = 0 := by
  intro j
  induction j with
  | zero => intro _; rfl
  | succ j ih =>
    intro h
    have := hc_mono S.2.2.1 (i := j) (j := j + 1) (by omega)
    show (if hcN S.2.2.1 (j + 1) = s + 1 then smN S s j + X5_linesOf S (nI j) else smN S s j) = 0
    rw [if_neg (by omega)]
    exact ih (by omega)
/-- what a scene from h to e tells -/
theorem cn_sc {S : t_Script} {s h e n : Nat} (hh : hcN S.2.2.1 h = s) (hk : S.2.2.1 h = 0) (he : h < e) (hen : e ≤ n) (hce : hcN S.2.2.1 e = s + 1) (hx : e < n → S.2.2.1 e = 0) : cnN S.2.2.1 s n = e - h ∧ smN S s n = smN S s e := by
  have a : ∀ k, h ≤ k → k ≤ e → cnN S.2.2.1 s k = k - h := by
    intro k
    induction k with
    | zero => intro h1 _; rw [show h = 0 by omega]; rfl
    | succ k ih =>
      intro h1 h2
      by_cases h3 : h = k + 1
      · rw [cn_0 (by rw [← h3, hh]; exact Nat.le_refl _)]; omega
      · have m1 := hc_mono S.2.2.1 (i := h + 1) (j := k + 1) (by omega)
        have m2 := hc_mono S.2.2.1 (i := k + 1) (j := e) h2
        rw [hc_s0 hk] at m1
        show (if hcN S.2.2.1 (k + 1) = s + 1 then cnN S.2.2.1 s k + 1 else cnN S.2.2.1 s k) = _
        rw [if_pos (by omega), ih (by omega) (by omega)]
        omega
  have b : ∀ d, e + d ≤ n → cnN S.2.2.1 s (e + d) = e - h ∧ smN S s (e + d) = smN S s e := by
    intro d
    induction d with
    | zero => intro _; exact ⟨a e (by omega) (Nat.le_refl _), rfl⟩
    | succ d ih =>
      intro h1
      have m1 := hc_mono S.2.2.1 (i := e + 1) (j := e + d + 1) (by omega)
      rw [hc_s0 (hx (by omega))] at m1
      show (if hcN S.2.2.1 (e + d + 1) = s + 1 then cnN S.2.2.1 s (e + d) + 1 else cnN S.2.2.1 s (e + d)) = _ ∧ (if hcN S.2.2.1 (e + d + 1) = s + 1 then smN S s (e + d) + X5_linesOf S (nI (e + d)) else smN S s (e + d)) = _
      rw [if_neg (by omega), if_neg (by omega)]
      exact ih (by omega)
  have := b (n - e) (by omega)
  rw [show e + (n - e) = n by omega] at this
  exact this
/-- the first number of the label of a heading, and the others -/
def lbA (S : t_Script) (n h : Nat) : Int32 :=
  if S.2.2.2.2.2.2.1 h = 0 then
    (if xsN S.2.2.2.2.2.2.1 h = 0 ∧ ysN S.2.2.2.2.2.2.1 n h = n then nI (ksN S.2.2.1 S.2.2.2.2.2.2.1 (h + 1)) else if xsN S.2.2.2.2.2.2.1 h = 0 then 0 else S.2.2.2.2.2.2.2.1 (xsN S.2.2.2.2.2.2.1 h - 1))
  else S.2.2.2.2.2.2.2.1 h
def lbB (S : t_Script) (n h : Nat) : Int32 :=
  if S.2.2.2.2.2.2.1 h = 0 then
    (if xsN S.2.2.2.2.2.2.1 h = 0 ∧ ysN S.2.2.2.2.2.2.1 n h = n then 0 else
      if ysN S.2.2.2.2.2.2.1 n h < n ∧ S.2.2.2.2.2.2.2.1 (ysN S.2.2.2.2.2.2.1 n h) = (if xsN S.2.2.2.2.2.2.1 h = 0 then 0 else S.2.2.2.2.2.2.2.1 (xsN S.2.2.2.2.2.2.1 h - 1)) then (if xsN S.2.2.2.2.2.2.1 h = 0 then 0 else S.2.2.2.2.2.2.2.2.1 (xsN S.2.2.2.2.2.2.1 h - 1)) else (if xsN S.2.2.2.2.2.2.1 h = 0 then 0 else S.2.2.2.2.2.2.2.2.1 (xsN S.2.2.2.2.2.2.1 h - 1)) + nI (ksN S.2.2.1 S.2.2.2.2.2.2.1 (h + 1)))
  else S.2.2.2.2.2.2.2.2.1 h
def lbC (S : t_Script) (n h : Nat) : Int32 :=
  if S.2.2.2.2.2.2.1 h = 0 then
    (if xsN S.2.2.2.2.2.2.1 h = 0 ∧ ysN S.2.2.2.2.2.2.1 n h = n then 0 else
      if ysN S.2.2.2.2.2.2.1 n h < n ∧ S.2.2.2.2.2.2.2.1 (ysN S.2.2.2.2.2.2.1 n h) = (if xsN S.2.2.2.2.2.2.1 h = 0 then 0 else S.2.2.2.2.2.2.2.1 (xsN S.2.2.2.2.2.2.1 h - 1)) then (if xsN S.2.2.2.2.2.2.1 h = 0 then 0 else S.2.2.2.2.2.2.2.2.2 (xsN S.2.2.2.2.2.2.1 h - 1)) + nI (ksN S.2.2.1 S.2.2.2.2.2.2.1 (h + 1)) else 0)
  else S.2.2.2.2.2.2.2.2.2 h

-- what the methods of Row do, told without steps
theorem zl_s {σ τ : Type} {body : (σ → Option τ) → σ → Option τ} {n : Nat} {v : σ} : zloop body (n + 1) v = body (zloop body n) v := rfl
/-- a loop's answer by an invariant between the state and the answer, and a measure that falls -/
theorem zl_ind {σ τ : Type} {body : (σ → Option τ) → σ → Option τ} (I : σ → τ → Prop) (μ : σ → Nat) (step : ∀ (rec : σ → Option τ) (v : σ) (X : τ), I v X → (∀ v' : σ, I v' X → μ v' < μ v → rec v' = some X) → body rec v = some X) : ∀ (n : Nat) (v : σ) (X : τ), I v X → μ v < n → zloop body n v = some X
  | 0, _, _, _, h => absurd h (Nat.not_lt_zero _)
  | n + 1, v, X, hI, h => step (zloop body n) v X hI (fun v' h1 h2 => zl_ind I μ step n v' X h1 (by omega))
def rAt (n : Nat) (f : Rw) (i : Int32) : Int32 := if i < 0 then (-1) else if Int32.ofNat n ≤ i then (-1) else f i.toNatClampNeg
def rPut (n : Nat) (f : Rw) (i x : Int32) : Rw := if i < 0 then f else if Int32.ofNat n ≤ i then f else upd f i.toNatClampNeg x
def rPlus (n : Nat) (f : Rw) (i x : Int32) : Rw := if i < 0 then f else if Int32.ofNat n ≤ i then f else upd f i.toNatClampNeg (f i.toNatClampNeg + x)
def rFst (i : Int32) : Nat := if i ≤ 0 then 0 else i.toNatClampNeg
def rOpen (n : Nat) (f : Rw) (i x : Int32) : Rw := rPut n (fun k => if rFst i < k ∧ k < n then f (k - 1) else f k) i x
def rClose (n : Nat) (f : Rw) (i : Int32) : Rw := fun k => if rFst i ≤ k ∧ k + 1 < n then f (k + 1) else f k
def rCopy (n k : Nat) (f g : Rw) : Rw := fun j => if j < n ∧ j < k then g j else f j
theorem zix_in {α : Type} {i : Int32} {n : Nat} {x : Option α} (h : vp_in i n) : zix i n x = x := if_neg h
theorem zix_nI {α : Type} {j n : Nat} {x : Option α} (h : j < n) (hn : n < 2147483648) : zix (nI j) n x = x := zix_in (vp_in_nI h hn)
theorem r_in {n : Nat} {i : Int32} (hn : n < 2147483648) (h0 : ¬ i < 0) (h1 : ¬ Int32.ofNat n ≤ i) : vp_in i n := by
  obtain ⟨j, hj, rfl⟩ := nI_of h0
  have h2 : ¬ nI n ≤ nI j := h1
  rw [nI_leI hn hj] at h2
  exact vp_in_nI (by omega) hn
theorem X3_at_t {n : Nat} (hn : n < 2147483648) (f : Rw) (i : Int32) : X3_at n f i = some (rAt n f i) := by
  unfold X3_at rAt
  simp only [zlet]
  by_cases h0 : i < 0
  · rw [if_pos h0, if_pos h0]
  · rw [if_neg h0, if_neg h0]
    by_cases h1 : Int32.ofNat n ≤ i
    · rw [if_pos h1, if_pos h1]
    · rw [if_neg h1, if_neg h1, zix_in (r_in hn h0 h1)]
theorem X3_put_t {n : Nat} (hn : n < 2147483648) (f : Rw) (i x : Int32) : X3_put n f i x = some (rPut n f i x) := by
  unfold X3_put rPut
  simp only [zlet]
  by_cases h0 : i < 0
  · rw [if_pos h0, if_pos h0]
  · rw [if_neg h0, if_neg h0]
    by_cases h1 : Int32.ofNat n ≤ i
    · rw [if_pos h1, if_pos h1]
    · rw [if_neg h1, if_neg h1, zix_in (r_in hn h0 h1)]
theorem X3_plus_t {n : Nat} (hn : n < 2147483648) (f : Rw) (i x : Int32) : X3_plus n f i x = some (rPlus n f i x) := by
  unfold X3_plus rPlus
  simp only [zlet]
  by_cases h0 : i < 0
  · rw [if_pos h0, if_pos h0]
  · rw [if_neg h0, if_neg h0]
    by_cases h1 : Int32.ofNat n ≤ i
    · rw [if_pos h1, if_pos h1]
    · rw [if_neg h1, if_neg h1, zix_in (r_in hn h0 h1), zix_in (r_in hn h0 h1)]
theorem open_loop {n F : Nat} (p1 p2 : Int32) (hn : n < 2000) (hF : F < 2147483648) : ∀ (j : Nat) (g : Rw) (m : Nat), j < n → j < m → zloop (b_X3_openAt_19 n p1 p2 (nI F)) m (g, nI j) = some (fun k => if F < k ∧ k ≤ j then g (k - 1) else g k) := by
  intro j
  induction j with
  | zero =>
    intro g m _ hm
    obtain ⟨m, rfl⟩ : ∃ m', m = m' + 1 := ⟨m - 1, by omega⟩
    obtain ⟨rec, hrec⟩ : ∃ r, r = zloop (b_X3_openAt_19 n p1 p2 (nI F)) m := ⟨_, rfl⟩
    rw [zl_s, ← hrec]
    unfold b_X3_openAt_19
    simp only [zlet]
    rw [if_pos (show nI 0 ≤ nI F from nI_le (Nat.zero_le _) hF)]
    congr 1
    funext k
    rw [if_neg (by omega)]
  | succ j ih =>
    intro g m hj hm
    obtain ⟨m, rfl⟩ : ∃ m', m = m' + 1 := ⟨m - 1, by omega⟩
    obtain ⟨rec, hrec⟩ : ∃ r, r = zloop (b_X3_openAt_19 n p1 p2 (nI F)) m := ⟨_, rfl⟩
    rw [zl_s, ← hrec]
    unfold b_X3_openAt_19
    simp only [zlet]
    by_cases h : j + 1 ≤ F
    · rw [if_pos (show nI (j + 1) ≤ nI F from nI_le h hF)]
      congr 1
      funext k
      rw [if_neg (by omega)]
    · rw [if_neg (show ¬ nI (j + 1) ≤ nI F from nI_ge (by omega) (by omega))]
      simp only [nI_pred, pk_m1]
      rw [zix_nI (by omega) (by omega), zix_nI hj (by omega), hrec, ih _ _ (by omega) (by omega), nI_clamp (by omega), nI_clamp (by omega)]
      congr 1
      funext k
      by_cases h1 : k = j + 1
      · subst h1
        rw [if_neg (by omega), if_pos (by omega), pk_us]
        rfl
      · rw [pk_un h1]
        by_cases h2 : F < k ∧ k ≤ j
        · rw [if_pos h2, if_pos (by omega), pk_un (by omega)]
        · rw [if_neg h2, if_neg (by omega)]
theorem X3_openAt_t {n : Nat} (hn : n < 2000) (h0 : 0 < n) (f : Rw) (i x : Int32) : X3_openAt n f i x = some (rOpen n f i x) := by
  have key : ∀ (F : Nat), F < 2147483648 → j_X3_openAt_9 n i x f (nI F) = some (rPut n (fun k => if F < k ∧ k < n then f (k - 1) else f k) i x) := by
    intro F hF
    unfold j_X3_openAt_9
    simp only [zlet]
    have e : Int32.ofNat n - 1 = nI (n - 1) := by
      have := nI_pred (n - 1)
      rw [show n - 1 + 1 = n by omega] at this
      exact this
    rw [e, open_loop i x hn hF (n - 1) f FU (by omega) (by show n - 1 < 3000; omega), Option.bind_some, X3_put_t (by omega), Option.bind_some]
    congr 2
    funext k
    by_cases h2 : F < k ∧ k < n
    · rw [if_pos h2, if_pos (by omega)]
    · rw [if_neg h2, if_neg (by omega)]
  unfold X3_openAt rOpen rFst
  by_cases h1 : i ≤ 0
  · rw [if_pos h1, if_pos h1]; exact key 0 (by omega)
  · rw [if_neg h1, if_neg h1]
    obtain ⟨j, hj, rfl⟩ := nI_of (x := i) (fun h => h1 (Int32.le_of_lt h))
    rw [nI_clamp hj]
    exact key j hj
theorem close_lim {n : Nat} (h0 : 0 < n) : Int32.ofNat n - 1 = nI (n - 1) := by
  have := nI_pred (n - 1)
  rw [show n - 1 + 1 = n by omega] at this
  exact this
theorem close_loop {n : Nat} (p1 : Int32) (hn : n < 2000) (h0 : 0 < n) : ∀ (d j : Nat) (g : Rw) (m : Nat), n - 1 - j = d → d < m → j < 2147483648 → zloop (b_X3_closeAt_12 n p1) m (g, nI j) = some (fun k => if j ≤ k ∧ k + 1 < n then g (k + 1) else g k) := by
  intro d
  induction d with
  | zero =>
    intro j g m hd hm hj
    obtain ⟨m, rfl⟩ : ∃ m', m = m' + 1 := ⟨m - 1, by omega⟩
    obtain ⟨rec, hrec⟩ : ∃ r, r = zloop (b_X3_closeAt_12 n p1) m := ⟨_, rfl⟩
    rw [zl_s, ← hrec]
    unfold b_X3_closeAt_12
    simp only [zlet]
    rw [close_lim h0, if_pos (show nI (n - 1) ≤ nI j from nI_le (by omega) hj)]
    congr 1
    funext k
    rw [if_neg (by omega)]
  | succ d ih =>
    intro j g m hd hm hj
    obtain ⟨m, rfl⟩ : ∃ m', m = m' + 1 := ⟨m - 1, by omega⟩
    obtain ⟨rec, hrec⟩ : ∃ r, r = zloop (b_X3_closeAt_12 n p1) m := ⟨_, rfl⟩
    rw [zl_s, ← hrec]
    unfold b_X3_closeAt_12
    simp only [zlet]
    rw [close_lim h0, if_neg (show ¬ nI (n - 1) ≤ nI j from nI_ge (by omega) (by omega))]
    simp only [nI_1]
    rw [zix_nI (by omega) (by omega), zix_nI (by omega) (by omega), hrec, ih (j + 1) _ _ (by omega) (by omega) (by omega), nI_clamp (by omega), nI_clamp (by omega)]
    congr 1
    funext k
    by_cases h1 : k = j
    · subst h1
      rw [if_neg (by omega), if_pos (by omega), pk_us]
    · rw [pk_un h1]
      by_cases h2 : j + 1 ≤ k ∧ k + 1 < n
      · rw [if_pos h2, if_pos (by omega), pk_un (by omega)]
      · rw [if_neg h2, if_neg (by omega)]
theorem X3_closeAt_t {n : Nat} (hn : n < 2000) (h0 : 0 < n) (f : Rw) (i : Int32) (hi : i.toNatClampNeg < 2000) : X3_closeAt n f i = some (rClose n f i) := by
  have key : ∀ (F : Nat), F < 2000 → j_X3_closeAt_9 n i f (nI F) = some (fun k => if F ≤ k ∧ k + 1 < n then f (k + 1) else f k) := by
    intro F hF
    unfold j_X3_closeAt_9
    rw [close_loop i hn h0 (n - 1 - F) F f FU rfl (by show n - 1 - F < 3000; omega) (by omega), Option.bind_some]
  unfold X3_closeAt rClose rFst
  by_cases h1 : i ≤ 0
  · rw [if_pos h1]; simp only [if_pos h1]; exact key 0 (by omega)
  · rw [if_neg h1]; simp only [if_neg h1]
    obtain ⟨j, hj, rfl⟩ := nI_of (x := i) (fun h => h1 (Int32.le_of_lt h))
    rw [nI_clamp hj] at hi ⊢
    exact key j hi
theorem copy_loop {n k : Nat} (g : Rw) (hn : n < 2000) (hk : k < 2000) : ∀ (d j : Nat) (f : Rw) (m : Nat), n - j = d → d < m → j < 2147483648 → zloop (b_X3_copyFrom_2 n k g) m (f, nI j) = some (fun i => if j ≤ i ∧ i < n ∧ i < k then g i else f i) := by
  intro d
  induction d with
  | zero =>
    intro j f m hd hm hj
    obtain ⟨m, rfl⟩ : ∃ m', m = m' + 1 := ⟨m - 1, by omega⟩
    obtain ⟨rec, hrec⟩ : ∃ r, r = zloop (b_X3_copyFrom_2 n k g) m := ⟨_, rfl⟩
    rw [zl_s, ← hrec]
    unfold b_X3_copyFrom_2
    simp only [zlet]
    rw [if_pos (show Int32.ofNat n ≤ nI j from nI_le (by omega) hj)]
    congr 1
    funext i
    rw [if_neg (by omega)]
  | succ d ih =>
    intro j f m hd hm hj
    obtain ⟨m, rfl⟩ : ∃ m', m = m' + 1 := ⟨m - 1, by omega⟩
    obtain ⟨rec, hrec⟩ : ∃ r, r = zloop (b_X3_copyFrom_2 n k g) m := ⟨_, rfl⟩
    rw [zl_s, ← hrec]
    unfold b_X3_copyFrom_2
    simp only [zlet]
    rw [if_neg (show ¬ Int32.ofNat n ≤ nI j from nI_ge (by omega) (by omega))]
    by_cases h : k ≤ j
    · rw [if_pos (show Int32.ofNat k ≤ nI j from nI_le h hj)]
      congr 1
      funext i
      rw [if_neg (by omega)]
    · rw [if_neg (show ¬ Int32.ofNat k ≤ nI j from nI_ge (by omega) (by omega))]
      simp only [nI_1]
      rw [zix_nI (by omega) (by omega), zix_nI (by omega) (by omega), hrec, ih (j + 1) _ _ (by omega) (by omega) (by omega), nI_clamp (by omega)]
      congr 1
      funext i
      by_cases h1 : i = j
      · subst h1
        rw [if_neg (by omega), if_pos (by omega), pk_us]
      · rw [pk_un h1]
        by_cases h2 : j + 1 ≤ i ∧ i < n ∧ i < k
        · rw [if_pos h2, if_pos (by omega)]
        · rw [if_neg h2, if_neg (by omega)]
theorem X3_copyFrom_t {n k : Nat} (hn : n < 2000) (hk : k < 2000) (f g : Rw) : X3_copyFrom n k f g = some (rCopy n k f g) := by
  unfold X3_copyFrom rCopy
  have h := copy_loop g hn hk (n - 0) 0 f FU rfl (by show n - 0 < 3000; omega) (by omega)
  rw [show nI 0 = (0 : Int32) from nI_0] at h
  rw [h, Option.bind_some]
  congr 1
  funext i
  by_cases h2 : i < n ∧ i < k
  · rw [if_pos h2, if_pos (by omega)]
  · rw [if_neg h2, if_neg (by omega)]
-- their contracts in these words
theorem c_rAt (l : Launch) (Z : zZ) (n a b : Nat) (hn : n < 2147483648) (f : Rw) (i : Int32) (R : Int32) (hF : rAt n f i = R) : zRO l yX3_at (zw yX3_at cX3_at 2 (some .int)) rm_X3_at Z [.ref a, .int i] (w_Row Z.2.1 n a b f) (some (.int R)) := c_X3_at l Z n a b f i R (by rw [X3_at_t hn, hF])
theorem c_rPut (l : Launch) (Z : zZ) (n a b : Nat) (hn : n < 2147483648) (f : Rw) (i x : Int32) (R : Rw) (hF : rPut n f i x = R) : zMU l yX3_put (zw yX3_put cX3_put 3 none) rm_X3_put Z [.ref a, .int i, .int x] (w_Row Z.2.1 n a b f) (w_Row Z.2.1 n a b R) none := c_X3_put l Z n a b f i x R (by rw [X3_put_t hn, hF])
theorem c_rPlus (l : Launch) (Z : zZ) (n a b : Nat) (hn : n < 2147483648) (f : Rw) (i x : Int32) (R : Rw) (hF : rPlus n f i x = R) : zMU l yX3_plus (zw yX3_plus cX3_plus 3 none) rm_X3_plus Z [.ref a, .int i, .int x] (w_Row Z.2.1 n a b f) (w_Row Z.2.1 n a b R) none := c_X3_plus l Z n a b f i x R (by rw [X3_plus_t hn, hF])
theorem c_rOpen (l : Launch) (Z : zZ) (n a b : Nat) (hn : 0 < n ∧ n < 2000) (f : Rw) (i x : Int32) (R : Rw) (hF : rOpen n f i x = R) : zMU l yX3_openAt (zw yX3_openAt cX3_openAt 5 none) rm_X3_openAt Z [.ref a, .int i, .int x] (w_Row Z.2.1 n a b f) (w_Row Z.2.1 n a b R) none := c_X3_openAt l Z n a b f i x R (by rw [X3_openAt_t hn.2 hn.1, hF])
theorem c_rCopy (l : Launch) (Z : zZ) (n a b k d e : Nat) (hn : n < 2000 ∧ k < 2000) (f g : Rw) (R : Rw) (hF : rCopy n k f g = R) : zMU l yX3_copyFrom (zw yX3_copyFrom cX3_copyFrom 3 none) rm_X3_copyFrom Z [.ref a, .ref d] (List.flatten [w_Row Z.2.1 n a b f, w_Row Z.2.1 k d e g]) (List.flatten [w_Row Z.2.1 n a b R, w_Row Z.2.1 k d e g]) none := c_X3_copyFrom l Z n a b k d e f g R (by rw [X3_copyFrom_t hn.1 hn.2, hF])

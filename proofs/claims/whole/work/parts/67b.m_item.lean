-- items and the whole text: class and reference
def IT (t : Nat) (N : t_Model) (L k a0 : Nat) (m : Rw) (D : t_Script) (X : Option (t_Reader × t_Script)) (Y : Option (Int32 × t_Model)) : Prop :=
  (∃ D2 m2 a' b', a0 < a' ∧ a' ≤ t ∧ X = some ((nI t, nI a', -1), D2) ∧ Y = some (1, mRd N m2 (nI a') b') ∧ SOK D2 (k + 1) L ∧ MR D2 m2 (k + 1) L) ∨ (∃ a' p b', p ≤ t ∧ X = some ((nI t, a', nI p), D) ∧ Y = some (0, mRd N m (nI p) b'))
theorem kind_ex (x : Int32) : X2_kindOf x = -1 ∨ X2_kindOf x = 0 ∨ X2_kindOf x = 1 ∨ X2_kindOf x = 2 ∨ X2_kindOf x = 3 ∨ X2_kindOf x = 4 := by
  unfold X2_kindOf
  by_cases h1 : x = 97
  · rw [if_pos h1]; exact Or.inr (Or.inr (Or.inl rfl))
  · rw [if_neg h1]
    by_cases h2 : x = 104
    · rw [if_pos h2]; exact Or.inr (Or.inl rfl)
    · rw [if_neg h2]
      by_cases h3 : x = 110
      · rw [if_pos h3]; exact Or.inr (Or.inr (Or.inr (Or.inl rfl)))
      · rw [if_neg h3]
        by_cases h4 : x = 114
        · rw [if_pos h4]; exact Or.inr (Or.inr (Or.inr (Or.inr (Or.inr rfl))))
        · rw [if_neg h4]
          by_cases h5 : x = 115
          · rw [if_pos h5]; exact Or.inr (Or.inr (Or.inr (Or.inr (Or.inl rfl))))
          · rw [if_neg h5]; exact Or.inl rfl
theorem digit_ex {x : Int32} (h : ¬ X2_isDigit x = 0) : ∃ q, q ≤ 9 ∧ x - 48 = nI q := by
  unfold X2_isDigit at h
  by_cases h1 : x < 48
  · rw [if_pos h1] at h; exact absurd rfl h
  · rw [if_neg h1] at h
    by_cases h2 : 57 < x
    · rw [if_pos h2] at h; exact absurd rfl h
    · have h0 : ¬ x < 0 := by
        intro h0
        apply h1
        rw [Int32.lt_iff_toInt_lt] at h0 ⊢
        exact Int.lt_trans h0 (by decide)
      obtain ⟨l, hl, rfl⟩ := nI_of h0
      have a : ¬ l < 48 := fun c => h1 (nI_lt (b := 48) c (by decide))
      have b : ¬ 57 < l := fun c => h2 (nI_lt (a := 57) c hl)
      exact ⟨l - 48, by omega, by rw [show (48 : Int32) = nI 48 from rfl, pk_sub (by omega)]⟩
section MIt
variable {t : Nat} {tx : Rw} {N : t_Model} {D : t_Script} {k L : Nat} {m : Rw}
theorem err_tail (D : t_Script) (a p : Nat) (hp : p ≤ 200) (kd pr ln : Int32) : j_X2_readItem_74 tx (nI t, nI a, nI p) D kd pr ln = some ((nI t, nI a, nI p), D) := by
  have ne : ¬ nI p = -1 := fun e => nI_pos (n := p) (by omega) (by rw [e]; decide)
  unfold j_X2_readItem_74 j_X2_readItem_93 X2_fail
  simp only [zlet_e]
  rw [if_neg ne, if_neg ne]
  split <;> rfl
theorem tail_two (hT : TXn t tx N) (hD : SOK D k L) (hM : MR D m k L) (hk : k < 60) {a0 a : Nat} (h0 : a0 < a) (ha : a ≤ t) {kd ln pr : Int32} (hE : ENew kd ln pr) : IT t N L k a0 m D (j_X2_readItem_74 tx (nI t, nI a, -1) D kd pr ln) (j_X7_isItem_113 (mRd N m (nI a) ln) kd pr) := by
  have ht := hT.1
  unfold j_X2_readItem_74 j_X7_isItem_113
  simp only [zlet_e]
  rw [next_x ht ha, takes_t hT ha m ln 59 (by decide), Option.bind_some]
  by_cases h : chN t tx a = 59
  · have hlt : a < t := by
      by_cases c : a < t
      · exact c
      · unfold chN at h
        rw [if_neg c] at h
        exact absurd h (by decide)
    obtain ⟨m2, c1, c2, c3⟩ := comes_t hD (M := mRd N m (nI (a + 1)) ln) hM hk (Nat.le_refl k) hE
    rw [if_pos h, if_pos h, if_pos h, if_neg (show ¬ (1 : Int32) = 0 by decide), zix1, cl1, mRd_s, hM.2.1, mRd_n, c1, Option.bind_some, mRd_set]
    unfold j_X2_readItem_93
    simp only [zlet_e]
    rw [if_pos trivial, nI_1, show D.1 = nI k from hD.1]
    exact Or.inl ⟨_, m2, a + 1, ln, by omega, by omega, rfl, rfl, c2, c3⟩
  · rw [if_neg h, if_neg h, if_neg h, if_pos rfl, fail_x _ _ _ rfl]
    unfold j_X2_readItem_93
    rw [if_neg (show ¬ (nI t, nI a, nI a).2.2 = (-1 : Int32) from fun e => nI_pos (n := a) (by omega) (by rw [show nI a = (-1 : Int32) from e]; decide))]
    exact Or.inr ⟨nI a, a, ln, ha, rfl, rfl⟩
theorem len_two (hT : TXn t tx N) (hD : SOK D k L) (hM : MR D m k L) (hk : k < 60) {a0 a : Nat} (h0 : a0 < a) (ha : a ≤ t) (b : Int32) {kd pr : Int32} (hE : ∀ ln, ¬ X6_isLength ln = 0 → ENew kd ln pr) : IT t N L k a0 m D (j_X2_readItem_65 tx (nI t, nI a, -1) D kd pr) (j_X7_isItem_104 (mRd N m (nI a) b) kd pr) := by
  have ht := hT.1
  unfold j_X2_readItem_65 j_X7_isItem_104
  rcases number_two hT ha m b with ⟨v, a', a1, a2, r1, r2, r3⟩ | ⟨v, a', p, p1, r1, r2⟩
  · rw [r1, r2, Option.bind_some, Option.bind_some, if_neg (show ¬ (1 : Int32) = 0 by decide)]
    exact tail_two hT hD hM hk (by omega) a2 (hE v r3)
  · rw [r1, r2, Option.bind_some, Option.bind_some, if_pos (show (0 : Int32) = 0 from rfl)]
    refine Or.inr ⟨nI a', p, v, p1, ?_, rfl⟩
    exact err_tail D a' p (by omega) kd pr v
theorem item_two (hT : TXn t tx N) (hD : SOK D k L) (hM : MR D m k L) {a : Nat} (ha : a < t) (b : Int32) : IT t N L k a m D (X2_readItem (nI t, nI a, -1) tx D) (X7_isItem (mRd N m (nI a) b)) := by
  have ht := hT.1
  have hk60 := hD.2.2.1
  have ec : chN t tx a = tx a := if_pos ha
  have et : N.2.2.2.2.1 a = tx a := (hT.2.2 a (by omega)).symm
  unfold X2_readItem X7_isItem j_X2_readItem_20
  simp only [zlet_e, mRd_a, nI_1]
  rw [show ((mRd N m (nI a) b).1, (mRd N m (nI a) b).2.1, (mRd N m (nI a) b).2.2.1, (mRd N m (nI a) b).2.2.2.1, (mRd N m (nI a) b).2.2.2.2.1, (mRd N m (nI a) b).2.2.2.2.2.1, (mRd N m (nI a) b).2.2.2.2.2.2.1, (mRd N m (nI a) b).2.2.2.2.2.2.2.1, (mRd N m (nI a) b).2.2.2.2.2.2.2.2.1, (mRd N m (nI a) b).2.2.2.2.2.2.2.2.2.1, (mRd N m (nI a) b).2.2.2.2.2.2.2.2.2.2.1, (mRd N m (nI a) b).2.2.2.2.2.2.2.2.2.2.2.1, (mRd N m (nI a) b).2.2.2.2.2.2.2.2.2.2.2.2.1, (mRd N m (nI a) b).2.2.2.2.2.2.2.2.2.2.2.2.2.1, (mRd N m (nI a) b).2.2.2.2.2.2.2.2.2.2.2.2.2.2.1, (mRd N m (nI a) b).2.2.2.2.2.2.2.2.2.2.2.2.2.2.2.1, nI (a + 1), (mRd N m (nI a) b).2.2.2.2.2.2.2.2.2.2.2.2.2.2.2.2.2.1, (mRd N m (nI a) b).2.2.2.2.2.2.2.2.2.2.2.2.2.2.2.2.2.2) = mRd N m (nI (a + 1)) b from rfl, show ((mRd N m (nI a) b).1, (mRd N m (nI a) b).2.1, (mRd N m (nI a) b).2.2.1, (mRd N m (nI a) b).2.2.2.1, (mRd N m (nI a) b).2.2.2.2.1, (mRd N m (nI a) b).2.2.2.2.2.1, (mRd N m (nI a) b).2.2.2.2.2.2.1, (mRd N m (nI a) b).2.2.2.2.2.2.2.1, (mRd N m (nI a) b).2.2.2.2.2.2.2.2.1, (mRd N m (nI a) b).2.2.2.2.2.2.2.2.2.1, (mRd N m (nI a) b).2.2.2.2.2.2.2.2.2.2.1, (mRd N m (nI a) b).2.2.2.2.2.2.2.2.2.2.2.1, (mRd N m (nI a) b).2.2.2.2.2.2.2.2.2.2.2.2.1, (mRd N m (nI a) b).2.2.2.2.2.2.2.2.2.2.2.2.2.1, (mRd N m (nI a) b).2.2.2.2.2.2.2.2.2.2.2.2.2.2.1, (mRd N m (nI a) b).2.2.2.2.2.2.2.2.2.2.2.2.2.2.2.1, nI (a + 1 + 1), 10, (mRd N m (nI a) b).2.2.2.2.2.2.2.2.2.2.2.2.2.2.2.2.2.2) = mRd N m (nI (a + 1 + 1)) 10 from rfl]
  rw [next_x ht (by omega), ec, zix_nI (by omega) (by decide), nI_clamp (by omega), mRd_t, et, zix1, cl1, mRd_s, hM.2.1, fail_x _ _ _ rfl]
  have ek : X7_kindOf (tx a) = X2_kindOf (tx a) := rfl
  rw [ek]
  have bad : IT t N L k a m D (some ((nI t, nI a, nI a), D)) (some (0, mRd N m (nI a) b)) := Or.inr ⟨nI a, a, b, by omega, rfl, rfl⟩
  by_cases hn : X2_kindOf (tx a) = -1
  · rw [if_pos hn, if_pos hn]; exact bad
  rw [if_neg hn, if_neg hn]
  by_cases h60 : k = 60
  · have full : X5_isFull D = 1 := by unfold X5_isFull; rw [hD.1, h60]; decide
    rw [full, if_neg (show ¬ (1 : Int32) = 0 by decide), if_pos (show nI k = 60 by rw [h60]; rfl)]
    exact bad
  have full : X5_isFull D = 0 := by unfold X5_isFull; rw [hD.1, if_pos (show nI k < (60 : Int32) from nI_lt (b := 60) (by omega) (by decide))]
  rw [full, if_pos (show (0 : Int32) = 0 from rfl), if_neg (show ¬ nI k = (60 : Int32) from fun h => h60 ((nI_eq (b := 60) (by omega) (by decide)).mp h))]
  have hk : k < 60 := by omega
  obtain ⟨kd, hkd⟩ : ∃ kd, kd = X2_kindOf (tx a) := ⟨_, rfl⟩
  rw [← hkd] at hn ⊢
  have hkk : kd = 0 ∨ kd = 1 ∨ kd = 2 ∨ kd = 3 ∨ kd = 4 := by
    rcases kind_ex (tx a) with h | h
    · exact absurd (hkd.trans h) hn
    · rw [← hkd] at h; exact h
  by_cases h2 : kd = 2
  · subst h2
    rw [if_pos rfl, if_pos rfl, isAt_d hT (by omega), Option.bind_some]
    unfold X2_readPerson
    simp only [zlet_e]
    rw [next_x ht (by omega)]
    by_cases hd : X2_isDigit (chN t tx (a + 1)) = 0
    · rw [if_pos hd, if_pos hd, fail_x _ _ _ rfl]
      unfold j_X2_readItem_52 X2_readsComma
      simp only [zlet_e]
      rw [if_pos trivial, if_neg (show ¬ nI (a + 1) = (-1 : Int32) from fun e => nI_pos (n := a + 1) (by omega) (by rw [show nI (a + 1) = (-1 : Int32) from e]; decide)), if_pos rfl, err_tail D (a + 1) (a + 1) (by omega)]
      exact Or.inr ⟨nI (a + 1), a + 1, b, by omega, rfl, rfl⟩
    · have hlt := chN_lt hd
      obtain ⟨q, q9, hq⟩ := digit_ex hd
      have ec1 : chN t tx (a + 1) = tx (a + 1) := if_pos hlt
      have et1 : N.2.2.2.2.1 (a + 1) = chN t tx (a + 1) := by rw [ec1]; exact (hT.2.2 _ (by omega)).symm
      rw [if_neg hd, if_neg hd, zix_nI (by omega) (by decide), nI_clamp (by omega), et1, hq]
      have hE : ∀ ln, ¬ X6_isLength ln = 0 → ENew 2 ln (nI q) := fun ln hl => ⟨Or.inr (Or.inr (Or.inl rfl)), length_ex hl, fun _ => ⟨q, q9, rfl⟩, fun h => absurd rfl h⟩
      unfold j_X2_readItem_52 j_X7_isItem_90 X2_readsComma
      simp only [zlet_e, nI_1]
      rw [if_pos trivial, if_pos trivial, if_pos trivial, next_x ht (by omega), takes_t hT (by omega) m 10 44 (by decide), Option.bind_some]
      by_cases hc : chN t tx (a + 1 + 1) = 44
      · have hlt2 : a + 1 + 1 < t := by
          by_cases c : a + 1 + 1 < t
          · exact c
          · unfold chN at hc
            rw [if_neg c] at hc
            exact absurd hc (by decide)
        rw [if_pos hc, if_pos hc, if_pos hc, if_neg (show ¬ (1 : Int32) = 0 by decide), if_neg (show ¬ (1 : Int32) = 0 by decide)]
        exact len_two hT hD hM hk (by omega) (by omega) 10 hE
      · rw [if_neg hc, if_neg hc, if_neg hc, if_pos (show (0 : Int32) = 0 from rfl), if_pos (show (0 : Int32) = 0 from rfl)]
        exact tail_two hT hD hM hk (by omega) (by omega) (hE 10 (by decide))
  · rw [if_neg h2, if_neg h2]
    unfold j_X2_readItem_52 j_X7_isItem_90
    rw [if_neg h2, if_neg h2]
    exact len_two hT hD hM hk (by omega) (by omega) b (fun ln hl => ⟨hkk, length_ex hl, fun h => absurd h h2, fun _ => rfl⟩)
theorem parse_two (hT : TXn t tx N) : ∀ (d a k : Nat) (m : Rw) (b : Int32) (D : t_Script) (fu fu2 : Nat), t - a = d → a ≤ t → d + 1 < fu → d < fu2 → SOK D k L → MR D m k L →
    (∃ D' m' b' k', zloop (b_X2_readInto_2 tx) fu ((nI t, nI a, -1), D, nI k) = some ((nI t, nI t, -1), D') ∧ zloop b_X7_parse_21 fu2 (mRd N m (nI a) b) = some (.inl (mRd N m' (nI t) b')) ∧ SOK D' k' L ∧ MR D' m' k' L) ∨
    (∃ p a' D' q b', p ≤ 200 ∧ zloop (b_X2_readInto_2 tx) fu ((nI t, nI a, -1), D, nI k) = some ((nI t, a', nI p), D') ∧ zloop b_X7_parse_21 fu2 (mRd N m (nI a) b) = some (.inr (-10 - nI p, mRd N q (nI p) b')) ∧ ∀ i, i < 542 → q i = N.2.2.1 i) := by
  have ht := hT.1
  intro d
  induction d using Nat.strongRecOn with
  | ind d ih =>
    intro a k m b D fu fu2 hd ha hf hf2 hD hM
    obtain ⟨fu, rfl⟩ : ∃ f', fu = f' + 1 := ⟨fu - 1, by omega⟩
    obtain ⟨fu2, rfl⟩ : ∃ f', fu2 = f' + 1 := ⟨fu2 - 1, by omega⟩
    obtain ⟨rec, hrec⟩ : ∃ r, r = zloop (b_X2_readInto_2 tx) fu := ⟨_, rfl⟩
    obtain ⟨rec2, hrec2⟩ : ∃ r, r = zloop b_X7_parse_21 fu2 := ⟨_, rfl⟩
    rw [zl_s, zl_s, ← hrec, ← hrec2]
    have hk60 := hD.2.2.1
    unfold b_X2_readInto_2 b_X7_parse_21
    simp only [zlet_e, nI_1]
    rw [if_neg (show ¬ (60 : Int32) < nI k from nI_nlt (a := 60) hk60 (by decide)), mRd_l, mRd_a, hT.2.1]
    by_cases hat : t ≤ a
    · have e : a = t := by omega
      subst e
      rw [if_pos (nI_le (Nat.le_refl _) (by omega)), if_pos (nI_le (Nat.le_refl _) (by omega))]
      exact Or.inl ⟨D, m, b, k, rfl, rfl, hD, hM⟩
    · rw [if_neg (nI_ge (show a < t by omega) (by omega)), if_neg (nI_ge (show a < t by omega) (by omega)), if_pos trivial]
      rcases item_two hT hD hM (show a < t by omega) b with ⟨D2, m2, a', b', a1, a2, x1, x2, x3, x4⟩ | ⟨a', p, b', p1, x1, x2⟩
      · rw [x1, x2, Option.bind_some, Option.bind_some, if_neg (show ¬ (1 : Int32) = 0 by decide), hrec, hrec2]
        exact ih (t - a') (by omega) a' (k + 1) m2 b' D2 fu fu2 rfl a2 (by omega) (by omega) x3 x4
      · have ne : ¬ nI p = -1 := fun e => nI_pos (n := p) (by omega) (by rw [e]; decide)
        obtain ⟨q, q1, q2⟩ := copies_t m N.2.2.1
        rw [x1, x2, Option.bind_some, Option.bind_some, if_pos (show (0 : Int32) = 0 from rfl)]
        refine Or.inr ⟨p, a', D, q, b', by omega, ?_, ?_, fun i hi => by rw [q2, if_pos hi]⟩
        · obtain ⟨fu, rfl⟩ : ∃ f', fu = f' + 1 := ⟨fu - 1, by omega⟩
          rw [hrec, zl_s]
          unfold b_X2_readInto_2
          simp only []
          rw [if_neg ne]
          split
          · rfl
          · split <;> rfl
        · show (X7_copies m N.2.2.1).bind _ = _
          rw [q1, Option.bind_some]
          rfl
end MIt

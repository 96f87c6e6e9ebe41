-- what holds between the calls; twins
def TX (tl : Int32) (tx : Rw) (typed : Int32) (text : Rw) : Prop := ∃ t, t ≤ 200 ∧ tl = nI t ∧ typed = nI t ∧ ∀ j, j < 200 → tx j = text j
def InvC (tl : Int32) (S : t_Script) (C : t_Scenes) (G : t_Pages) (Hs : t_Hist) (tx : Rw) (M : t_Model) : Prop :=
  ∃ n L, SOK S n L ∧ MR S M.1 n L ∧ CSok C S n ∧ GSok G S n L ∧ HR Hs M.2.1 M.2.2.2.1 ∧ TX tl tx M.2.2.2.2.2.1 M.2.2.2.2.1
def Ans (tbl : List (Nat × Int32)) (r : Int32 ⊕ Nat) (a : Int32) (M' : t_Model) : Prop := kof tbl r = some M'.2.2.2.2.2.2.1 ∧ ∀ v, r = .inl v → v = a
theorem fails_t (M : t_Model) (k : Int32) : X7_fails M k = (0, mTh M k) := rfl
theorem tells_t (M : t_Model) (a : Int32) : X7_tells M a = (a, mTh M 0) := rfl
theorem Inv_th {tl : Int32} {S : t_Script} {C : t_Scenes} {G : t_Pages} {Hs : t_Hist} {tx : Rw} {M : t_Model} (h : InvC tl S C G Hs tx M) (k : Int32) : InvC tl S C G Hs tx (mTh M k) := h
theorem Inv_fr {tl : Int32} {S : t_Script} {C : t_Scenes} {G : t_Pages} {Hs : t_Hist} {tx : Rw} {M M' : t_Model} (h : InvC tl S C G Hs tx M) (hf : MFr M M') : InvC tl S C G Hs tx M' := by
  obtain ⟨n, L, h1, h2, h3, h4, h5, h6⟩ := h
  obtain ⟨f1, f2, f3, f4, f5, f6, -⟩ := hf
  refine ⟨n, L, h1, ?_, h3, h4, ?_, ?_⟩
  · rw [f1]; exact h2
  · rw [f2, f4]; exact h5
  · rw [f5, f6]; exact h6
section MI
variable {S : t_Script} {M : t_Model} {n L : Nat} {C : t_Scenes} {G : t_Pages} {Hs : t_Hist} {tl : Int32} {tx : Rw}
theorem keep_t {M1 : t_Model} {D : t_Script} {n' L' : Nat} (hH : HR Hs M1.2.1 M1.2.2.2.1) (hS : SOK S n L) (hA : MR S M1.2.2.1 n L) (hD : SOK D n' L') (hM : MR D M1.1 n' L') (hT : TX tl tx M1.2.2.2.2.2.1 M1.2.2.2.2.1) (E : t_Scenes) (F : t_Pages) (ans : Int32) : ∃ S' C' G' Hs' M2, X6_keepDraft tl S D C E G F Hs tx = some (S', C', G', Hs') ∧ X7_ends M1 ans = some (ans, M2) ∧ M2.2.2.2.2.2.2.1 = 0 ∧ SEq D S' n' ∧ InvC tl S' C' G' Hs' tx M2 := by
  obtain ⟨Hs', p, c, h1, h2, h3⟩ := store_t hH hS hA ans
  have eq := copy_eq (S := D) (D := S) hD.2.2.1
  have k1 := eq.ok hD
  have k2 := eq.mr hM
  obtain ⟨C', h4, h5⟩ := survey_t k1 C
  obtain ⟨G', h6, h7⟩ := arrange_t k1 G k2
  refine ⟨X5_copyFrom S D, C', G', Hs', mEnd M1 p c, ?_, h2, rfl, eq, n', L', k1, k2, h5, h7, h3, hT⟩
  unfold X6_keepDraft
  simp only [zlet_e]
  rw [h1, Option.bind_some, h4, Option.bind_some, h6, Option.bind_some]
theorem isElement_t (hS : SOK S n L) (hM : MR S M.1 n L) (p : Int32) : X7_isElement M p = some (X5_has S p) := by
  have hn := hS.2.2.1
  unfold X7_isElement X5_has
  simp only [zlet_e]
  rw [zix1, cl1, hM.2.1, in_b (by omega), hS.1]
theorem has_ex (hS : SOK S n L) {p : Int32} (h : ¬ X5_has S p = 0) : ∃ i, i < n ∧ p = nI i := by
  have hn := hS.2.2.1
  unfold X5_has at h
  rw [hS.1] at h
  exact below_ex (by omega) h
/-- behind hold -/
theorem hold_mr (hS : SOK S n L) (hM : MR S M.1 n L) : ∃ a, X7_hold M = some (mAs M a) ∧ MR S (mAs M a).2.2.1 n L ∧ MR S (mAs M a).1 n L := by
  obtain ⟨a, h1, h2⟩ := hold_t M
  exact ⟨a, h1, MR_congr hS.2.2.1 h2 hM, hM⟩
def TW (S : t_Script) (n h k : Nat) : Prop := lbA S n h = lbA S n k ∧ lbB S n h = lbB S n k ∧ lbC S n h = lbC S n k
def DUP (S : t_Script) (n : Nat) : Prop := ∃ h k, k < h ∧ h < n ∧ S.2.2.1 h = 0 ∧ S.2.2.1 k = 0 ∧ TW S n h k
theorem twin_x (hS : SOK S n L) (hC : CSok C S n) {h k : Nat} (hh : h < n) (hk : k < n) (a : S.2.2.1 h = 0) (b : S.2.2.1 k = 0) : (TW S n h k → X4_areTwins C (nI (hcN S.2.2.1 h)) (nI (hcN S.2.2.1 k)) = 1) ∧ (¬ TW S n h k → X4_areTwins C (nI (hcN S.2.2.1 h)) (nI (hcN S.2.2.1 k)) = 0) := by
  have hn := hS.2.2.1
  have e : ∀ (f : Rw) (s : Nat), s < n → rAt 60 f (nI (hcN S.2.2.1 s)) = f (hcN S.2.2.1 s) := fun f s hs => rAt_nI (by decide) f (by have := hc_le S.2.2.1 s; omega)
  obtain ⟨-, x1, x2, x3⟩ := hC.2.2.2.1 h hh a
  obtain ⟨-, y1, y2, y3⟩ := hC.2.2.2.1 k hk b
  unfold X4_areTwins TW
  simp only [zlet_e]
  rw [e _ h hh, e _ k hk, e _ h hh, e _ k hk, e _ h hh, e _ k hk, x1, x2, x3, y1, y2, y3]
  by_cases c1 : lbA S n h = lbA S n k <;> by_cases c2 : lbB S n h = lbB S n k <;> by_cases c3 : lbC S n h = lbC S n k <;> simp [c1, c2, c3]
theorem hc_rev {kd : Rw} {h k : Nat} (a : hcN kd k < hcN kd h) : k < h := by
  by_cases c : k < h
  · exact c
  · have := hc_mono kd (i := h) (j := k) (by omega)
    omega
theorem hasTwins_t (hS : SOK S n L) (hC : CSok C S n) : ∃ r, X4_hasTwins C = some r ∧ ((r = 1 ∧ DUP S n) ∨ (r = 0 ∧ ¬ DUP S n)) := by
  have hn := hS.2.2.1
  have hcl := hc_le S.2.2.1 n
  have inner : ∀ h, h < n → S.2.2.1 h = 0 → ∃ X, zloop (b_X4_hasTwins_12 C (nI (hcN S.2.2.1 h))) FU 0 = some X ∧ ((X = .inl () ∧ ∀ k, k < h → S.2.2.1 k = 0 → ¬ TW S n h k) ∨ (X = .inr 1 ∧ ∃ k, k < h ∧ S.2.2.1 k = 0 ∧ TW S n h k)) := by
    intro h hh a
    have hhl := hc_le S.2.2.1 h
    exact zl_up (body := b_X4_hasTwins_12 C (nI (hcN S.2.2.1 h))) (fun j v => v = nI j ∧ ∀ k, k < n → S.2.2.1 k = 0 → hcN S.2.2.1 k < j → ¬ TW S n h k) _ (hcN S.2.2.1 h)
      (fun rec v hv => by
        obtain ⟨rfl, hv⟩ := hv
        unfold b_X4_hasTwins_12
        rw [if_pos (nI_le (Nat.le_refl _) (by omega))]
        exact ⟨_, rfl, Or.inl ⟨rfl, fun k hk b => hv k (by omega) b (hc_lt hk b)⟩⟩)
      (fun rec j v hj hv kk => by
        obtain ⟨rfl, hv⟩ := hv
        obtain ⟨k, k1, k2, k3⟩ := hc_ex (Nat.lt_trans hj (hc_lt hh a))
        obtain ⟨t1, t2⟩ := twin_x hS hC hh k1 a k2
        unfold b_X4_hasTwins_12
        simp only [zlet_e, nI_1]
        rw [if_neg (nI_ge hj (by omega)), ← k3]
        by_cases c : TW S n h k
        · rw [t1 c, if_neg (by decide)]
          exact ⟨_, rfl, Or.inr ⟨rfl, k, hc_rev (kd := S.2.2.1) (by omega), k2, c⟩⟩
        · rw [t2 c, if_pos rfl, k3]
          refine kk _ ⟨rfl, fun k' b1 b2 b3 => ?_⟩
          by_cases e : hcN S.2.2.1 k' = j
          · rw [hc_inj b2 k2 (by omega)]; exact c
          · exact hv k' b1 b2 (by omega))
      FU 0 0 (Nat.zero_le _) ⟨rfl, fun k b1 b2 b3 => absurd b3 (Nat.not_lt_zero _)⟩ (show hcN S.2.2.1 h - 0 < 3000 by omega)
  obtain ⟨X, h1, h2⟩ := zl_up (body := b_X4_hasTwins_2 C) (fun j v => v = nI j ∧ ∀ h, h < n → S.2.2.1 h = 0 → hcN S.2.2.1 h < j → ∀ k, k < h → S.2.2.1 k = 0 → ¬ TW S n h k) (fun X => (X = .inl () ∧ ¬ DUP S n) ∨ (X = .inr 1 ∧ DUP S n)) (hcN S.2.2.1 n)
    (fun rec v hv => by
      obtain ⟨rfl, hv⟩ := hv
      unfold b_X4_hasTwins_2
      rw [if_pos (show C.1 ≤ _ by rw [hC.1]; exact nI_le (Nat.le_refl _) (by omega))]
      refine ⟨_, rfl, Or.inl ⟨rfl, ?_⟩⟩
      rintro ⟨h, k, b1, b2, b3, b4, b5⟩
      exact hv h b2 b3 (hc_lt b2 b3) k b1 b4 b5)
    (fun rec j v hj hv kk => by
      obtain ⟨rfl, hv⟩ := hv
      obtain ⟨h, k1, k2, k3⟩ := hc_ex hj
      obtain ⟨X, x1, x2⟩ := inner h k1 k2
      unfold b_X4_hasTwins_2
      rw [if_neg (show ¬ C.1 ≤ _ by rw [hC.1]; exact nI_ge hj (by omega)), ← k3, x1, Option.bind_some]
      rcases x2 with ⟨x2, x3⟩ | ⟨x2, k, x3, x4, x5⟩
      · rw [x2]
        show ∃ X, zlet (nI (hcN S.2.2.1 h) + 1) (fun u5 => rec u5) = some X ∧ _
        rw [zlet_e, nI_1]
        refine kk _ ⟨by rw [k3], fun h' b1 b2 b3 => ?_⟩
        by_cases e : hcN S.2.2.1 h' = j
        · rw [hc_inj b2 k2 (by omega)]; exact x3
        · exact hv h' b1 b2 (by omega)
      · rw [x2]
        exact ⟨_, rfl, Or.inr ⟨rfl, h, k, x3, k1, k2, x4, x5⟩⟩)
    FU 0 0 (Nat.zero_le _) ⟨rfl, fun k b1 b2 b3 => absurd b3 (Nat.not_lt_zero _)⟩ (show hcN S.2.2.1 n - 0 < 3000 by omega)
  unfold X4_hasTwins
  rw [h1, Option.bind_some]
  rcases h2 with ⟨h2, h3⟩ | ⟨h2, h3⟩
  · rw [h2]; exact ⟨0, rfl, Or.inr ⟨rfl, h3⟩⟩
  · rw [h2]; exact ⟨1, rfl, Or.inl ⟨rfl, h3⟩⟩
theorem areTwo_t (hS : SOK S n L) (hM : MR S M.1 n L) {h k : Nat} (hh : h < n) (hk : k < n) (a : S.2.2.1 h = 0) (b : S.2.2.1 k = 0) : (TW S n h k → X7_areTwo M (nI k) (nI h) = some 1) ∧ (¬ TW S n h k → X7_areTwo M (nI k) (nI h) = some 0) := by
  obtain ⟨x1, x2, x3⟩ := label_t hS hM hh a
  obtain ⟨y1, y2, y3⟩ := label_t hS hM hk b
  unfold X7_areTwo TW
  rw [x1, x2, x3, y1, y2, y3]
  simp only [Option.bind_some]
  have s1 : (lbA S n k = lbA S n h) = (lbA S n h = lbA S n k) := propext ⟨Eq.symm, Eq.symm⟩
  have s2 : (lbB S n k = lbB S n h) = (lbB S n h = lbB S n k) := propext ⟨Eq.symm, Eq.symm⟩
  have s3 : (lbC S n k = lbC S n h) = (lbC S n h = lbC S n k) := propext ⟨Eq.symm, Eq.symm⟩
  by_cases c1 : lbA S n h = lbA S n k <;> by_cases c2 : lbB S n h = lbB S n k <;> by_cases c3 : lbC S n h = lbC S n k <;> simp [c1, c2, c3, s1, s2, s3]
theorem hasTwo_t (hS : SOK S n L) (hM : MR S M.1 n L) : ∃ r, X7_hasTwo M = some r ∧ ((r = 1 ∧ DUP S n) ∨ (r = 0 ∧ ¬ DUP S n)) := by
  have hn := hS.2.2.1
  have inner : ∀ (h : Nat) (v1 : Int32) (A : Prop), h < n → ((v1 = 1 ∧ A) ∨ (v1 = 0 ∧ ¬ A)) → ∃ X, zloop (b_X7_hasTwo_16 M (nI h)) FU (v1, 0) = some X ∧ ((X = 1 ∧ (A ∨ ∃ k, k < h ∧ S.2.2.1 h = 0 ∧ S.2.2.1 k = 0 ∧ TW S n h k)) ∨ (X = 0 ∧ ¬ (A ∨ ∃ k, k < h ∧ S.2.2.1 h = 0 ∧ S.2.2.1 k = 0 ∧ TW S n h k))) := by
    intro h v1 A hh hv1
    exact zl_up (body := b_X7_hasTwo_16 M (nI h)) (fun j v => v.2 = nI j ∧ ((v.1 = 1 ∧ (A ∨ ∃ k, k < j ∧ S.2.2.1 h = 0 ∧ S.2.2.1 k = 0 ∧ TW S n h k)) ∨ (v.1 = 0 ∧ ¬ (A ∨ ∃ k, k < j ∧ S.2.2.1 h = 0 ∧ S.2.2.1 k = 0 ∧ TW S n h k)))) _ h
      (fun rec v hv => by
        obtain ⟨v0, v2⟩ := v
        obtain ⟨rfl, hv⟩ := hv
        unfold b_X7_hasTwo_16
        rw [if_pos (nI_le (Nat.le_refl _) (by omega))]
        exact ⟨_, rfl, hv⟩)
      (fun rec j v hj hv kk => by
        obtain ⟨v0, v2⟩ := v
        obtain ⟨rfl, hv⟩ := hv
        unfold b_X7_hasTwo_16
        simp only [zlet_e, nI_1]
        rw [if_neg (nI_ge hj (by omega))]
        rcases hv with ⟨rfl, hv⟩ | ⟨rfl, hv⟩
        · rw [if_neg (by decide)]
          refine kk _ ⟨rfl, Or.inl ⟨rfl, ?_⟩⟩
          rcases hv with hv | ⟨k, b1, b2⟩
          · exact Or.inl hv
          · exact Or.inr ⟨k, by omega, b2⟩
        · have no : (∀ (b2 : S.2.2.1 h = 0) (b3 : S.2.2.1 j = 0), ¬ TW S n h j) → ¬ (A ∨ ∃ k, k < j + 1 ∧ S.2.2.1 h = 0 ∧ S.2.2.1 k = 0 ∧ TW S n h k) := by
            rintro b (c | ⟨k, c1, c2, c3, c4⟩)
            · exact hv (Or.inl c)
            · by_cases e : k = j
              · subst e; exact b c2 c3 c4
              · exact hv (Or.inr ⟨k, by omega, c2, c3, c4⟩)
          rw [head_t hS hM hh, head_t hS hM (show j < n by omega)]
          simp only [if_true, Option.bind_some]
          by_cases c1 : S.2.2.1 h = 0
          · by_cases c2 : S.2.2.1 j = 0
            · obtain ⟨t1, t2⟩ := areTwo_t hS hM hh (show j < n by omega) c1 c2
              by_cases c3 : TW S n h j
              · rw [if_pos c1, if_neg (by decide), if_pos c2, if_neg (by decide), t1 c3, Option.bind_some, if_neg (by decide)]
                exact kk _ ⟨rfl, Or.inl ⟨rfl, Or.inr ⟨j, by omega, c1, c2, c3⟩⟩⟩
              · rw [if_pos c1, if_neg (by decide), if_pos c2, if_neg (by decide), t2 c3, Option.bind_some, if_pos rfl]
                exact kk _ ⟨rfl, Or.inr ⟨rfl, no (fun _ _ => c3)⟩⟩
            · rw [if_pos c1, if_neg (by decide), if_neg c2, if_pos rfl]
              exact kk _ ⟨rfl, Or.inr ⟨rfl, no (fun _ b => absurd b c2)⟩⟩
          · rw [if_neg c1, if_pos rfl]
            exact kk _ ⟨rfl, Or.inr ⟨rfl, no (fun b _ => absurd b c1)⟩⟩)
      FU 0 (v1, 0) (Nat.zero_le _) ⟨rfl, by
        rcases hv1 with ⟨a, b⟩ | ⟨a, b⟩
        · exact Or.inl ⟨a, Or.inl b⟩
        · refine Or.inr ⟨a, ?_⟩
          rintro (c | ⟨k, c, -⟩)
          · exact b c
          · exact absurd c (Nat.not_lt_zero _)⟩ (show h - 0 < 3000 by omega)
  obtain ⟨X, h1, h2⟩ := zl_up (body := b_X7_hasTwo_4 M) (fun j v => v.2 = nI j ∧ ((v.1 = 1 ∧ ∃ h k, h < j ∧ k < h ∧ S.2.2.1 h = 0 ∧ S.2.2.1 k = 0 ∧ TW S n h k) ∨ (v.1 = 0 ∧ ¬ ∃ h k, h < j ∧ k < h ∧ S.2.2.1 h = 0 ∧ S.2.2.1 k = 0 ∧ TW S n h k))) (fun X => (X = 1 ∧ DUP S n) ∨ (X = 0 ∧ ¬ DUP S n)) n
    (fun rec v hv => by
      obtain ⟨v0, v2⟩ := v
      obtain ⟨rfl, hv⟩ := hv
      unfold b_X7_hasTwo_4
      simp only [zlet_e]
      rw [zix1, cl1, hM.2.1, if_pos (nI_le (Nat.le_refl _) (by omega))]
      refine ⟨_, rfl, ?_⟩
      rcases hv with ⟨a, h, k, b1, b2, b3, b4, b5⟩ | ⟨a, b⟩
      · exact Or.inl ⟨a, h, k, b2, b1, b3, b4, b5⟩
      · refine Or.inr ⟨a, ?_⟩
        rintro ⟨h, k, b1, b2, b3, b4, b5⟩
        exact b ⟨h, k, b2, b1, b3, b4, b5⟩)
    (fun rec j v hj hv kk => by
      obtain ⟨v0, v2⟩ := v
      obtain ⟨rfl, hv⟩ := hv
      obtain ⟨X, x1, x2⟩ := inner j v0 _ hj hv
      unfold b_X7_hasTwo_4
      simp only [zlet_e, nI_1]
      rw [zix1, cl1, hM.2.1, if_neg (nI_ge hj (by omega)), x1, Option.bind_some]
      refine kk _ ⟨rfl, ?_⟩
      have e : ((∃ h k, h < j ∧ k < h ∧ S.2.2.1 h = 0 ∧ S.2.2.1 k = 0 ∧ TW S n h k) ∨ ∃ k, k < j ∧ S.2.2.1 j = 0 ∧ S.2.2.1 k = 0 ∧ TW S n j k) ↔ ∃ h k, h < j + 1 ∧ k < h ∧ S.2.2.1 h = 0 ∧ S.2.2.1 k = 0 ∧ TW S n h k := by
        constructor
        · rintro (⟨h, k, a, b⟩ | ⟨k, a⟩)
          · exact ⟨h, k, by omega, b⟩
          · exact ⟨j, k, by omega, a⟩
        · rintro ⟨h, k, a, b⟩
          by_cases c : h = j
          · subst c; exact Or.inr ⟨k, b⟩
          · exact Or.inl ⟨h, k, by omega, b⟩
      rw [e] at x2
      exact x2)
    FU 0 (0, 0) (Nat.zero_le _) ⟨rfl, Or.inr ⟨rfl, by rintro ⟨h, k, a, -⟩; exact absurd a (Nat.not_lt_zero _)⟩⟩ (show n - 0 < 3000 by omega)
  refine ⟨X, ?_, h2⟩
  unfold X7_hasTwo
  rw [h1, Option.bind_some]
  unfold zbl
  rw [if_pos]
  rcases h2 with ⟨h2, -⟩ | ⟨h2, -⟩
  · exact Or.inr h2
  · exact Or.inl h2
end MI

-- digest: class and reference
def mxN (f : Nat → Int32) (h : Int64) : Nat → Int64
  | 0 => h
  | k + 1 => 31 * mxN f h k + (f k).toInt64
theorem mx_add (f : Nat → Int32) (h : Int64) (a : Nat) : ∀ b, mxN f h (a + b) = mxN (fun w => f (a + w)) (mxN f h a) b
  | 0 => rfl
  | b + 1 => by
    show 31 * mxN f h (a + b) + (f (a + b)).toInt64 = 31 * mxN (fun w => f (a + w)) (mxN f h a) b + (f (a + b)).toInt64
    rw [mx_add f h a b]
theorem mx_congr {f g : Nat → Int32} {h : Int64} : ∀ {b : Nat}, (∀ w, w < b → f w = g w) → mxN f h b = mxN g h b := by
  intro b
  induction b with
  | zero => intro _; rfl
  | succ b ih =>
    intro e
    show 31 * mxN f h b + (f b).toInt64 = 31 * mxN g h b + (g b).toInt64
    rw [ih (fun w hw => e w (by omega)), e b (by omega)]
def mHs (M : t_Model) (h : Int64) : t_Model := (M.1, M.2.1, M.2.2.1, M.2.2.2.1, M.2.2.2.2.1, M.2.2.2.2.2.1, M.2.2.2.2.2.2.1, M.2.2.2.2.2.2.2.1, M.2.2.2.2.2.2.2.2.1, M.2.2.2.2.2.2.2.2.2.1, M.2.2.2.2.2.2.2.2.2.2.1, M.2.2.2.2.2.2.2.2.2.2.2.1, M.2.2.2.2.2.2.2.2.2.2.2.2.1, M.2.2.2.2.2.2.2.2.2.2.2.2.2.1, M.2.2.2.2.2.2.2.2.2.2.2.2.2.2.1, M.2.2.2.2.2.2.2.2.2.2.2.2.2.2.2.1, M.2.2.2.2.2.2.2.2.2.2.2.2.2.2.2.2.1, M.2.2.2.2.2.2.2.2.2.2.2.2.2.2.2.2.2.1, h)
theorem mHs_s (M : t_Model) (h : Int64) : (mHs M h).1 = M.1 := rfl
theorem mHs_p (M : t_Model) (h : Int64) : (mHs M h).2.2.2.2.2.2.2.1 = M.2.2.2.2.2.2.2.1 := rfl
theorem mix_t (M : t_Model) (h : Int64) (v : Int32) : X7_mix (mHs M h) v = mHs M (31 * h + v.toInt64) := rfl
theorem Inv_hs {tl : Int32} {S : t_Script} {C : t_Scenes} {G : t_Pages} {Hs : t_Hist} {tx : Rw} {M : t_Model} (h : InvC tl S C G Hs tx M) (k : Int64) : InvC tl S C G Hs tx (mHs M k) := h
section MD
variable {S : t_Script} {M : t_Model} {n L c : Nat} {C : t_Scenes} {G : t_Pages} (tl : Int32) (D : t_Script) (E : t_Scenes) (F : t_Pages) (Hs : t_Hist) (tx : Rw)
def gSc (S : t_Script) (C : t_Scenes) (G : t_Pages) (tl : Int32) (D : t_Script) (E : t_Scenes) (F : t_Pages) (Hs : t_Hist) (tx : Rw) (s w : Nat) : Int32 := (X6_sceneFact tl S D C E G F Hs tx (nI s) (nI w)).getD 0
theorem dg_value (hS : SOK S n L) (hM : MR S M.1 n L) (hC : CSok C S n) (hP : PRfin G M S n c) (h : Int64) : zloop (b_X6_digest_12 tl S D C E G F Hs tx) FU (h, 0) = some (mxN (fun w => X6_valueOf tl S D C E G F Hs tx (nI w)) h 8) ∧ zloop b_X7_digest_32 FU (mHs M h, 0) = some (mHs M (mxN (fun w => X6_valueOf tl S D C E G F Hs tx (nI w)) h 8)) := by
  obtain ⟨X, X2, h1, h2, h3, h4⟩ := zl_two (body := b_X6_digest_12 tl S D C E G F Hs tx) (body2 := b_X7_digest_32) (fun j v v2 => v = (mxN (fun w => X6_valueOf tl S D C E G F Hs tx (nI w)) h j, nI j) ∧ v2 = (mHs M (mxN (fun w => X6_valueOf tl S D C E G F Hs tx (nI w)) h j), nI j)) (fun X X2 => X = mxN (fun w => X6_valueOf tl S D C E G F Hs tx (nI w)) h 8 ∧ X2 = mHs M (mxN (fun w => X6_valueOf tl S D C E G F Hs tx (nI w)) h 8)) 8
    (fun rec rec2 v v2 hv => by
      obtain ⟨rfl, rfl⟩ := hv
      unfold b_X6_digest_12 b_X7_digest_32
      rw [if_pos (show (8 : Int32) ≤ nI 8 by decide), if_pos (show (8 : Int32) ≤ nI 8 by decide)]
      exact ⟨_, _, rfl, rfl, rfl, rfl⟩)
    (fun rec rec2 j v v2 hj hv k => by
      obtain ⟨rfl, rfl⟩ := hv
      unfold b_X6_digest_12 b_X7_digest_32
      simp only [zlet_e, nI_1]
      rw [if_neg (show ¬ (8 : Int32) ≤ nI j from nI_ge (b := 8) hj (by decide)), if_neg (show ¬ (8 : Int32) ≤ nI j from nI_ge (b := 8) hj (by decide)), valueOf_t (M := mHs M (mxN (fun w => X6_valueOf tl S D C E G F Hs tx (nI w)) h j)) tl D E F Hs tx hS hM hC hP hj, Option.bind_some, mix_t]
      exact k _ _ ⟨rfl, rfl⟩)
    FU 0 (h, 0) (mHs M h, 0) (Nat.zero_le _) ⟨rfl, rfl⟩ (show 8 - 0 < 3000 by decide)
  rw [h1, h2, h3, h4]
  exact ⟨rfl, rfl⟩
/-- the class's two loops are the reference's one -/
theorem dg_in (f : Nat → Int32) (h : Int64) (m i : Nat) (hm : 0 < m) (g : Nat → Nat → Int32) (hg : ∀ k, f k = g (k / m) (k % m)) : mxN (fun w => g i w) (mxN f h (m * i)) m = mxN f h (m * (i + 1)) := by
  rw [Nat.mul_succ, mx_add f h (m * i) m]
  refine mx_congr (fun w hw => ?_)
  rw [hg, Nat.mul_add_div hm, Nat.mul_add_mod, Nat.div_eq_of_lt hw, Nat.mod_eq_of_lt hw, Nat.add_zero]
theorem dv_t {k m : Nat} (hk : k < 1000) (h0 : 0 < m) (hm : m < 1000) : nI k / nI m = nI (k / m) ∧ nI k - nI k / nI m * nI m = nI (k % m) := ⟨pk_div (by omega) h0 (by omega), pk_rem (by omega) h0 (by omega)⟩
theorem dg_elem (hS : SOK S n L) (hM : MR S M.1 n L) (hC : CSok C S n) (hP : PRfin G M S n c) (h : Int64) : ∃ x, zloop (b_X6_digest_39 tl S D C E G F Hs tx) FU (h, 0) = some x ∧ zloop b_X7_digest_55 FU (mHs M h, 0) = some (mHs M x) := by
  have hn := hS.2.2.1
  have inner : ∀ i, i < n → ∀ h0 : Int64, zloop (b_X6_digest_53 tl S D C E G F Hs tx (nI i)) FU (h0, 0) = some (mxN (fun w => X6_elementFact tl S D C E G F Hs tx (nI i) (nI w)) h0 10) := by
    intro i hi h0
    obtain ⟨X, h1, h2⟩ := zl_up (body := b_X6_digest_53 tl S D C E G F Hs tx (nI i)) (fun j v => v = (mxN (fun w => X6_elementFact tl S D C E G F Hs tx (nI i) (nI w)) h0 j, nI j)) (fun X => X = mxN (fun w => X6_elementFact tl S D C E G F Hs tx (nI i) (nI w)) h0 10) 10
      (fun rec v hv => by
        subst hv
        unfold b_X6_digest_53
        rw [if_pos (show (10 : Int32) ≤ nI 10 by decide)]
        exact ⟨_, rfl, rfl⟩)
      (fun rec j v hj hv k => by
        subst hv
        unfold b_X6_digest_53
        simp only [zlet_e, nI_1]
        rw [if_neg (show ¬ (10 : Int32) ≤ nI j from nI_ge (b := 10) hj (by decide))]
        exact k _ rfl)
      FU 0 (h0, 0) (Nat.zero_le _) rfl (show 10 - 0 < 3000 by decide)
    rw [h1, h2]
  obtain ⟨f, hf⟩ : ∃ f : Nat → Int32, f = fun k => X6_elementFact tl S D C E G F Hs tx (nI (k / 10)) (nI (k % 10)) := ⟨_, rfl⟩
  have hg : ∀ k, f k = (fun i w => X6_elementFact tl S D C E G F Hs tx (nI i) (nI w)) (k / 10) (k % 10) := fun k => by rw [hf]
  obtain ⟨X, h1, h2⟩ := zl_up (body := b_X6_digest_39 tl S D C E G F Hs tx) (fun j v => v = (mxN f h (10 * j), nI j)) (fun X => X = mxN f h (10 * n)) n
    (fun rec v hv => by
      subst hv
      unfold b_X6_digest_39
      rw [if_pos (show S.1 ≤ nI n by rw [hS.1]; exact nI_le (Nat.le_refl _) (by omega))]
      exact ⟨_, rfl, rfl⟩)
    (fun rec j v hj hv k => by
      subst hv
      unfold b_X6_digest_39
      simp only [zlet_e, nI_1]
      rw [if_neg (show ¬ S.1 ≤ nI j by rw [hS.1]; exact nI_ge hj (by omega)), inner j hj, Option.bind_some, dg_in f h 10 j (by decide) (fun i w => X6_elementFact tl S D C E G F Hs tx (nI i) (nI w)) hg]
      exact k _ rfl)
    FU 0 (h, 0) (Nat.zero_le _) rfl (show n - 0 < 3000 by omega)
  obtain ⟨Y, k1, k2⟩ := zl_up (body := b_X7_digest_55) (fun j v => v = (mHs M (mxN f h j), nI j)) (fun X => X = mHs M (mxN f h (10 * n))) (10 * n)
    (fun rec v hv => by
      subst hv
      unfold b_X7_digest_55
      simp only [zlet_e, mHs_s]
      rw [zix1, cl1, hM.2.1, show (10 : Int32) = nI 10 from rfl, pk_mul, if_pos (nI_le (Nat.le_refl _) (by omega))]
      exact ⟨_, rfl, rfl⟩)
    (fun rec j v hj hv k => by
      subst hv
      obtain ⟨d1, d2⟩ := dv_t (k := j) (m := 10) (by omega) (by decide) (by decide)
      have hq : j / 10 < n := Nat.div_lt_of_lt_mul hj
      have hr : j % 10 < 10 := Nat.mod_lt _ (by decide)
      unfold b_X7_digest_55
      simp only [zlet_e, mHs_s, nI_1]
      rw [zix1, cl1, hM.2.1, show (10 : Int32) = nI 10 from rfl, pk_mul, if_neg (nI_ge hj (by omega)), d2, d1, elementOf_t (M := mHs M (mxN f h j)) tl D E F Hs tx hS hM hC hP hq hr, Option.bind_some, mix_t]
      refine k _ ?_
      show _ = (mHs M (31 * mxN f h j + (f j).toInt64), nI (j + 1))
      rw [hg])
    FU 0 (mHs M h, 0) (Nat.zero_le _) rfl (show 10 * n - 0 < 3000 by omega)
  exact ⟨mxN f h (10 * n), by rw [h1, h2], by rw [k1, k2]⟩
theorem dg_scene (hS : SOK S n L) (hM : MR S M.1 n L) (hC : CSok C S n) (hP : PRfin G M S n c) (h : Int64) : ∃ x, zloop (b_X6_digest_89 tl S D C E G F Hs tx) FU (h, 0) = some x ∧ zloop (b_X7_digest_97 (nI (hcN S.2.2.1 n))) FU (mHs M h, 0) = some (mHs M x) := by
  have hn := hS.2.2.1
  have hcl := hc_le S.2.2.1 n
  have sc : ∀ s, s < hcN S.2.2.1 n → ∀ w, w < 10 → X6_sceneFact tl S D C E G F Hs tx (nI s) (nI w) = some (gSc S C G tl D E F Hs tx s w) ∧ ∀ h' : Int64, X7_sceneTold (mHs M h') (nI s) (nI w) = some (gSc S C G tl D E F Hs tx s w) := by
    intro s hs w hw
    obtain ⟨x, x1, x2⟩ := sceneTold_t tl D E F Hs tx hS hM hC hP hs hw
    have e : gSc S C G tl D E F Hs tx s w = x := by unfold gSc; rw [x2]; rfl
    rw [e]
    refine ⟨x2, fun h' => ?_⟩
    obtain ⟨y, y1, y2⟩ := sceneTold_t (M := mHs M h') tl D E F Hs tx hS hM hC hP hs hw
    rw [x2] at y2
    rw [y1]
    exact y2.symm
  have inner : ∀ i, i < hcN S.2.2.1 n → ∀ h0 : Int64, zloop (b_X6_digest_103 tl S D C E G F Hs tx (nI i)) FU (h0, 0) = some (mxN (fun w => gSc S C G tl D E F Hs tx i w) h0 10) := by
    intro i hi h0
    obtain ⟨X, h1, h2⟩ := zl_up (body := b_X6_digest_103 tl S D C E G F Hs tx (nI i)) (fun j v => v = (mxN (fun w => gSc S C G tl D E F Hs tx i w) h0 j, nI j)) (fun X => X = mxN (fun w => gSc S C G tl D E F Hs tx i w) h0 10) 10
      (fun rec v hv => by
        subst hv
        unfold b_X6_digest_103
        rw [if_pos (show (10 : Int32) ≤ nI 10 by decide)]
        exact ⟨_, rfl, rfl⟩)
      (fun rec j v hj hv k => by
        subst hv
        unfold b_X6_digest_103
        simp only [zlet_e, nI_1]
        rw [if_neg (show ¬ (10 : Int32) ≤ nI j from nI_ge (b := 10) hj (by decide)), (sc i hi j hj).1, Option.bind_some]
        exact k _ rfl)
      FU 0 (h0, 0) (Nat.zero_le _) rfl (show 10 - 0 < 3000 by decide)
    rw [h1, h2]
  obtain ⟨f, hf⟩ : ∃ f : Nat → Int32, f = fun k => gSc S C G tl D E F Hs tx (k / 10) (k % 10) := ⟨_, rfl⟩
  have hg : ∀ k, f k = (fun i w => gSc S C G tl D E F Hs tx i w) (k / 10) (k % 10) := fun k => by rw [hf]
  obtain ⟨X, h1, h2⟩ := zl_up (body := b_X6_digest_89 tl S D C E G F Hs tx) (fun j v => v = (mxN f h (10 * j), nI j)) (fun X => X = mxN f h (10 * hcN S.2.2.1 n)) (hcN S.2.2.1 n)
    (fun rec v hv => by
      subst hv
      unfold b_X6_digest_89
      rw [if_pos (show C.1 ≤ nI (hcN S.2.2.1 n) by rw [hC.1]; exact nI_le (Nat.le_refl _) (by omega))]
      exact ⟨_, rfl, rfl⟩)
    (fun rec j v hj hv k => by
      subst hv
      unfold b_X6_digest_89
      simp only [zlet_e, nI_1]
      rw [if_neg (show ¬ C.1 ≤ nI j by rw [hC.1]; exact nI_ge hj (by omega)), inner j hj, Option.bind_some, dg_in f h 10 j (by decide) (fun i w => gSc S C G tl D E F Hs tx i w) hg]
      exact k _ rfl)
    FU 0 (h, 0) (Nat.zero_le _) rfl (show hcN S.2.2.1 n - 0 < 3000 by omega)
  obtain ⟨Y, k1, k2⟩ := zl_up (body := b_X7_digest_97 (nI (hcN S.2.2.1 n))) (fun j v => v = (mHs M (mxN f h j), nI j)) (fun X => X = mHs M (mxN f h (10 * hcN S.2.2.1 n))) (10 * hcN S.2.2.1 n)
    (fun rec v hv => by
      subst hv
      unfold b_X7_digest_97
      simp only [zlet_e]
      rw [show (10 : Int32) = nI 10 from rfl, pk_mul, if_pos (nI_le (Nat.le_refl _) (by omega))]
      exact ⟨_, rfl, rfl⟩)
    (fun rec j v hj hv k => by
      subst hv
      obtain ⟨d1, d2⟩ := dv_t (k := j) (m := 10) (by omega) (by decide) (by decide)
      have hq : j / 10 < hcN S.2.2.1 n := Nat.div_lt_of_lt_mul hj
      have hr : j % 10 < 10 := Nat.mod_lt _ (by decide)
      unfold b_X7_digest_97
      simp only [zlet_e, nI_1]
      rw [show (10 : Int32) = nI 10 from rfl, pk_mul, if_neg (nI_ge hj (by omega)), d2, d1, (sc _ hq _ hr).2, Option.bind_some, mix_t]
      refine k _ ?_
      show _ = (mHs M (31 * mxN f h j + (f j).toInt64), nI (j + 1))
      rw [hg])
    FU 0 (mHs M h, 0) (Nat.zero_le _) rfl (show 10 * hcN S.2.2.1 n - 0 < 3000 by omega)
  exact ⟨mxN f h (10 * hcN S.2.2.1 n), by rw [h1, h2], by rw [k1, k2]⟩
theorem dg_page (hS : SOK S n L) (hM : MR S M.1 n L) (hP : PRfin G M S n c) (h : Int64) : ∃ x, zloop (b_X6_digest_139 tl S D C E G F Hs tx) FU (h, 0) = some x ∧ zloop b_X7_digest_129 FU (mHs M h, 0) = some (mHs M x) := by
  have hn := hS.2.2.1
  have hcn := hP.1
  have inner : ∀ i, i < c → ∀ h0 : Int64, zloop (b_X6_digest_153 tl S D C E G F Hs tx (nI i)) FU (h0, 0) = some (mxN (fun w => X6_pageFact tl S D C E G F Hs tx (nI i) (nI w)) h0 5) := by
    intro i hi h0
    obtain ⟨X, h1, h2⟩ := zl_up (body := b_X6_digest_153 tl S D C E G F Hs tx (nI i)) (fun j v => v = (mxN (fun w => X6_pageFact tl S D C E G F Hs tx (nI i) (nI w)) h0 j, nI j)) (fun X => X = mxN (fun w => X6_pageFact tl S D C E G F Hs tx (nI i) (nI w)) h0 5) 5
      (fun rec v hv => by
        subst hv
        unfold b_X6_digest_153
        rw [if_pos (show (5 : Int32) ≤ nI 5 by decide)]
        exact ⟨_, rfl, rfl⟩)
      (fun rec j v hj hv k => by
        subst hv
        unfold b_X6_digest_153
        simp only [zlet_e, nI_1]
        rw [if_neg (show ¬ (5 : Int32) ≤ nI j from nI_ge (b := 5) hj (by decide))]
        exact k _ rfl)
      FU 0 (h0, 0) (Nat.zero_le _) rfl (show 5 - 0 < 3000 by decide)
    rw [h1, h2]
  obtain ⟨f, hf⟩ : ∃ f : Nat → Int32, f = fun k => X6_pageFact tl S D C E G F Hs tx (nI (k / 5)) (nI (k % 5)) := ⟨_, rfl⟩
  have hg : ∀ k, f k = (fun i w => X6_pageFact tl S D C E G F Hs tx (nI i) (nI w)) (k / 5) (k % 5) := fun k => by rw [hf]
  obtain ⟨X, h1, h2⟩ := zl_up (body := b_X6_digest_139 tl S D C E G F Hs tx) (fun j v => v = (mxN f h (5 * j), nI j)) (fun X => X = mxN f h (5 * c)) c
    (fun rec v hv => by
      subst hv
      unfold b_X6_digest_139
      rw [if_pos (show G.1 ≤ nI c by rw [hP.2.1]; exact nI_le (Nat.le_refl _) (by omega))]
      exact ⟨_, rfl, rfl⟩)
    (fun rec j v hj hv k => by
      subst hv
      unfold b_X6_digest_139
      simp only [zlet_e, nI_1]
      rw [if_neg (show ¬ G.1 ≤ nI j by rw [hP.2.1]; exact nI_ge hj (by omega)), inner j hj, Option.bind_some, dg_in f h 5 j (by decide) (fun i w => X6_pageFact tl S D C E G F Hs tx (nI i) (nI w)) hg]
      exact k _ rfl)
    FU 0 (h, 0) (Nat.zero_le _) rfl (show c - 0 < 3000 by omega)
  obtain ⟨Y, k1, k2⟩ := zl_up (body := b_X7_digest_129) (fun j v => v = (mHs M (mxN f h j), nI j)) (fun X => X = mHs M (mxN f h (5 * c))) (5 * c)
    (fun rec v hv => by
      subst hv
      unfold b_X7_digest_129
      simp only [zlet_e, mHs_p]
      rw [hP.2.2.1, show (5 : Int32) = nI 5 from rfl, pk_mul, if_pos (nI_le (Nat.le_refl _) (by omega))]
      exact ⟨_, rfl, rfl⟩)
    (fun rec j v hj hv k => by
      subst hv
      obtain ⟨d1, d2⟩ := dv_t (k := j) (m := 5) (by omega) (by decide) (by decide)
      have hq : j / 5 < c := Nat.div_lt_of_lt_mul hj
      have hr : j % 5 < 5 := Nat.mod_lt _ (by decide)
      unfold b_X7_digest_129
      simp only [zlet_e, mHs_p, nI_1]
      rw [hP.2.2.1, show (5 : Int32) = nI 5 from rfl, pk_mul, if_neg (nI_ge hj (by omega)), d2, d1, pageTold_t (M := mHs M (mxN f h j)) (C := C) tl D E F Hs tx hS hM hP hq hr, Option.bind_some, mix_t]
      refine k _ ?_
      show _ = (mHs M (31 * mxN f h j + (f j).toInt64), nI (j + 1))
      rw [hg])
    FU 0 (mHs M h, 0) (Nat.zero_le _) rfl (show 5 * c - 0 < 3000 by omega)
  exact ⟨mxN f h (5 * c), by rw [h1, h2], by rw [k1, k2]⟩
theorem m_digest (hI : InvC tl S C G Hs tx M) : ∃ R M', X6_digest tl S D C E G F Hs tx = some R ∧ X7_digest M = some (R, M') ∧ InvC tl S C G Hs tx M' := by
  obtain ⟨n, L, hS, hM, hC, ⟨c, hG⟩, hH, hT⟩ := id hI
  obtain ⟨M1, s1, s2, s3⟩ := hG (mTh M 0) L hM
  have hM1 : MR S M1.1 n L := MFr_mr s2 (show MR S (mTh M 0).1 n L from hM)
  obtain ⟨k, -, e1, e2, -⟩ := hH
  obtain ⟨t, -, t2, t3, -⟩ := hT
  have et : M1.2.2.2.2.2.1 = tl := by rw [s2.2.2.2.2.2.1, t2]; exact t3
  obtain ⟨v1, v2⟩ := dg_value (M := M1) tl D E F Hs tx hS hM1 hC s3 (31 * 3331 + tl.toInt64)
  obtain ⟨x, x1, x2⟩ := dg_elem (M := M1) tl D E F Hs tx hS hM1 hC s3 (mxN (fun w => X6_valueOf tl S D C E G F Hs tx (nI w)) (31 * 3331 + tl.toInt64) 8)
  obtain ⟨y, y1, y2⟩ := dg_scene (M := M1) tl D E F Hs tx hS hM1 hC s3 x
  obtain ⟨z, z1, z2⟩ := dg_page (M := M1) (C := C) tl D E F Hs tx hS hM1 s3 y
  have ep : ∀ h : Int64, (mHs M1 h).2.2.2.1 = Hs.1 := fun h => by
    show M1.2.2.2.1 = Hs.1
    rw [s2.2.2.2.1, e1]; exact e2
  have i0 : (M1.1, M1.2.1, M1.2.2.1, M1.2.2.2.1, M1.2.2.2.2.1, M1.2.2.2.2.2.1, M1.2.2.2.2.2.2.1, M1.2.2.2.2.2.2.2.1, M1.2.2.2.2.2.2.2.2.1, M1.2.2.2.2.2.2.2.2.2.1, M1.2.2.2.2.2.2.2.2.2.2.1, M1.2.2.2.2.2.2.2.2.2.2.2.1, M1.2.2.2.2.2.2.2.2.2.2.2.2.1, M1.2.2.2.2.2.2.2.2.2.2.2.2.2.1, M1.2.2.2.2.2.2.2.2.2.2.2.2.2.2.1, M1.2.2.2.2.2.2.2.2.2.2.2.2.2.2.2.1, M1.2.2.2.2.2.2.2.2.2.2.2.2.2.2.2.2.1, M1.2.2.2.2.2.2.2.2.2.2.2.2.2.2.2.2.2.1, 3331) = mHs M1 3331 := rfl
  refine ⟨31 * z + Hs.1.toInt64, mHs M1 (31 * z + Hs.1.toInt64), ?_, ?_, Inv_hs (Inv_fr (Inv_th hI 0) s2) _⟩
  · unfold X6_digest
    simp only [zlet_e]
    rw [show (103261 : Int64) + tl.toInt64 = 31 * 3331 + tl.toInt64 from rfl, v1, Option.bind_some, x1, Option.bind_some, y1, Option.bind_some, z1, Option.bind_some]
  · unfold X7_digest
    simp only [zlet_e]
    rw [zix0, cl0, hM.1, show (M.1, M.2.1, M.2.2.1, M.2.2.2.1, M.2.2.2.2.1, M.2.2.2.2.2.1, 0, M.2.2.2.2.2.2.2.1, M.2.2.2.2.2.2.2.2.1, M.2.2.2.2.2.2.2.2.2.1, M.2.2.2.2.2.2.2.2.2.2.1, M.2.2.2.2.2.2.2.2.2.2.2.1, M.2.2.2.2.2.2.2.2.2.2.2.2.1, M.2.2.2.2.2.2.2.2.2.2.2.2.2.1, M.2.2.2.2.2.2.2.2.2.2.2.2.2.2.1, M.2.2.2.2.2.2.2.2.2.2.2.2.2.2.2.1, M.2.2.2.2.2.2.2.2.2.2.2.2.2.2.2.2.1, M.2.2.2.2.2.2.2.2.2.2.2.2.2.2.2.2.2.1, M.2.2.2.2.2.2.2.2.2.2.2.2.2.2.2.2.2.2) = mTh M 0 from rfl, s1, Option.bind_some, i0, et, mix_t, v2, Option.bind_some, x2, Option.bind_some, sceneMany_t (M := mHs M1 x) hS hM1, Option.bind_some, y2, Option.bind_some, z2, Option.bind_some, ep, mix_t]
    rfl
end MD

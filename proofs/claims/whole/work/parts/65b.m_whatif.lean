-- used, pagesWith, smallestPage, pagesBy: class and reference
section MW
variable {S : t_Script} {M : t_Model} {n L : Nat} {C : t_Scenes} {G : t_Pages} {Hs : t_Hist} {tl : Int32} {tx : Rw}
theorem MFr_refl (M : t_Model) : MFr M M := ⟨rfl, rfl, rfl, rfl, rfl, rfl, rfl, rfl, rfl, rfl, rfl⟩
theorem MFr_trans {M M' M'' : t_Model} (a : MFr M M') (b : MFr M' M'') : MFr M M'' := by
  obtain ⟨a1, a2, a3, a4, a5, a6, a7, a8, a9, a10, a11⟩ := a
  obtain ⟨b1, b2, b3, b4, b5, b6, b7, b8, b9, b10, b11⟩ := b
  exact ⟨b1.trans a1, b2.trans a2, b3.trans a3, b4.trans a4, b5.trans a5, b6.trans a6, b7.trans a7, b8.trans a8, b9.trans a9, b10.trans a10, b11.trans a11⟩
theorem pageLines_ex {p : Int32} (h0 : ¬ X6_isPageLines p = 0) : ∃ l, 20 ≤ l ∧ l ≤ 60 ∧ p = nI l := by
  unfold X6_isPageLines at h0
  by_cases h1 : p < 20
  · rw [if_pos h1] at h0; exact absurd rfl h0
  · rw [if_neg h1] at h0
    by_cases h2 : 60 < p
    · rw [if_pos h2] at h0; exact absurd rfl h0
    · have h3 : ¬ p < 0 := by
        intro h3
        apply h1
        rw [Int32.lt_iff_toInt_lt] at h3 ⊢
        exact Int.lt_trans h3 (by decide)
      obtain ⟨l, hl, rfl⟩ := nI_of h3
      have a : ¬ l < 20 := fun c => h1 (nI_lt (b := 20) c (by decide))
      have b : ¬ 60 < l := fun c => h2 (nI_lt (a := 60) c hl)
      exact ⟨l, by omega, by omega, rfl⟩
/-- an arrangement on the side: the class and the reference count the same -/
theorem what_t {D : t_Script} {l L1 : Nat} (hD : SOK D n l) (hM : MR D M.1 n L1) (F : t_Pages) : ∃ F' M' k, X1_arrange F D = some (nI k, F') ∧ X7_setsAll M (nI l) = some M' ∧ MFr M M' ∧ M'.2.2.2.2.2.2.2.1 = nI k ∧ k ≤ 60 := by
  obtain ⟨F', h1, c, h2⟩ := arrange_t hD F hM
  obtain ⟨M', s1, s2, s3⟩ := h2 M L1 hM
  have := hD.2.2.1
  have := s3.1
  exact ⟨F', M', c, by rw [h1, s3.2.1], s1, s2, s3.2.2.1, by omega⟩
theorem m_pagesWith (hI : InvC tl S C G Hs tx M) (D : t_Script) (E : t_Scenes) (F : t_Pages) (p1 : Int32) : ∃ R a M', X6_pagesWith tl S D C E G F Hs tx p1 = some R ∧ X7_pagesWith M p1 = some (a, M') ∧ Ans [(1, 1)] R.1 a M' ∧ InvC tl S C G Hs tx M' := by
  obtain ⟨n, L, hS, hM, hC, hG, hH, hT⟩ := id hI
  have hn := hS.2.2.1
  have e : X7_isPage p1 = X6_isPageLines p1 := rfl
  unfold X6_pagesWith X7_pagesWith
  rw [e]
  simp only [zlet_e]
  by_cases h0 : X6_isPageLines p1 = 0
  · rw [if_pos h0, if_pos h0, fails_t]
    exact ⟨_, _, _, rfl, rfl, ⟨rfl, fun v h => by cases h⟩, Inv_th hI 1⟩
  · obtain ⟨l, l1, l2, rfl⟩ := pageLines_ex h0
    have cp := copy_eq (S := S) (D := D) hn
    obtain ⟨T, hT9⟩ : ∃ T, T = X5_copyFrom D S := ⟨_, rfl⟩
    rw [← hT9] at cp ⊢
    have tS := cp.ok hS
    have kS : SOK (T.1, nI l, T.2.2.1, T.2.2.2.1, T.2.2.2.2.1, T.2.2.2.2.2.1, T.2.2.2.2.2.2.1, T.2.2.2.2.2.2.2.1, T.2.2.2.2.2.2.2.2.1, T.2.2.2.2.2.2.2.2.2) n l := ⟨tS.1, rfl, tS.2.2.1, l1, l2, tS.2.2.2.2.2⟩
    have kM : MR (T.1, nI l, T.2.2.1, T.2.2.2.1, T.2.2.2.2.1, T.2.2.2.2.2.1, T.2.2.2.2.2.2.1, T.2.2.2.2.2.2.2.1, T.2.2.2.2.2.2.2.2.1, T.2.2.2.2.2.2.2.2.2) M.1 n L := cp.mr hM
    obtain ⟨F', M', k, f1, f2, f3, f4, -⟩ := what_t kS kM F
    unfold X7_pagesIf
    rw [if_neg h0, if_neg h0, f1, f2, Option.bind_some, Option.bind_some, Option.bind_some, tells_t, f4]
    exact ⟨_, _, _, rfl, rfl, ⟨rfl, fun v h => (Sum.inl.inj h).symm⟩, Inv_th (Inv_fr hI f3) 0⟩
theorem m_smallestPage (hI : InvC tl S C G Hs tx M) (D : t_Script) (E : t_Scenes) (F : t_Pages) (p1 : Int32) : ∃ R a M', X6_smallestPage tl S D C E G F Hs tx p1 = some R ∧ X7_smallestPage M p1 = some (a, M') ∧ Ans [(1, 1)] R.1 a M' ∧ InvC tl S C G Hs tx M' := by
  obtain ⟨n, L, hS, hM, hC, hG, hH, hT⟩ := id hI
  have hn := hS.2.2.1
  unfold X6_smallestPage X7_smallestPage j_X6_smallestPage_10
  simp only [zlet_e]
  by_cases h0 : p1 < 0
  · have hin : X7_in p1 0 60 = 0 := by unfold X7_in; rw [if_pos h0]
    rw [if_pos h0, hin, if_pos rfl, fails_t]
    exact ⟨_, _, _, rfl, rfl, ⟨rfl, fun v h => by cases h⟩, Inv_th hI 1⟩
  obtain ⟨q, hq, rfl⟩ := nI_of h0
  by_cases h1 : 60 < q
  · have hin : X7_in (nI q) 0 60 = 0 := by unfold X7_in; rw [if_neg h0, if_pos (show (60 : Int32) < nI q from nI_lt (a := 60) h1 hq)]
    rw [if_neg h0, if_neg (show ¬ nI q ≤ (60 : Int32) from nI_ge (a := 60) h1 hq), hin, if_pos rfl, fails_t]
    exact ⟨_, _, _, rfl, rfl, ⟨rfl, fun v h => by cases h⟩, Inv_th hI 1⟩
  have hin : X7_in (nI q) 0 60 = 1 := by unfold X7_in; rw [if_neg h0, if_neg (show ¬ (60 : Int32) < nI q from nI_nlt (a := 60) (by omega) (by decide))]
  rw [if_neg h0, if_pos (show nI q ≤ (60 : Int32) from nI_le (b := 60) (by omega) (by decide)), hin, if_neg (show ¬ (1 : Int32) = 0 by decide)]
  have cp := copy_eq (S := S) (D := D) hn
  obtain ⟨T, hT9⟩ : ∃ T, T = X5_copyFrom D S := ⟨_, rfl⟩
  rw [← hT9] at cp ⊢
  have tS := cp.ok hS
  obtain ⟨X, X2, g1, g2, g3⟩ := zl_two (body := b_X6_smallestPage_34 tl S C E G Hs tx (nI q)) (body2 := b_X7_smallestPage_19 (nI q)) (fun j (v : t_Script × t_Pages × Int32) (v2 : t_Model × Int32) => 20 ≤ j ∧ ∃ y F0 M0, v = ((T.1, y, T.2.2.1, T.2.2.2.1, T.2.2.2.2.1, T.2.2.2.2.2.1, T.2.2.2.2.2.2.1, T.2.2.2.2.2.2.2.1, T.2.2.2.2.2.2.2.2.1, T.2.2.2.2.2.2.2.2.2), F0, nI j) ∧ v2 = (M0, nI j) ∧ MFr M M0)
    (fun X X2 => (∃ D' F' M', X = .inl (D', F') ∧ X2 = .inl M' ∧ MFr M M') ∨ ∃ a D' F' M', X = .inr (a, D', F') ∧ X2 = .inr (a, mTh M' 0) ∧ MFr M M') 61
    (fun rec rec2 v v2 h => by
      obtain ⟨-, y, F0, M0, rfl, rfl, hf⟩ := h
      unfold b_X6_smallestPage_34 b_X7_smallestPage_19
      rw [if_pos (show (60 : Int32) < nI 61 by decide), if_pos (show (60 : Int32) < nI 61 by decide)]
      exact ⟨_, _, rfl, rfl, Or.inl ⟨_, _, _, rfl, rfl, hf⟩⟩)
    (fun rec rec2 j v v2 hj h k => by
      obtain ⟨hj2, y, F0, M0, rfl, rfl, hf⟩ := h
      have kS : SOK (T.1, nI j, T.2.2.1, T.2.2.2.1, T.2.2.2.2.1, T.2.2.2.2.2.1, T.2.2.2.2.2.2.1, T.2.2.2.2.2.2.2.1, T.2.2.2.2.2.2.2.2.1, T.2.2.2.2.2.2.2.2.2) n j := ⟨tS.1, rfl, tS.2.2.1, hj2, by omega, tS.2.2.2.2.2⟩
      have kM : MR (T.1, nI j, T.2.2.1, T.2.2.2.1, T.2.2.2.2.1, T.2.2.2.2.2.1, T.2.2.2.2.2.2.1, T.2.2.2.2.2.2.2.1, T.2.2.2.2.2.2.2.2.1, T.2.2.2.2.2.2.2.2.2) M0.1 n L := cp.mr (MFr_mr hf hM)
      obtain ⟨F', M', c, f1, f2, f3, f4, f5⟩ := what_t kS kM F0
      unfold b_X6_smallestPage_34 b_X7_smallestPage_19 X7_pagesIf
      simp only [zlet_e, nI_1]
      rw [if_neg (show ¬ (60 : Int32) < nI j from nI_nlt (a := 60) (by omega) (by decide)), if_neg (show ¬ (60 : Int32) < nI j from nI_nlt (a := 60) (by omega) (by decide)), f1, f2, Option.bind_some, Option.bind_some, Option.bind_some, f4]
      by_cases c1 : nI q < nI c
      · rw [if_pos c1, if_pos c1]
        exact k _ _ ⟨by omega, _, _, _, rfl, rfl, MFr_trans hf f3⟩
      · rw [if_neg c1, if_neg c1, tells_t]
        exact ⟨_, _, rfl, rfl, Or.inr ⟨_, _, _, _, rfl, rfl, MFr_trans hf f3⟩⟩)
    FU 20 (T, F, 20) (M, 20) (by decide) ⟨Nat.le_refl _, T.2.1, F, M, rfl, rfl, MFr_refl M⟩ (show 61 - 20 < 3000 by decide)
  rw [g1, g2, Option.bind_some, Option.bind_some]
  rcases g3 with ⟨D', F', M', a, b, c⟩ | ⟨x, D', F', M', a, b, c⟩
  · rw [a, b]
    refine ⟨(.inl (-1), D', F'), -1, mTh M' 0, rfl, rfl, ⟨rfl, fun v h => (Sum.inl.inj h).symm⟩, Inv_th (Inv_fr hI c) 0⟩
  · rw [a, b]
    refine ⟨(.inl x, D', F'), x, mTh M' 0, rfl, rfl, ⟨rfl, fun v h => (Sum.inl.inj h).symm⟩, Inv_th (Inv_fr hI c) 0⟩
theorem upd_back (f : Rw) (k : Nat) (x : Int32) : upd (upd f k x) k (f k) = f := by
  funext j
  simp only [upd_t]
  by_cases h : j = k
  · rw [if_pos h, h]
  · rw [if_neg h, if_neg h]
/-- the script with another length -/
theorem len_ok {T : t_Script} (hS : SOK T n L) (hM : MR T M.1 n L) {i l : Nat} (hi : i < n) (l1 : 1 ≤ l) (l2 : l ≤ 400) : SOK (T.1, T.2.1, T.2.2.1, upd T.2.2.2.1 i (nI l), T.2.2.2.2.1, T.2.2.2.2.2.1, T.2.2.2.2.2.2.1, T.2.2.2.2.2.2.2.1, T.2.2.2.2.2.2.2.2.1, T.2.2.2.2.2.2.2.2.2) n L ∧ MR (T.1, T.2.1, T.2.2.1, upd T.2.2.2.1 i (nI l), T.2.2.2.2.1, T.2.2.2.2.2.1, T.2.2.2.2.2.2.1, T.2.2.2.2.2.2.2.1, T.2.2.2.2.2.2.2.2.1, T.2.2.2.2.2.2.2.2.2) (upd M.1 (2 + 9 * i + 1) (nI l)) n L := by
  refine ⟨⟨hS.1, hS.2.1, hS.2.2.1, hS.2.2.2.1, hS.2.2.2.2.1, fun j hj => ?_⟩, ?_, ?_, fun j hj => ?_⟩
  · obtain ⟨e1, e2, e3⟩ := hS.e hj
    refine ⟨e1, ?_, e3⟩
    show ∃ l', 1 ≤ l' ∧ l' ≤ 400 ∧ upd T.2.2.2.1 i (nI l) j = nI l'
    by_cases c : j = i
    · subst c; rw [pk_us]; exact ⟨l, l1, l2, rfl⟩
    · rw [pk_un c]; exact e2
  · rw [pk_un (by omega)]; exact hM.1
  · rw [pk_un (by omega)]; exact hM.2.1
  · obtain ⟨e0, e1, e2, e3, e4, e5, e6, e7, e8⟩ := hM.2.2 j hj
    unfold ERel
    refine ⟨by rw [pk_un (by omega)]; exact e0, ?_, by rw [pk_un (by omega)]; exact e2, by rw [pk_un (by omega)]; exact e3, by rw [pk_un (by omega)]; exact e4, by rw [pk_un (by omega)]; exact e5, by rw [pk_un (by omega)]; exact e6, by rw [pk_un (by omega)]; exact e7, by rw [pk_un (by omega)]; exact e8⟩
    show upd _ _ _ _ = upd T.2.2.2.1 i (nI l) j
    by_cases c : j = i
    · subst c; rw [pk_us, pk_us]
    · rw [pk_un (by omega), pk_un c]; exact e1
/-- the reference asks with another length and takes it back -/
theorem behind_t {T : t_Script} (hS : SOK T n L) (hM : MR T M.1 n L) {i l : Nat} (hi : i < n) (l1 : 1 ≤ l) (l2 : l ≤ 400) (F : t_Pages) : ∃ F' M' k, X1_arrange F (T.1, T.2.1, T.2.2.1, upd T.2.2.2.1 i (nI l), T.2.2.2.2.1, T.2.2.2.2.2.1, T.2.2.2.2.2.2.1, T.2.2.2.2.2.2.2.1, T.2.2.2.2.2.2.2.2.1, T.2.2.2.2.2.2.2.2.2) = some (nI k, F') ∧ X7_pagesBehind M (nI i) (nI l) = some (nI k, M') ∧ MFr M M' ∧ k ≤ 60 := by
  have hi60 := hS.lt hi
  obtain ⟨kS, kM⟩ := len_ok hS hM hi l1 l2
  obtain ⟨F', M', k, f1, f2, f3, f4, f5⟩ := what_t (M := mSet M (upd M.1 (2 + 9 * i + 1) (nI l))) kS kM F
  have o1 : X7_of M (nI i) 1 = some (M.1 (2 + 9 * i + 1)) := of_t M (w := 1) hi60 (by decide)
  have w1 : ∀ (M : t_Model) (x : Int32), X7_puts M (nI i) 1 x = some (mSet M (upd M.1 (2 + 9 * i + 1) x)) := fun M x => puts_t M (w := 1) hi60 (by decide) x
  refine ⟨F', mSet M' (upd M'.1 (2 + 9 * i + 1) (M.1 (2 + 9 * i + 1))), k, f1, ?_, ?_, f5⟩
  · unfold X7_pagesBehind X7_pagesIf
    simp only [zlet_e]
    rw [o1, Option.bind_some, w1, Option.bind_some, zix0, cl0, mSet_s, pk_un (by omega), hM.1, f2, Option.bind_some, Option.bind_some, w1, Option.bind_some, f4]
  · obtain ⟨a1, a2, a3, a4, a5, a6, a7, a8, a9, a10, a11⟩ := f3
    refine ⟨?_, a2, a3, a4, a5, a6, a7, a8, a9, a10, a11⟩
    rw [mSet_s, a1, mSet_s, upd_back]
theorem m_pagesBy (hI : InvC tl S C G Hs tx M) (D : t_Script) (E : t_Scenes) (F : t_Pages) (p1 p2 : Int32) : ∃ R a M', X6_pagesBy tl S D C E G F Hs tx p1 p2 = some R ∧ X7_pagesBy M p1 p2 = some (a, M') ∧ Ans [(0, 1), (1, 2)] R.1 a M' ∧ InvC tl S C G Hs tx M' := by
  obtain ⟨n, L, hS, hM, hC, hG, hH, hT⟩ := id hI
  have hn := hS.2.2.1
  unfold X6_pagesBy X7_pagesBy
  rw [isElement_t hS hM, Option.bind_some]
  simp only [zlet_e]
  by_cases h0 : X5_has S p1 = 0
  · rw [if_pos h0, if_pos h0, fails_t]
    exact ⟨_, _, _, rfl, rfl, ⟨rfl, fun v h => by cases h⟩, Inv_th hI 1⟩
  · obtain ⟨i, hi, rfl⟩ := has_ex hS h0
    rw [if_neg h0, if_neg h0, in_length]
    by_cases hl : X6_isLength p2 = 0
    · rw [if_pos hl, if_pos hl, fails_t]
      exact ⟨_, _, _, rfl, rfl, ⟨rfl, fun v h => by cases h⟩, Inv_th hI 2⟩
    · obtain ⟨l, l1, l2, rfl⟩ := length_ex hl
      have cp := copy_eq (S := S) (D := D) hn
      obtain ⟨T, hT9⟩ : ∃ T, T = X5_copyFrom D S := ⟨_, rfl⟩
      rw [← hT9] at cp ⊢
      obtain ⟨F', M', k, f1, f2, f3, -⟩ := behind_t (cp.ok hS) (cp.mr hM) hi l1 l2 F
      rw [if_neg hl, if_neg hl, rPut_nI (by decide) _ (hS.lt hi), f1, f2, Option.bind_some, Option.bind_some, tells_t]
      exact ⟨_, _, _, rfl, rfl, ⟨rfl, fun v h => (Sum.inl.inj h).symm⟩, Inv_th (Inv_fr hI f3) 0⟩
def fsN (f : Rw) : Nat → Int32
  | 0 => 0
  | r + 1 => fsN f r + f r
theorem m_used (hI : InvC tl S C G Hs tx M) (D : t_Script) (E : t_Scenes) (F : t_Pages) : ∃ R M', X6_used tl S D C E G F Hs tx = some R ∧ X7_used M = some (R, M') ∧ InvC tl S C G Hs tx M' := by
  obtain ⟨n, L, hS, hM, hC, ⟨c, hG⟩, hH, hT⟩ := id hI
  obtain ⟨M', s1, s2, s3⟩ := hG (mTh M 0) L hM
  have hn := hS.2.2.1
  have hL1 := hS.2.2.2.1
  have hL2 := hS.2.2.2.2.1
  have hcn := s3.1
  have hM' := MFr_mr s2 (show MR S (mTh M 0).1 n L from hM)
  have hm : L * c ≤ 60 * 60 := Nat.mul_le_mul hL2 (by omega)
  obtain ⟨X, h1, h2⟩ := zl_up (body := b_X6_used_26 tl S D C E G F Hs tx (nI (L * c))) (fun j v => v = (fsN G.2.2.2.2.2.2.2.2.2.2.2.1 j, nI j)) (fun X => X = fsN G.2.2.2.2.2.2.2.2.2.2.2.1 c) c
    (fun rec v h => by
      subst h
      unfold b_X6_used_26
      rw [if_pos (show G.1 ≤ nI c by rw [s3.2.1]; exact nI_le (Nat.le_refl _) (by omega))]
      exact ⟨_, rfl, rfl⟩)
    (fun rec j v hj h k => by
      subst h
      unfold b_X6_used_26
      simp only [zlet_e, nI_1]
      rw [if_neg (show ¬ G.1 ≤ nI j by rw [s3.2.1]; exact nI_ge hj (by omega)), rAt_nI (by decide) _ (by omega)]
      exact k _ rfl)
    FU 0 (0, 0) (Nat.zero_le _) rfl (show c - 0 < 3000 by omega)
  obtain ⟨Y, k1, k2⟩ := zl_up (body := b_X7_used_19 M') (fun j v => v = (fsN G.2.2.2.2.2.2.2.2.2.2.2.1 j, nI j)) (fun X => X = fsN G.2.2.2.2.2.2.2.2.2.2.2.1 c) c
    (fun rec v h => by
      subst h
      unfold b_X7_used_19
      rw [if_pos (show M'.2.2.2.2.2.2.2.1 ≤ nI c by rw [s3.2.2.1]; exact nI_le (Nat.le_refl _) (by omega))]
      exact ⟨_, rfl, rfl⟩)
    (fun rec j v hj h k => by
      subst h
      unfold b_X7_used_19
      simp only [zlet_e, nI_1]
      rw [if_neg (show ¬ M'.2.2.2.2.2.2.2.1 ≤ nI j by rw [s3.2.2.1]; exact nI_ge hj (by omega)), zix_nI (by omega) (by decide), nI_clamp (by omega), (s3.2.2.2.2.1.1 j hj).1]
      exact k _ rfl)
    FU 0 (0, 0) (Nat.zero_le _) rfl (show c - 0 < 3000 by omega)
  unfold X6_used X7_used
  simp only [zlet_e]
  rw [zix0, cl0, hM.1, show S.2.1 = nI L from hS.2.1, s3.2.1, pk_mul, show (M.1, M.2.1, M.2.2.1, M.2.2.2.1, M.2.2.2.2.1, M.2.2.2.2.2.1, 0, M.2.2.2.2.2.2.2.1, M.2.2.2.2.2.2.2.2.1, M.2.2.2.2.2.2.2.2.2.1, M.2.2.2.2.2.2.2.2.2.2.1, M.2.2.2.2.2.2.2.2.2.2.2.1, M.2.2.2.2.2.2.2.2.2.2.2.2.1, M.2.2.2.2.2.2.2.2.2.2.2.2.2.1, M.2.2.2.2.2.2.2.2.2.2.2.2.2.2.1, M.2.2.2.2.2.2.2.2.2.2.2.2.2.2.2.1, M.2.2.2.2.2.2.2.2.2.2.2.2.2.2.2.2.1, M.2.2.2.2.2.2.2.2.2.2.2.2.2.2.2.2.2.1, M.2.2.2.2.2.2.2.2.2.2.2.2.2.2.2.2.2.2) = mTh M 0 from rfl, s1, Option.bind_some, k1, Option.bind_some, s3.2.2.1, zix0, hM'.1, pk_mul, h1, Option.bind_some, h2, k2]
  by_cases h0 : c = 0
  · subst h0
    rw [if_neg (show ¬ (0 : Int32) < nI (L * 0) by rw [Nat.mul_zero]; decide), if_pos nI_0]
    exact ⟨_, M', rfl, rfl, Inv_fr (Inv_th hI 0) s2⟩
  · have hpos : 0 < L * c := Nat.mul_pos (by omega) (by omega)
    rw [if_pos (show (0 : Int32) < nI (L * c) from nI_lt (a := 0) hpos (by omega)), if_neg (nI_ne0 (by omega) (by omega))]
    exact ⟨_, M', rfl, rfl, Inv_fr (Inv_th hI 0) s2⟩
end MW

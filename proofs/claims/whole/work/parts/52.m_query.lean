-- what the reference answers about scenes, names and locks
section MQ1
variable {S : t_Script} {M : t_Model} {n L L1 : Nat}
theorem sceneMany_t (hS : SOK S n L) (hM : MR S M.1 n L1) : X7_sceneMany M = some (nI (hcN S.2.2.1 n)) := by
  have hn := hS.2.2.1
  obtain ⟨X, h1, h2⟩ := zl_up (body := b_X7_sceneMany_4 M) (fun j v => v = (nI (hcN S.2.2.1 j), nI j)) (fun X => X = nI (hcN S.2.2.1 n)) n
    (fun rec v h => by
      subst h
      unfold b_X7_sceneMany_4
      simp only [zlet, zix1, cl1, hM.2.1]
      rw [if_pos (nI_le (Nat.le_refl _) (by omega))]
      exact ⟨_, rfl, rfl⟩)
    (fun rec j v hj h k => by
      subst h
      unfold b_X7_sceneMany_4
      simp only [zlet, zix1, cl1, hM.2.1]
      rw [if_neg (nI_ge hj (by omega)), head_t hS hM hj, Option.bind_some]
      by_cases h0 : S.2.2.1 j = 0
      · rw [if_pos h0, if_neg (by decide), nI_1, nI_1]
        exact k _ (by rw [hc_s0 h0])
      · rw [if_neg h0, if_pos rfl, nI_1, Int32.add_zero]
        exact k _ (by rw [hc_s1 h0]))
    FU 0 (0, 0) (Nat.zero_le _) rfl (show n - 0 < 3000 by omega)
  unfold X7_sceneMany
  rw [h1, Option.bind_some, h2]
theorem headingOf_t (hS : SOK S n L) (hM : MR S M.1 n L1) {h : Nat} (hh : h < n) (hk : S.2.2.1 h = 0) : X7_headingOf M (nI (hcN S.2.2.1 h)) = some (nI h) := by
  have hn := hS.2.2.1
  obtain ⟨X, h1, h2⟩ := zl_up (body := b_X7_headingOf_4 M (nI (hcN S.2.2.1 h))) (fun j v => v = (nI (hcN S.2.2.1 h - hcN S.2.2.1 j), nI j)) (fun X => X = .inr (nI h)) h
    (fun rec v e => by
      subst e
      unfold b_X7_headingOf_4
      simp only [zlet, zix1, cl1, hM.2.1]
      rw [if_neg (nI_ge hh (by omega)), head_t hS hM hh, Option.bind_some, if_pos hk, if_neg (by decide), Nat.sub_self, if_pos nI_0]
      exact ⟨_, rfl, rfl⟩)
    (fun rec j v hj e k => by
      subst e
      unfold b_X7_headingOf_4
      simp only [zlet, zix1, cl1, hM.2.1]
      rw [if_neg (nI_ge (show j < n by omega) (by omega)), head_t hS hM (by omega), Option.bind_some]
      have := hc_le S.2.2.1 h
      by_cases h0 : S.2.2.1 j = 0
      · have hl := hc_lt hj h0
        rw [if_pos h0, if_neg (by decide), if_neg (nI_ne0 (by omega) (by omega)), nI_1, show hcN S.2.2.1 h - hcN S.2.2.1 j = (hcN S.2.2.1 h - hcN S.2.2.1 (j + 1)) + 1 by rw [hc_s0 h0]; omega, pk_m1]
        exact k _ rfl
      · rw [if_neg h0, if_pos rfl, nI_1]
        exact k _ (by rw [hc_s1 h0]))
    FU 0 (nI (hcN S.2.2.1 h), 0) (Nat.zero_le _) rfl (show h - 0 < 3000 by omega)
  unfold X7_headingOf
  rw [h1, Option.bind_some, h2]
  rfl
theorem headingOf_e (hS : SOK S n L) (hM : MR S M.1 n L1) : X7_headingOf M (nI (hcN S.2.2.1 n)) = some (nI n) := by
  have hn := hS.2.2.1
  obtain ⟨X, h1, h2⟩ := zl_up (body := b_X7_headingOf_4 M (nI (hcN S.2.2.1 n))) (fun j v => v = (nI (hcN S.2.2.1 n - hcN S.2.2.1 j), nI j)) (fun X => X = .inl ()) n
    (fun rec v e => by
      subst e
      unfold b_X7_headingOf_4
      simp only [zlet, zix1, cl1, hM.2.1]
      rw [if_pos (nI_le (Nat.le_refl _) (by omega))]
      exact ⟨_, rfl, rfl⟩)
    (fun rec j v hj e k => by
      subst e
      unfold b_X7_headingOf_4
      simp only [zlet, zix1, cl1, hM.2.1]
      rw [if_neg (nI_ge hj (by omega)), head_t hS hM hj, Option.bind_some]
      have := hc_le S.2.2.1 n
      by_cases h0 : S.2.2.1 j = 0
      · have hl := hc_lt hj h0
        rw [if_pos h0, if_neg (by decide), if_neg (nI_ne0 (by omega) (by omega)), nI_1, show hcN S.2.2.1 n - hcN S.2.2.1 j = (hcN S.2.2.1 n - hcN S.2.2.1 (j + 1)) + 1 by rw [hc_s0 h0]; omega, pk_m1]
        exact k _ rfl
      · rw [if_neg h0, if_pos rfl, nI_1]
        exact k _ (by rw [hc_s1 h0]))
    FU 0 (nI (hcN S.2.2.1 n), 0) (Nat.zero_le _) rfl (show n - 0 < 3000 by omega)
  unfold X7_headingOf
  rw [h1, Option.bind_some, h2]
  show zix 1 542 (zlet (M.1 (1 : Int32).toNatClampNeg) fun u8 => some u8) = _
  rw [zix1, cl1, hM.2.1]
  rfl
theorem sceneOf_t (hS : SOK S n L) (hM : MR S M.1 n L1) {i : Nat} (hi : i < n) : X7_sceneOf M (nI i) = some (nI (hcN S.2.2.1 (i + 1)) - 1) := by
  have hn := hS.2.2.1
  have a1 : ∀ c : Nat, nI c - 1 + 1 = nI (c + 1) - 1 := fun c => by
    rw [Int32.sub_add_cancel, nI_pred]
  obtain ⟨X, h1, h2⟩ := zl_up (body := b_X7_sceneOf_4 M (nI i)) (fun j v => v = (nI (hcN S.2.2.1 j) - 1, nI j)) (fun X => X = nI (hcN S.2.2.1 (i + 1)) - 1) (i + 1)
    (fun rec v e => by
      subst e
      unfold b_X7_sceneOf_4
      rw [if_pos (nI_lt (by omega) (by omega))]
      exact ⟨_, rfl, rfl⟩)
    (fun rec j v hj e k => by
      subst e
      unfold b_X7_sceneOf_4
      simp only [zlet]
      rw [if_neg (nI_nlt (by omega) (by omega)), head_t hS hM (by omega), Option.bind_some]
      by_cases h0 : S.2.2.1 j = 0
      · rw [if_pos h0, if_neg (by decide), nI_1, a1]
        exact k _ (by rw [hc_s0 h0])
      · rw [if_neg h0, if_pos rfl, nI_1, Int32.add_zero]
        exact k _ (by rw [hc_s1 h0]))
    FU 0 (-1, 0) (Nat.zero_le _) (show ((-1 : Int32), (0 : Int32)) = (nI 0 - 1, nI 0) by decide) (show i + 1 - 0 < 3000 by omega)
  unfold X7_sceneOf
  rw [h1, Option.bind_some, h2]
theorem lockedMany_t (hS : SOK S n L) (hM : MR S M.1 n L1) : X7_lockedMany M = some (nI (lkN S.2.2.2.2.2.2.1 n)) := by
  have hn := hS.2.2.1
  obtain ⟨X, h1, h2⟩ := zl_up (body := b_X7_lockedMany_4 M) (fun j v => v = (nI (lkN S.2.2.2.2.2.2.1 j), nI j)) (fun X => X = nI (lkN S.2.2.2.2.2.2.1 n)) n
    (fun rec v h => by
      subst h
      unfold b_X7_lockedMany_4
      simp only [zlet, zix1, cl1, hM.2.1]
      rw [if_pos (nI_le (Nat.le_refl _) (by omega))]
      exact ⟨_, rfl, rfl⟩)
    (fun rec j v hj h k => by
      subst h
      unfold b_X7_lockedMany_4
      simp only [zlet, zix1, cl1, hM.2.1]
      rw [if_neg (nI_ge hj (by omega)), lock_t hS hM hj, Option.bind_some]
      by_cases h0 : S.2.2.2.2.2.2.1 j = 0
      · rw [if_pos h0, if_pos rfl, nI_1, Int32.add_zero]
        refine k _ ?_
        show _ = (nI (lkN S.2.2.2.2.2.2.1 j + (if S.2.2.2.2.2.2.1 j = 0 then 0 else 1)), _)
        rw [if_pos h0]; rfl
      · rw [if_neg h0, if_neg (by decide), nI_1, nI_1]
        refine k _ ?_
        show _ = (nI (lkN S.2.2.2.2.2.2.1 j + (if S.2.2.2.2.2.2.1 j = 0 then 0 else 1)), _)
        rw [if_neg h0])
    FU 0 (0, 0) (Nat.zero_le _) rfl (show n - 0 < 3000 by omega)
  unfold X7_lockedMany
  rw [h1, Option.bind_some, h2]
theorem marks_t (hS : SOK S n L) (hM : MR S M.1 n L1) : X7_marks M = some (nI (ctN (fun i => decide (S.2.2.2.2.2.1 i ≠ -1)) n)) := by
  have hn := hS.2.2.1
  obtain ⟨X, h1, h2⟩ := zl_up (body := b_X7_marks_4 M) (fun j v => v = (nI (ctN (fun i => decide (S.2.2.2.2.2.1 i ≠ -1)) j), nI j)) (fun X => X = nI (ctN (fun i => decide (S.2.2.2.2.2.1 i ≠ -1)) n)) n
    (fun rec v h => by
      subst h
      unfold b_X7_marks_4
      simp only [zlet, zix1, cl1, hM.2.1]
      rw [if_pos (nI_le (Nat.le_refl _) (by omega))]
      exact ⟨_, rfl, rfl⟩)
    (fun rec j v hj h k => by
      subst h
      unfold b_X7_marks_4
      simp only [zlet, zix1, cl1, hM.2.1]
      rw [if_neg (nI_ge hj (by omega)), of_mk hS hM hj, Option.bind_some]
      by_cases h0 : S.2.2.2.2.2.1 j = -1
      · rw [if_pos h0, nI_1, Int32.add_zero]
        refine k _ ?_
        simp [ctN, h0]
      · rw [if_neg h0, nI_1, nI_1]
        refine k _ ?_
        simp [ctN, h0])
    FU 0 (0, 0) (Nat.zero_le _) rfl (show n - 0 < 3000 by omega)
  unfold X7_marks
  rw [h1, Option.bind_some, h2]
/-- the two walks of a label: back to the latest locked one, on to the next -/
theorem lab_back (hS : SOK S n L) (hM : MR S M.1 n L1) (p1 p2 : Int32) : ∀ (j a fu : Nat), j ≤ n → a + j < 1000 → j < fu → zloop (b_X7_label_22 M p1 p2) fu (nI a, nI j - 1) = some (nI (a + ksN S.2.2.1 S.2.2.2.2.2.2.1 j), nI (xsN S.2.2.2.2.2.2.1 j) - 1) := by
  have hn := hS.2.2.1
  intro j
  induction j with
  | zero =>
    intro a fu _ _ hf
    obtain ⟨fu, rfl⟩ : ∃ f', fu = f' + 1 := ⟨fu - 1, by omega⟩
    rw [zl_s]
    unfold b_X7_label_22
    rw [if_pos (show nI 0 - 1 < 0 by decide)]
    rfl
  | succ j ih =>
    intro a fu hj ha hf
    obtain ⟨fu, rfl⟩ : ∃ f', fu = f' + 1 := ⟨fu - 1, by omega⟩
    obtain ⟨rec, hrec⟩ : ∃ r, r = zloop (b_X7_label_22 M p1 p2) fu := ⟨_, rfl⟩
    rw [zl_s, ← hrec]
    unfold b_X7_label_22
    simp only [zlet, nI_pred, im1]
    rw [if_neg (nI_pos (by omega)), lock_t hS hM (by omega), Option.bind_some]
    by_cases hl : S.2.2.2.2.2.2.1 j = 0
    · rw [if_pos hl, if_pos rfl, head_t hS hM (by omega), Option.bind_some, xs_s0 hl]
      by_cases hk : S.2.2.1 j = 0
      · rw [if_pos hk, if_neg (by decide), nI_1, hrec, ih _ _ (by omega) (by omega) (by omega), ks_s0 hl hk]
        rw [show a + 1 + ksN S.2.2.1 S.2.2.2.2.2.2.1 j = a + (ksN S.2.2.1 S.2.2.2.2.2.2.1 j + 1) by omega]
      · rw [if_neg hk, if_pos rfl, Int32.add_zero, hrec, ih _ _ (by omega) (by omega) (by omega), ks_s2 hl hk]
    · rw [if_neg hl, if_neg (by decide), xs_s1 hl, ks_s1 hl, nI_pred]
      rfl
theorem lab_on (hS : SOK S n L) (hM : MR S M.1 n L1) (p1 p2 x3 x4 : Int32) : ∀ (d i fu : Nat), n - i = d → i ≤ n → d < fu → zloop (b_X7_label_62 M p1 p2 x3 x4) fu (nI i) = some (nI (ysN S.2.2.2.2.2.2.1 n i)) := by
  have hn := hS.2.2.1
  intro d
  induction d with
  | zero =>
    intro i fu h1 h2 hf
    obtain ⟨fu, rfl⟩ : ∃ f', fu = f' + 1 := ⟨fu - 1, by omega⟩
    rw [show i = n by omega, zl_s, ys_n]
    unfold b_X7_label_62
    simp only [zlet, zix1, cl1, hM.2.1]
    rw [if_pos (nI_le (Nat.le_refl _) (by omega))]
  | succ d ih =>
    intro i fu h1 h2 hf
    obtain ⟨fu, rfl⟩ : ∃ f', fu = f' + 1 := ⟨fu - 1, by omega⟩
    obtain ⟨rec, hrec⟩ : ∃ r, r = zloop (b_X7_label_62 M p1 p2 x3 x4) fu := ⟨_, rfl⟩
    rw [zl_s, ← hrec]
    unfold b_X7_label_62
    simp only [zlet, zix1, cl1, hM.2.1]
    rw [if_neg (nI_ge (show i < n by omega) (by omega)), lock_t hS hM (by omega), Option.bind_some]
    by_cases hl : S.2.2.2.2.2.2.1 i = 0
    · rw [if_pos hl, if_pos rfl, nI_1, hrec, ih _ _ (by omega) (by omega) (by omega), ys_s0 (by omega) hl]
    · rw [if_neg hl, if_neg (by decide), ys_s1 (by omega) hl]
/-- the reference's label of a heading -/
theorem label_t (hS : SOK S n L) (hM : MR S M.1 n L1) {h : Nat} (hh : h < n) (hk : S.2.2.1 h = 0) : X7_label M (nI h) 0 = some (lbA S n h) ∧ X7_label M (nI h) 1 = some (lbB S n h) ∧ X7_label M (nI h) 2 = some (lbC S n h) := by
  have hn := hS.2.2.1
  by_cases hl : S.2.2.2.2.2.2.1 h = 0
  case neg =>
    unfold X7_label lbA lbB lbC
    simp only [zlet]
    rw [lock_t hS hM hh, if_neg hl, if_neg hl, if_neg hl, if_neg hl, Option.bind_some, if_neg (by decide), show (5 : Int32) + 0 = 5 from rfl, show (5 : Int32) + 1 = 6 from rfl, show (5 : Int32) + 2 = 7 from rfl, of_la hS hM hh, of_lb hS hM hh, of_lc hS hM hh]
    exact ⟨rfl, rfl, rfl⟩
  have bk : ∀ p2 : Int32, zloop (b_X7_label_22 M (nI h) p2) FU (0, nI h) = some (nI (ksN S.2.2.1 S.2.2.2.2.2.2.1 (h + 1)), nI (xsN S.2.2.2.2.2.2.1 h) - 1) := by
    intro p2
    have := lab_back hS hM (nI h) p2 (h + 1) 0 FU (by omega) (by omega) (show h + 1 < 3000 by omega)
    rw [nI_pred, xs_s0 hl, Nat.zero_add] at this
    exact this
  have on := fun p2 x3 x4 : Int32 => lab_on hS hM (nI h) p2 x3 x4 (n - h) h FU rfl (by omega) (show n - h < 3000 by omega)
  obtain ⟨y1, y2, y3, y4⟩ := ys_fact S.2.2.2.2.2.2.1 n _ h rfl (by omega)
  have key : ∀ p2 : Int32, X7_label M (nI h) p2 = j_X7_label_88 M (nI h) p2 (nI (ksN S.2.2.1 S.2.2.2.2.2.2.1 (h + 1))) (nI (xsN S.2.2.2.2.2.2.1 h) - 1) (nI (ysN S.2.2.2.2.2.2.1 n h)) := by
    intro p2
    unfold X7_label
    rw [lock_t hS hM hh, if_pos hl, Option.bind_some, if_pos rfl, bk, Option.bind_some]
    unfold j_X7_label_59
    rw [on, Option.bind_some]
  have hK : (ksN S.2.2.1 S.2.2.2.2.2.2.1 (h + 1)) ≤ 61 := by have := ks_le S.2.2.1 S.2.2.2.2.2.2.1 (h + 1); omega
  have hxl := xs_le S.2.2.2.2.2.2.1 h
  have hxk := xs_lk S.2.2.2.2.2.2.1 h
  rw [key, key, key]
  unfold lbA lbB lbC
  rw [if_pos hl, if_pos hl, if_pos hl]
  have d0 : ∀ (p2 x3 x4 x5 : Int32), j_X7_label_98 M (nI h) p2 x3 x4 x5 = fun z0 => (if x5 = nI n then j_X7_label_116 M (nI h) p2 x3 x4 x5 z0 1 else j_X7_label_116 M (nI h) p2 x3 x4 x5 z0 0) := by
    intro p2 x3 x4 x5
    funext z0
    unfold j_X7_label_98
    simp only [zlet, zix1, cl1, hM.2.1]
  generalize nI (ksN S.2.2.1 S.2.2.2.2.2.2.1 (h + 1)) = K at *
  have i11 : ¬ ((1 : Int32) = 0) := by decide
  have i20 : ¬ ((2 : Int32) = 0) := by decide
  have i21 : ¬ ((2 : Int32) = 1) := by decide
  have i12 : ¬ ((1 : Int32) = 2) := by decide
  have w0 : (5 : Int32) + 0 = 5 := rfl
  have w1 : (5 : Int32) + 1 = 6 := rfl
  have w2 : (5 : Int32) + 2 = 7 := rfl
  by_cases hx : xsN S.2.2.2.2.2.2.1 h = 0
  · rw [hx, show nI 0 - 1 = (-1 : Int32) by decide]
    unfold j_X7_label_88
    rw [if_pos (show (-1 : Int32) < 0 by decide), if_pos (show (-1 : Int32) < 0 by decide), if_pos (show (-1 : Int32) < 0 by decide), d0, d0, d0]
    by_cases hy : ysN S.2.2.2.2.2.2.1 n h = n
    · rw [hy]
      unfold j_X7_label_116
      simp [i11, i20]
    · have hy2 : ¬ nI (ysN S.2.2.2.2.2.2.1 n h) = nI n := fun e => hy ((nI_eq (by omega) (by omega)).mp e)
      have hla := of_la hS hM (i := ysN S.2.2.2.2.2.2.1 n h) (by omega)
      have hylt : ysN S.2.2.2.2.2.2.1 n h < n := by omega
      unfold j_X7_label_116 j_X7_label_138 j_X7_label_154 j_X7_label_174 j_X7_label_197 j_X7_label_198
      by_cases hi : S.2.2.2.2.2.2.2.1 (ysN S.2.2.2.2.2.2.1 n h) = 0 <;> simp [hy, hy2, hylt, hla, hi, i11, i20, i21, i12, zlet]
  · obtain ⟨g, hg⟩ : ∃ g, xsN S.2.2.2.2.2.2.1 h = g + 1 := ⟨xsN S.2.2.2.2.2.2.1 h - 1, by omega⟩
    rw [hg, nI_pred, show g + 1 - 1 = g from rfl]
    have hgn : g < n := by omega
    have ha := of_la hS hM hgn
    have hb := of_lb hS hM hgn
    have hc := of_lc hS hM hgn
    unfold j_X7_label_88
    rw [if_neg (nI_pos (by omega)), if_neg (nI_pos (by omega)), if_neg (nI_pos (by omega)), d0, d0, d0]
    have g0 : ¬ (g + 1 = 0) := by omega
    by_cases hy : ysN S.2.2.2.2.2.2.1 n h = n
    · rw [hy]
      unfold j_X7_label_116 j_X7_label_138 j_X7_label_154 j_X7_label_174 j_X7_label_197 j_X7_label_198
      simp [i11, i20, i21, i12, g0, ha, hb, hc, w0, w1, w2, zlet]
    · have hy2 : ¬ nI (ysN S.2.2.2.2.2.2.1 n h) = nI n := fun e => hy ((nI_eq (by omega) (by omega)).mp e)
      have hla := of_la hS hM (i := ysN S.2.2.2.2.2.2.1 n h) (by omega)
      have hylt : ysN S.2.2.2.2.2.2.1 n h < n := by omega
      unfold j_X7_label_116 j_X7_label_138 j_X7_label_154 j_X7_label_174 j_X7_label_197 j_X7_label_198
      by_cases hi : S.2.2.2.2.2.2.2.1 (ysN S.2.2.2.2.2.2.1 n h) = S.2.2.2.2.2.2.2.1 g <;> simp [hy, hy2, hylt, hla, hi, i11, i20, i21, i12, g0, ha, hb, hc, w0, w1, w2, zlet]
/-- back to the latest name or heading -/
theorem carr_back (hS : SOK S n L) (hM : MR S M.1 n L1) (p1 : Int32) : ∀ (j fu : Nat), j ≤ n → hcN S.2.2.1 j ≠ 0 → j < fu → ∃ g, g < j ∧ zloop (b_X7_isCarried_25 M p1) fu (nI j - 1) = some (nI g) ∧ ((S.2.2.1 g = 0 ∧ ltN S.2.2.1 S.2.2.2.2.1 j = -1) ∨ (S.2.2.1 g = 2 ∧ ltN S.2.2.1 S.2.2.2.2.1 j = S.2.2.2.2.1 g)) := by
  have hn := hS.2.2.1
  intro j
  induction j with
  | zero => intro fu _ h _; exact absurd rfl h
  | succ j ih =>
    intro fu hj hc hf
    obtain ⟨fu, rfl⟩ : ∃ f', fu = f' + 1 := ⟨fu - 1, by omega⟩
    obtain ⟨rec, hrec⟩ : ∃ r, r = zloop (b_X7_isCarried_25 M p1) fu := ⟨_, rfl⟩
    rw [zl_s, ← hrec]
    unfold b_X7_isCarried_25
    simp only [zlet, nI_pred, im1]
    rw [head_t hS hM (by omega), Option.bind_some, of_kd hS hM (by omega), Option.bind_some]
    by_cases hk : S.2.2.1 j = 0
    · rw [if_pos hk, if_neg (by decide)]
      exact ⟨j, by omega, rfl, Or.inl ⟨hk, if_pos hk⟩⟩
    · rw [if_neg hk, if_pos rfl]
      by_cases hk2 : S.2.2.1 j = 2
      · rw [if_pos hk2]
        obtain ⟨q, hq, e⟩ := (hS.e (show j < n by omega)).2.2.1 hk2
        refine ⟨j, by omega, rfl, Or.inr ⟨hk2, ?_⟩⟩
        show (if S.2.2.1 j = 0 then (-1 : Int32) else if S.2.2.2.2.1 j = -1 then ltN S.2.2.1 S.2.2.2.2.1 j else S.2.2.2.2.1 j) = _
        rw [if_neg hk, if_neg]
        rw [e]
        intro e2
        exact nI_pos (n := q) (by omega) (by rw [e2]; decide)
      · rw [if_neg hk2]
        obtain ⟨g, h1, h2, h3⟩ := ih fu (by omega) (by rw [← hc_s1 hk]; exact hc) (by omega)
        rw [hrec]
        refine ⟨g, by omega, h2, ?_⟩
        have e : ltN S.2.2.1 S.2.2.2.2.1 (j + 1) = ltN S.2.2.1 S.2.2.2.2.1 j := by
          show (if S.2.2.1 j = 0 then (-1 : Int32) else if S.2.2.2.2.1 j = -1 then ltN S.2.2.1 S.2.2.2.2.1 j else S.2.2.2.2.1 j) = _
          rw [if_neg hk, if_pos ((hS.e (show j < n by omega)).2.2.2.1 hk2)]
        rw [e]
        exact h3
theorem carried_t (hS : SOK S n L) (hM : MR S M.1 n L1) {i : Nat} (hi : i < n) : X7_isCarried M (nI i) = some (if crN S.2.2.1 S.2.2.2.2.1 i = true then 1 else 0) := by
  have hn := hS.2.2.1
  unfold X7_isCarried
  simp only [zlet]
  rw [of_kd hS hM hi, Option.bind_some]
  unfold crN
  by_cases hk : S.2.2.1 i = 2
  case neg =>
    rw [if_neg hk, if_neg]
    have := (hS.e hi).2.2.2.1 hk
    simp [this]
  rw [if_pos hk, sceneOf_t hS hM hi, Option.bind_some]
  have hk0 : ¬ S.2.2.1 i = 0 := by rw [hk]; decide
  obtain ⟨q, hq, e⟩ := (hS.e hi).2.2.1 hk
  have e1 : S.2.2.2.2.1 i ≠ -1 := by
    rw [e]
    intro e2
    exact nI_pos (n := q) (by omega) (by rw [e2]; decide)
  have hle := hc_le S.2.2.1 (i + 1)
  by_cases hc : hcN S.2.2.1 (i + 1) = 0
  · rw [hc, if_pos (by decide), if_neg]
    simp
  · obtain ⟨c, hc2⟩ : ∃ c, hcN S.2.2.1 (i + 1) = c + 1 := ⟨hcN S.2.2.1 (i + 1) - 1, by omega⟩
    have hm1 : ¬ nI c = -1 := fun e2 => nI_pos (n := c) (by omega) (by rw [e2]; decide)
    rw [hc2, nI_pred, if_neg hm1]
    obtain ⟨g, h1, h2, h3⟩ := carr_back hS hM (nI i) i FU (by omega) (by rw [← hc_s1 hk0, hc2]; omega) (show i < 3000 by omega)
    rw [h2, Option.bind_some]
    unfold j_X7_isCarried_49
    rw [head_t hS hM (by omega), Option.bind_some]
    rcases h3 with ⟨h3, h4⟩ | ⟨h3, h4⟩
    · rw [if_pos h3, if_neg (by decide), h4]
      simp [e1]
    · rw [if_neg (show ¬ S.2.2.1 g = 0 by rw [h3]; decide), if_pos rfl, of_pr hS hM (by omega), Option.bind_some, of_pr hS hM hi, Option.bind_some, h4]
      by_cases h5 : S.2.2.2.2.1 g = S.2.2.2.2.1 i
      · rw [if_pos h5]; simp [e1, h5]
      · rw [if_neg h5]
        have : ¬ S.2.2.2.2.1 i = S.2.2.2.2.1 g := fun e => h5 e.symm
        simp [this]
/-- which names are counted -/
def nmN (S : t_Script) (q cf : Int32) (i : Nat) : Bool := decide (S.2.2.1 i = 2) && (decide (q = -1) || decide (S.2.2.2.2.1 i = q)) && (decide (cf = 0) || crN S.2.2.1 S.2.2.2.2.1 i)
theorem namesOf_t (hS : SOK S n L) (hM : MR S M.1 n L1) (q cf : Int32) : X7_namesOf M q cf = some (nI (ctN (nmN S q cf) n)) := by
  have hn := hS.2.2.1
  obtain ⟨X, h1, h2⟩ := zl_up (body := b_X7_namesOf_5 M q cf) (fun j v => v = (nI (ctN (nmN S q cf) j), nI j)) (fun X => X = nI (ctN (nmN S q cf) n)) n
    (fun rec v h => by
      subst h
      unfold b_X7_namesOf_5
      simp only [zlet, zix1, cl1, hM.2.1]
      rw [if_pos (nI_le (Nat.le_refl _) (by omega))]
      exact ⟨_, rfl, rfl⟩)
    (fun rec j v hj h k => by
      subst h
      unfold b_X7_namesOf_5 j_X7_namesOf_43 j_X7_namesOf_47 j_X7_namesOf_48
      simp only [zlet, zix1, cl1, hM.2.1, nI_1, Int32.add_zero]
      rw [if_neg (nI_ge hj (by omega)), of_kd hS hM hj, of_pr hS hM hj, carried_t hS hM hj]
      have k' : ∀ v', v' = (nI (ctN (nmN S q cf) j + (if nmN S q cf j then 1 else 0)), nI (j + 1)) → ∃ X, rec v' = some X ∧ X = nI (ctN (nmN S q cf) n) := k
      simp only [Option.bind_some]
      by_cases a1 : S.2.2.1 j = 2 <;> by_cases a2 : q = -1 <;> by_cases a3 : S.2.2.2.2.1 j = q <;> by_cases a4 : cf = 0 <;> by_cases a5 : crN S.2.2.1 S.2.2.2.2.1 j = true <;> simp only [a1, a2, a3, a4, a5, if_true, if_false] <;> (first | exact k' _ (by simp [nmN, a1, a2, a3, a4, a5]) | (simp; exact k' _ (by simp [nmN, a1, a2, a3, a4, a5])) | (simp [nmN, a1, a2, a3, a4, a5] at k' ⊢; exact k')))
    FU 0 (0, 0) (Nat.zero_le _) rfl (show n - 0 < 3000 by omega)
  unfold X7_namesOf
  rw [h1, Option.bind_some, h2]
end MQ1

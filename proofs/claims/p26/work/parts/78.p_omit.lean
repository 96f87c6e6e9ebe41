-- omit, class and law
theorem row_tr {A B C : t_Script} {i j k : Nat} (h : RowEq A B i j) (g : RowEq B C j k) : RowEq A C i k := by
  obtain ⟨h1, h2, h3, h4, h5, h6, h7⟩ := h
  obtain ⟨g1, g2, g3, g4, g5, g6, g7⟩ := g
  exact ⟨g1.trans h1, g2.trans h2, g3.trans h3, g4.trans h4, g5.trans h5, g6.trans h6, g7.trans h7⟩
theorem next_h {kd : Rw} {n h : Nat} (hh : h < n) (hk : kd h = 0) : ∃ e, h < e ∧ e ≤ n ∧ hcN kd e = hcN kd h + 1 ∧ (e < n → kd e = 0) := by
  have h1 := hc_lt hh hk
  by_cases h2 : hcN kd h + 1 < hcN kd n
  · obtain ⟨e, e1, e2, e3⟩ := hc_ex h2
    refine ⟨e, ?_, by omega, e3, fun _ => e2⟩
    by_cases h3 : h < e
    · exact h3
    · have := hc_mono kd (i := e) (j := h) (by omega)
      omega
  · exact ⟨n, hh, Nat.le_refl _, by omega, fun h => absurd h (Nat.lt_irrefl _)⟩
section PM
variable {x : t_SP} {n L : Nat} {g k ln pr lb mk : Rw}
theorem op_omit0 (hI : IX x n L) (h0 : hcN x.2.1.2.2.1 n = 0) : L_omits x 0 = some (-100001, x) := by
  obtain ⟨tl, S, D, C, E, G, F, Hs, tx⟩ := x
  have hC : CSok C S n := hI.2.1
  have h0 : hcN S.2.2.1 n = 0 := h0
  have ev : X6_omit tl S D C E G F Hs tx 0 = some (.inr 0, S, D, C, G, Hs) := by
    have e : X4_has C 0 = 0 := by
      unfold X4_has X6_isBelow
      simp only [zlet_e]
      rw [show C.1 = nI (hcN S.2.2.1 n) from hC.1, h0]
      decide
    unfold X6_omit
    simp only [zlet_e]
    rw [e, if_pos rfl]
  unfold L_omits
  show (X6_omit tl S D C E G F Hs tx 0).bind _ = _
  rw [ev]
  rfl
theorem has_s {C : t_Scenes} {S : t_Script} (hS : SOK S n L) (hC : CSok C S n) {s : Nat} (hs : s < hcN S.2.2.1 n) : X4_has C (nI s) = 1 := by
  have hn := hS.2.2.1
  have := hc_le S.2.2.1 n
  unfold X4_has X6_isBelow
  simp only [zlet_e]
  rw [show C.1 = nI (hcN S.2.2.1 n) from hC.1, if_neg (nI_pos (by omega)), if_neg (nI_ge hs (by omega))]
theorem op_omit1 (hI : IX x n L) {h : Nat} (hh : h < n) (hk : x.2.1.2.2.1 h = 0) (hl : x.2.1.2.2.2.2.2.2.1 h = 0 ∨ x.2.1.2.2.2.2.2.2.1 h = 2) : L_omits x (nI (hcN x.2.1.2.2.1 h)) = some (-100003, x) := by
  obtain ⟨tl, S, D, C, E, G, F, Hs, tx⟩ := x
  have hS : SOK S n L := hI.1
  have hC : CSok C S n := hI.2.1
  have hk : S.2.2.1 h = 0 := hk
  have hl : S.2.2.2.2.2.2.1 h = 0 ∨ S.2.2.2.2.2.2.1 h = 2 := hl
  have hs : hcN S.2.2.1 h < hcN S.2.2.1 n := hc_lt hh hk
  have hn := hS.2.2.1
  have hcl := hc_le S.2.2.1 n
  obtain ⟨c1, -⟩ := hC.2.2.2.1 h hh hk
  have ev : X6_omit tl S D C E G F Hs tx (nI (hcN S.2.2.1 h)) = some (.inr 2, S, D, C, G, Hs) := by
    unfold X6_omit j_X6_omit_55
    simp only [zlet_e]
    rw [has_s hS hC hs, if_neg (by decide), rAt_nI (by decide) _ (by omega), c1, lock_x hS hh, omit_x hS hh]
    rcases hl with z | z
    · rw [if_pos z, if_pos rfl]
    · rw [z]; rfl
  unfold L_omits
  show (X6_omit tl S D C E G F Hs tx (nI (hcN S.2.2.1 h))).bind _ = _
  rw [ev]
  rfl
theorem op_omit (hI : IX x n L) (hR : LR x.2.1 n L g k ln pr lb mk) {h : Nat} (hh : h < n) (hk : x.2.1.2.2.1 h = 0) (hl : x.2.1.2.2.2.2.2.2.1 h = 1) (p7 x9 : Int32) :
    ∃ g' k' ln' pr' lb' mk' m x', zloop (b_L_omitted_107 p7 x x9 (nI h)) FU (g, k, ln, pr, lb, mk, 0) = some (g', k', ln', pr', lb', mk', nI m) ∧ L_omits x (nI (hcN x.2.1.2.2.1 h)) = some (nI m, x') ∧ IX x' (n - m) L ∧ LR x'.2.1 (n - m) L g' (upd k' h 5) ln' pr' lb' mk' := by
  obtain ⟨tl, S, D, C, E, G, F, Hs, tx⟩ := x
  obtain ⟨hS, hC, hG, hH, hd⟩ := hI
  have hS : SOK S n L := hS
  have hC : CSok C S n := hC
  have hR : LR S n L g k ln pr lb mk := hR
  have hd : ¬ DUP S n := hd
  have hH : HO Hs := hH
  have hk : S.2.2.1 h = 0 := hk
  have hl : S.2.2.2.2.2.2.1 h = 1 := hl
  have hn := hS.2.2.1
  have hn40 := hR.2.2.1
  have hcl := hc_le S.2.2.1 n
  have hs : hcN S.2.2.1 h < hcN S.2.2.1 n := hc_lt hh hk
  obtain ⟨e, e1, e2, e3, e4⟩ := next_h hh hk
  have hlo : ∀ i, h < i → i < e → ¬ S.2.2.1 i = 0 := by
    intro i a b c
    have m1 := hc_lt a hk
    have m2 := hc_lt b c
    omega
  obtain ⟨m, hm⟩ : ∃ m, m = e - h - 1 := ⟨_, rfl⟩
  have cp := copy_eq (S := S) (D := D) hS.2.2.1
  obtain ⟨T0, hT0⟩ : ∃ T0, T0 = X5_copyFrom D S := ⟨_, rfl⟩
  rw [← hT0] at cp
  have dS := cp.ok hS
  have dR := LR_seq cp hR
  obtain ⟨X, X2, h1, h2, T, g', k', ln', pr', lb', mk', i1, i2, i3, i4, i5, i6⟩ := zl_two (body := b_X6_omit_93 tl E F tx (nI (hcN S.2.2.1 h)) (nI h) (nI m)) (body2 := b_L_omitted_107 p7 (tl, S, D, C, E, G, F, Hs, tx) x9 (nI h))
    (fun d (v : t_Script × t_Script × t_Scenes × t_Pages × t_Hist × Int32) (v2 : Rw × Rw × Rw × Rw × Rw × Rw × Int32) => d ≤ m ∧ ∃ T g' k' ln' pr' lb' mk', v = (S, T, C, G, Hs, nI d) ∧ v2 = (g', k', ln', pr', lb', mk', nI d) ∧ SOK T (n - d) L ∧ LR T (n - d) L g' k' ln' pr' lb' mk' ∧ (∀ i, i ≤ h → RowEq S T i i) ∧ (∀ i, h < i → i < n - d → RowEq S T (i + d) i) ∧ (DUP T (n - d) → DUP S n))
    (fun X X2 => ∃ T g' k' ln' pr' lb' mk', X = (S, T, C, G, Hs) ∧ X2 = (g', k', ln', pr', lb', mk', nI m) ∧ SOK T (n - m) L ∧ LR T (n - m) L g' k' ln' pr' lb' mk' ∧ RowEq S T h h ∧ (DUP T (n - m) → DUP S n)) m
    (fun rec rec2 v v2 hv => by
      obtain ⟨-, T, g', k', ln', pr', lb', mk', rfl, rfl, q1, q2, q3, q4, q5⟩ := hv
      unfold b_X6_omit_93 b_L_omitted_107
      simp only [zlet_e, nI_1, zg0, cl0, q2.1]
      rw [if_pos (nI_le (Nat.le_refl _) (by omega))]
      refine ⟨_, _, rfl, ?_, T, g', k', ln', pr', lb', mk', rfl, rfl, q1, q2, q3 h (Nat.le_refl _), q5⟩
      by_cases c : e = n
      · rw [if_pos (nI_le (by omega) (by omega))]
      · have r := q4 (h + 1) (by omega) (by omega)
        have hk2 : T.2.2.1 (h + 1) = 0 := by
          rw [r.1, show h + 1 + m = e by omega]
          exact e4 (by omega)
        rw [if_neg (nI_ge (by omega) (by omega)), heads_l q1 q2 (by omega), if_pos hk2, Option.bind_some, if_neg (by decide)])
    (fun rec rec2 d v v2 hdm hv kk => by
      obtain ⟨-, T, g', k', ln', pr', lb', mk', rfl, rfl, q1, q2, q3, q4, q5⟩ := hv
      have hk2 : ¬ T.2.2.1 (h + 1) = 0 := by
        rw [(q4 (h + 1) (by omega) (by omega)).1]
        exact hlo _ (by omega) (by omega)
      obtain ⟨m', hm'⟩ : ∃ m', n - d = m' + 1 := ⟨n - d - 1, by omega⟩
      rw [hm'] at q1 q2 q4 q5
      obtain ⟨t1, t2, -, rlo, rhi⟩ := goes_x q1 (p := h + 1) (by omega)
      obtain ⟨g2, k2, ln2, pr2, lb2, mk2, T2, a1, a2, a3, a4, a5, a6⟩ := drop_l q1 q2 (p := h + 1) (by omega) (q1.un (by omega) hk2)
      rw [t2] at a2
      have eT := Option.some.inj a2
      unfold b_X6_omit_93 b_L_omitted_107
      simp only [zlet_e, nI_1, zg0, cl0, q2.1]
      rw [if_neg (nI_ge hdm (by omega)), if_neg (nI_ge (by omega) (by omega)), heads_l q1 q2 (by omega), if_neg hk2, Option.bind_some, if_pos rfl, t2, a1, Option.bind_some, Option.bind_some]
      refine kk _ _ ⟨by omega, t1, g2, k2, ln2, pr2, lb2, mk2, rfl, rfl, ?_⟩
      rw [show n - (d + 1) = m' by omega]
      rw [← eT] at a3 a4 a5
      refine ⟨a3, a4, fun i hi => row_tr (q3 i hi) (rlo i (by omega)).1, fun i i1 i2 => ?_, fun dp => q5 (ins_dup0 a3 q1 a5 hk2 dp)⟩
      have := row_tr (q4 (i + 1) (by omega) (by omega)) (rhi i (by omega) (by omega)).1
      rw [show i + 1 + d = i + (d + 1) by omega] at this
      exact this)
    FU 0 (S, T0, C, G, Hs, 0) (g, k, ln, pr, lb, mk, 0) (Nat.zero_le _) ⟨Nat.zero_le _, T0, g, k, ln, pr, lb, mk, rfl, rfl, dS, dR, fun i hi => (cp.2.2 i (by omega)).1, fun i i1 i2 => (cp.2.2 i (by omega)).1, fun dp => leq_dup hS dS cp.leq dp⟩ (show m - 0 < 3000 by omega)
  -- the heading is marked
  obtain ⟨T2, hT2⟩ : ∃ T2 : t_Script, T2 = (T.1, T.2.1, T.2.2.1, T.2.2.2.1, T.2.2.2.2.1, T.2.2.2.2.2.1, upd T.2.2.2.2.2.2.1 h 2, T.2.2.2.2.2.2.2.1, T.2.2.2.2.2.2.2.2.1, T.2.2.2.2.2.2.2.2.2) := ⟨_, rfl⟩
  have hh2 : h < n - m := by omega
  have tk : T.2.2.1 h = 0 := i5.1.trans hk
  have tl1 : T.2.2.2.2.2.2.1 h = 1 := i5.2.2.2.1.trans hl
  have elk : T2.2.2.2.2.2.2.1 = upd T.2.2.2.2.2.2.1 h 2 := by rw [hT2]
  have row : ∀ i, T2.2.2.1 i = T.2.2.1 i ∧ T2.2.2.2.1 i = T.2.2.2.1 i ∧ T2.2.2.2.2.1 i = T.2.2.2.2.1 i ∧ T2.2.2.2.2.2.1 i = T.2.2.2.2.2.1 i ∧ T2.2.2.2.2.2.2.2.1 i = T.2.2.2.2.2.2.2.1 i ∧ T2.2.2.2.2.2.2.2.2.1 i = T.2.2.2.2.2.2.2.2.1 i ∧ T2.2.2.2.2.2.2.2.2.2 i = T.2.2.2.2.2.2.2.2.2 i := by
    intro i; rw [hT2]; exact ⟨rfl, rfl, rfl, rfl, rfl, rfl, rfl⟩
  have lkz : ∀ i, T2.2.2.2.2.2.2.1 i = 0 ↔ T.2.2.2.2.2.2.1 i = 0 := by
    intro i
    rw [elk]
    by_cases c : i = h
    · subst c; rw [pk_us, tl1]; decide
    · rw [pk_un c]
  have leq : LEq T T2 (n - m) := fun i hi => by
    obtain ⟨r1, r2, r3, r4, r5, r6, r7⟩ := row i
    exact ⟨r1, lkz i, fun _ => ⟨r5, r6, r7⟩⟩
  have s2 : SOK T2 (n - m) L := by
    refine ⟨by rw [hT2]; exact i3.1, by rw [hT2]; exact i3.2.1, by omega, i3.2.2.2.1, i3.2.2.2.2.1, fun i hi => ?_⟩
    obtain ⟨r1, r2, r3, r4, r5, r6, r7⟩ := row i
    obtain ⟨f1, f2, f3, f4, f5, f6, f7⟩ := i3.e hi
    unfold EOK
    rw [r1, r2, r3, r5]
    refine ⟨f1, f2, f3, f4, ?_, fun z => f6 (fun w => z ((lkz i).mpr w)), fun z => f7 (fun w => z ((lkz i).mpr w))⟩
    rw [elk]
    by_cases c : i = h
    · subst c; rw [pk_us]; exact Or.inr (Or.inr rfl)
    · rw [pk_un c]; exact f5
  have rT : LR T2 (n - m) L g' (upd k' h 5) ln' pr' lb' mk' := by
    refine ⟨i4.1, i4.2.1, by omega, fun i hi => ?_⟩
    obtain ⟨r1, r2, r3, r4, r5, r6, r7⟩ := row i
    obtain ⟨f1, f2, f3, f4, f5⟩ := i4.le hi
    have el := (leq_lo leq i (by omega)).1
    refine ⟨?_, by rw [r2]; exact f2, by rw [r3]; exact f3, ?_, by rw [r4]; exact f5⟩
    · rw [elk, r1]
      by_cases c : i = h
      · subst c; rw [pk_us, pk_us, if_pos rfl]
      · rw [pk_un c, pk_un c]; exact f1
    · rcases f4 with ⟨z1, z2⟩ | ⟨z1, z2⟩
      · exact Or.inl ⟨(lkz i).mpr z1, z2⟩
      · refine Or.inr ⟨fun w => z1 ((lkz i).mp w), ?_⟩
        rw [r5, r6, r7, el]
        exact z2
  have nodup : ¬ DUP T2 (n - m) := fun dp => hd (i6 (leq_dup i3 s2 leq dp))
  obtain ⟨S', C', G', Hs', q1, q2, q3, q4⟩ := keep_l hH s2 rT nodup tl S C E G F tx
  obtain ⟨c1, -⟩ := hC.2.2.2.1 h hh hk
  have csz : C.2.2.2.2.1 (hcN S.2.2.1 h) = nI (e - h) := by
    rw [(hC.2.2.2.2.1 _ hs).1, (cn_sc rfl hk e1 e2 e3 e4).1]
  refine ⟨g', k', ln', pr', lb', mk', m, (tl, S', T2, C', E, G', F, Hs', tx), by rw [h2, i2], ?_, q4 _ _ _ _ _, q3⟩
  have ev : X6_omit tl S D C E G F Hs tx (nI (hcN S.2.2.1 h)) = some (.inl (nI m), S', T2, C', G', Hs') := by
    have em : nI (e - h) - 1 = nI m := by
      obtain ⟨q, hq⟩ : ∃ q, e - h = q + 1 := ⟨e - h - 1, by omega⟩
      rw [hq, nI_pred]
      exact congrArg nI (by omega)
    have emk : X5_markOmitted T (nI h) = T2 := by
      unfold X5_markOmitted
      simp only [zlet_e]
      rw [rPut_nI (by decide) _ (by omega), hT2]
    have el : X5_isLocked S (nI h) = 1 := by rw [lock_x hS hh, hl]; decide
    have eo : X5_isOmitted S (nI h) = 0 := by rw [omit_x hS hh, hl]; decide
    unfold X6_omit
    simp only [zlet_e]
    rw [has_s hS hC hs, if_neg (by decide), rAt_nI (by decide) _ (by omega), rAt_nI (by decide) _ (by omega), c1, csz, em, el, if_neg (by decide), eo, if_pos rfl, ← hT0, h1, Option.bind_some, i1]
    simp only []
    rw [emk, q1, Option.bind_some]
  unfold L_omits
  show (X6_omit tl S D C E G F Hs tx (nI (hcN S.2.2.1 h))).bind _ = _
  rw [ev]
  rfl
end PM

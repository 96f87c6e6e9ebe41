-- omit: class and reference
section MOm
variable {S : t_Script} {M : t_Model} {n L : Nat} {C : t_Scenes} {G : t_Pages} {Hs : t_Hist} {tl : Int32} {tx : Rw}
theorem RowEq_tr {A B C : t_Script} {i j k : Nat} (h : RowEq A B i j) (g : RowEq B C j k) : RowEq A C i k := by
  obtain ⟨h1, h2, h3, h4, h5, h6, h7⟩ := h
  obtain ⟨g1, g2, g3, g4, g5, g6, g7⟩ := g
  exact ⟨g1.trans h1, g2.trans h2, g3.trans h3, g4.trans h4, g5.trans h5, g6.trans h6, g7.trans h7⟩
theorem RowEq_rf (A : t_Script) (i : Nat) : RowEq A A i i := ⟨rfl, rfl, rfl, rfl, rfl, rfl, rfl⟩
/-- the elements behind a heading go, up to the next heading -/
theorem omit_loop (hS : SOK S n L) {T : t_Script} {N : t_Model} (tS : SOK T n L) (tM : MR T N.1 n L) (cp : SEq S T n) {h e : Nat} (hh : h < n) (he : h < e) (hen : e ≤ n) (hlo : ∀ i, h < i → i < e → S.2.2.1 i ≠ 0) (hx : e < n → S.2.2.1 e = 0) (E : t_Scenes) (F : t_Pages) (p1 : Int32) : ∃ T' m, zloop (b_X6_omit_93 tl E F tx p1 (nI h) (nI (e - h - 1))) FU (S, T, C, G, Hs, 0) = some (S, T', C, G, Hs) ∧ zloop (b_X7_omit_56 p1 (nI h)) FU (N, 0) = some (mSet N m, nI (e - h - 1)) ∧ SOK T' (n - (e - h - 1)) L ∧ MR T' m (n - (e - h - 1)) L ∧ RowEq S T' h h := by
  have hn := hS.2.2.1
  obtain ⟨X, X2, h1, h2, T', m, h3, h4, h5, h6, h7⟩ := zl_two (body := b_X6_omit_93 tl E F tx p1 (nI h) (nI (e - h - 1))) (body2 := b_X7_omit_56 p1 (nI h))
    (fun d (v : t_Script × t_Script × t_Scenes × t_Pages × t_Hist × Int32) (v2 : t_Model × Int32) => d ≤ e - h - 1 ∧ ∃ T' m, v = (S, T', C, G, Hs, nI d) ∧ v2 = (mSet N m, nI d) ∧ SOK T' (n - d) L ∧ MR T' m (n - d) L ∧ (∀ i, i ≤ h → RowEq S T' i i) ∧ ∀ i, h < i → i < n - d → RowEq S T' (i + d) i)
    (fun X X2 => ∃ T' m, X = (S, T', C, G, Hs) ∧ X2 = (mSet N m, nI (e - h - 1)) ∧ SOK T' (n - (e - h - 1)) L ∧ MR T' m (n - (e - h - 1)) L ∧ RowEq S T' h h) (e - h - 1)
    (fun rec rec2 v v2 hv => by
      obtain ⟨-, T', m, rfl, rfl, k1, k2, k3, k4⟩ := hv
      unfold b_X6_omit_93 b_X7_omit_56
      simp only [zlet_e, nI_1, mSet_s]
      rw [if_pos (nI_le (Nat.le_refl _) (by omega)), zix1, cl1, k2.2.1]
      refine ⟨_, _, rfl, ?_, T', m, rfl, rfl, k1, k2, k3 h (Nat.le_refl _)⟩
      by_cases c : e = n
      · rw [if_pos (nI_le (by omega) (by omega))]
      · have r := k4 (h + 1) (by omega) (by omega)
        have hk : T'.2.2.1 (h + 1) = 0 := by
          rw [r.1, show h + 1 + (e - h - 1) = e by omega]
          exact hx (by omega)
        rw [if_neg (nI_ge (by omega) (by omega)), head_t (M := mSet N m) k1 k2 (by omega), if_pos hk, Option.bind_some, if_neg (by decide)])
    (fun rec rec2 d v v2 hd hv k => by
      obtain ⟨-, T', m, rfl, rfl, k1, k2, k3, k4⟩ := hv
      have hk : ¬ T'.2.2.1 (h + 1) = 0 := by
        rw [(k4 (h + 1) (by omega) (by omega)).1]
        exact hlo _ (by omega) (by omega)
      obtain ⟨T2, m2, t1, t2, t3, t4, t5, t6⟩ := goes_t (M := mSet N m) k1 k2 (p := h + 1) (by omega)
      unfold b_X6_omit_93 b_X7_omit_56
      simp only [zlet_e, nI_1, mSet_s]
      rw [if_neg (nI_ge hd (by omega)), zix1, cl1, k2.2.1, if_neg (nI_ge (by omega) (by omega)), head_t (M := mSet N m) k1 k2 (by omega), if_neg hk, Option.bind_some, if_pos rfl, t1, t2, Option.bind_some, Option.bind_some, mSet2]
      rw [show n - d - 1 = n - (d + 1) by omega] at t3 t4
      refine k _ _ ⟨by omega, T2, m2, rfl, rfl, t3, t4, fun i hi => RowEq_tr (k3 i hi) (t5 i (by omega)), fun i i1 i2 => ?_⟩
      have := RowEq_tr (k4 (i + 1) (by omega) (by omega)) (t6 i (by omega) (by omega))
      rw [show i + 1 + d = i + (d + 1) by omega] at this
      exact this)
    FU 0 (S, T, C, G, Hs, 0) (N, 0) (Nat.zero_le _) ⟨Nat.zero_le _, T, N.1, rfl, rfl, tS, tM, fun i hi => (cp.2.2 i (by omega)).1, fun i _ i2 => (cp.2.2 i i2).1⟩ (show e - h - 1 - 0 < 3000 by omega)
  exact ⟨T', m, by rw [h1, h3], by rw [h2, h4], h5, h6, h7⟩
theorem m_omit (hI : InvC tl S C G Hs tx M) (D : t_Script) (E : t_Scenes) (F : t_Pages) (p1 : Int32) : ∃ R a M', X6_omit tl S D C E G F Hs tx p1 = some R ∧ X7_omit M p1 = some (a, M') ∧ Ans [(0, 1), (2, 2)] R.1 a M' ∧ InvC tl R.2.1 R.2.2.2.1 R.2.2.2.2.1 R.2.2.2.2.2 tx M' := by
  obtain ⟨n, L, hS, hM, hC, hG, hH, hT⟩ := id hI
  have hn := hS.2.2.1
  have hcl := hc_le S.2.2.1 n
  have e1 : X7_in p1 0 (nI (hcN S.2.2.1 n) - 1) = X4_has C p1 := by
    unfold X4_has
    simp only [zlet_e]
    rw [in_b (by omega), hC.1]
  unfold X6_omit X7_omit
  simp only [zlet_e]
  rw [sceneMany_t hS hM, Option.bind_some, e1]
  by_cases h0 : X4_has C p1 = 0
  · rw [if_pos h0, if_pos h0, fails_t]
    exact ⟨_, _, _, rfl, rfl, ⟨rfl, fun v h => by cases h⟩, Inv_th hI 1⟩
  obtain ⟨s, hs, rfl⟩ : ∃ s, s < hcN S.2.2.1 n ∧ p1 = nI s := by
    rw [← e1, in_b (by omega)] at h0
    exact below_ex (by omega) h0
  obtain ⟨h, hh, hk, hhs⟩ := hc_ex hs
  obtain ⟨c1, -⟩ := hC.2.2.2.1 h hh hk
  obtain ⟨c5, -⟩ := hC.2.2.2.2.1 s hs
  obtain ⟨e, e1', e2, e3, e4, e5⟩ := next_ex hS hM hh hk
  obtain ⟨t1, -⟩ := cn_sc hhs hk e1' e2 (by rw [e3, hhs]) e4
  rw [hhs] at c1
  have hso : X7_headingOf M (nI s) = some (nI h) := by rw [← hhs]; exact headingOf_t hS hM hh hk
  have bad : ∃ R a M', j_X6_omit_55 tl E F tx (nI s) S D C G Hs = some R ∧ j_X7_omit_44 (nI s) M = some (a, M') ∧ Ans [(0, 1), (2, 2)] R.1 a M' ∧ InvC tl R.2.1 R.2.2.2.1 R.2.2.2.2.1 R.2.2.2.2.2 tx M' :=
    ⟨_, 0, mTh M 2, rfl, rfl, ⟨rfl, fun v h => by cases h⟩, Inv_th hI 2⟩
  rw [if_neg h0, if_neg h0, hso, Option.bind_some, rAt_nI (by decide) _ (by omega), c1, lock_t hS hM hh, Option.bind_some, lock_x hS hh, of_om hS hM hh, Option.bind_some, omit_x hS hh]
  by_cases hl : S.2.2.2.2.2.2.1 h = 0
  · rw [if_pos hl, if_pos rfl, if_pos rfl]; exact bad
  rw [if_neg hl, if_neg (show ¬ (1 : Int32) = 0 by decide), if_neg (show ¬ (1 : Int32) = 0 by decide)]
  by_cases ho : S.2.2.2.2.2.2.1 h = 2
  · rw [if_pos ho, if_neg (show ¬ (1 : Int32) = 0 by decide), if_pos (show (1 : Int32) = 1 by decide)]; exact bad
  rw [if_neg ho, if_pos (show (0 : Int32) = 0 by decide), if_neg (show ¬ (0 : Int32) = 1 by decide)]
  obtain ⟨a, a1, a2, a3⟩ := hold_mr hS hM
  have cp := copy_eq (S := S) (D := D) hn
  obtain ⟨T, hT9⟩ : ∃ T, T = X5_copyFrom D S := ⟨_, rfl⟩
  rw [← hT9] at cp ⊢
  have hlo : ∀ i, h < i → i < e → S.2.2.1 i ≠ 0 := by
    intro i i1 i2 i3
    have m1 := hc_lt i1 hk
    have m2 := hc_lt i2 i3
    omega
  obtain ⟨T', m, o1, o2, o3, o4, o5⟩ := omit_loop (tl := tl) (tx := tx) (C := C) (G := G) (Hs := Hs) (N := mAs M a) hS (cp.ok hS) (cp.mr a3) cp hh e1' e2 hlo e4 E F (nI s)
  have es : C.2.2.2.2.1 s - 1 = nI (e - h - 1) := by
    rw [c5, t1, show e - h = (e - h - 1) + 1 by omega, nI_pred]
    rfl
  have hhn : h < n - (e - h - 1) := by omega
  obtain ⟨r1, r2, r3, r4, r5, r6, r7⟩ := o5
  have kS : SOK (T'.1, T'.2.1, T'.2.2.1, T'.2.2.2.1, T'.2.2.2.2.1, T'.2.2.2.2.2.1, upd T'.2.2.2.2.2.2.1 h 2, T'.2.2.2.2.2.2.2.1, T'.2.2.2.2.2.2.2.2.1, T'.2.2.2.2.2.2.2.2.2) (n - (e - h - 1)) L := ⟨o3.1, o3.2.1, o3.2.2.1, o3.2.2.2.1, o3.2.2.2.2.1, fun j hj => by
    obtain ⟨f1, f2, f3, f4, f5, f6, f7⟩ := o3.e hj
    refine ⟨f1, f2, f3, f4, ?_, ?_, ?_⟩
    · show upd T'.2.2.2.2.2.2.1 h 2 j = 0 ∨ upd T'.2.2.2.2.2.2.1 h 2 j = 1 ∨ upd T'.2.2.2.2.2.2.1 h 2 j = 2
      by_cases c : j = h
      · subst c; rw [pk_us]; exact Or.inr (Or.inr rfl)
      · rw [pk_un c]; exact f5
    · show upd T'.2.2.2.2.2.2.1 h 2 j ≠ 0 → T'.2.2.1 j = 0
      by_cases c : j = h
      · subst c; intro _; rw [r1]; exact hk
      · rw [pk_un c]; exact f6
    · show upd T'.2.2.2.2.2.2.1 h 2 j ≠ 0 → T'.2.2.2.2.2.2.2.1 j ≠ -1
      by_cases c : j = h
      · subst c; intro _; rw [r5]; exact (hS.e hh).2.2.2.2.2.2 hl
      · rw [pk_un c]; exact f7⟩
  have kM : MR (T'.1, T'.2.1, T'.2.2.1, T'.2.2.2.1, T'.2.2.2.2.1, T'.2.2.2.2.2.1, upd T'.2.2.2.2.2.2.1 h 2, T'.2.2.2.2.2.2.2.1, T'.2.2.2.2.2.2.2.2.1, T'.2.2.2.2.2.2.2.2.2) (mSet (mAs M a) (upd m (2 + 9 * h + 3) 1)).1 (n - (e - h - 1)) L := by
    refine ⟨?_, ?_, fun j hj => ?_⟩
    · rw [mSet_s, pk_un (by omega)]; exact o4.1
    · rw [mSet_s, pk_un (by omega)]; exact o4.2.1
    · obtain ⟨f0, f1, f2, f3, f4, f5, f6, f7, f8⟩ := o4.2.2 j hj
      unfold ERel
      rw [mSet_s]
      refine ⟨by rw [pk_un (by omega)]; exact f0, by rw [pk_un (by omega)]; exact f1, by rw [pk_un (by omega)]; exact f2, ?_, ?_, by rw [pk_un (by omega)]; exact f5, by rw [pk_un (by omega)]; exact f6, by rw [pk_un (by omega)]; exact f7, by rw [pk_un (by omega)]; exact f8⟩
      · show upd m (2 + 9 * h + 3) 1 (2 + 9 * j + 3) = if upd T'.2.2.2.2.2.2.1 h 2 j = 2 then 1 else 0
        by_cases c : j = h
        · subst c; rw [pk_us, pk_us]; rfl
        · rw [pk_un (by omega), pk_un c]; exact f3
      · show upd m (2 + 9 * h + 3) 1 (2 + 9 * j + 4) = if upd T'.2.2.2.2.2.2.1 h 2 j = 0 then 0 else 1
        by_cases c : j = h
        · subst c
          rw [pk_un (by omega), pk_us, f4, r4, if_neg hl]; decide
        · rw [pk_un (by omega), pk_un c]; exact f4
  obtain ⟨S', C', G', Hs', M2, k1, k2, k3, k4, k5⟩ := keep_t (M1 := mSet (mAs M a) (upd m (2 + 9 * h + 3) 1)) (C := C) (G := G) hH hS a2 kS kM hT E F (nI (e - h - 1))
  have w3 : X7_puts (mSet (mAs M a) m) (nI h) 3 1 = some (mSet (mAs M a) (upd m (2 + 9 * h + 3) 1)) := puts_t (mSet (mAs M a) m) (w := 3) (by omega) (by decide) 1
  refine ⟨(.inl (nI (e - h - 1)), S', (T'.1, T'.2.1, T'.2.2.1, T'.2.2.2.1, T'.2.2.2.2.1, T'.2.2.2.2.2.1, upd T'.2.2.2.2.2.2.1 h 2, T'.2.2.2.2.2.2.2.1, T'.2.2.2.2.2.2.2.2.1, T'.2.2.2.2.2.2.2.2.2), C', G', Hs'), nI (e - h - 1), M2, ?_, ?_, ⟨?_, fun v h => ?_⟩, k5⟩
  · unfold X5_markOmitted
    simp only [zlet_e]
    rw [rAt_nI (by decide) _ (by omega), es, o1, Option.bind_some, rPut_nI (by decide) _ (by omega), k1, Option.bind_some]
  · unfold j_X7_omit_91
    rw [a1, Option.bind_some, o2, Option.bind_some, w3, Option.bind_some, k2, Option.bind_some]
  · show some (0 : Int32) = some M2.2.2.2.2.2.2.1
    rw [k3]
  · exact (Sum.inl.inj h).symm
end MOm

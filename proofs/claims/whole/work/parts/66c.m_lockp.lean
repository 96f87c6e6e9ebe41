-- lockPages: class and reference
def KM (n : Nat) (m0 m mk : Rw) : Prop := m 0 = m0 0 ∧ m 1 = m0 1 ∧ ∀ i, i < n → m (2 + 9 * i + 8) = mk i ∧ ∀ w, w < 8 → m (2 + 9 * i + w) = m0 (2 + 9 * i + w)
theorem KM_put {n : Nat} {m0 m mk : Rw} (h : KM n m0 m mk) {i : Nat} (x : Int32) : KM n m0 (upd m (2 + 9 * i + 8) x) (upd mk i x) := by
  obtain ⟨h0, h1, h2⟩ := h
  refine ⟨by rw [pk_un (by omega)]; exact h0, by rw [pk_un (by omega)]; exact h1, fun j hj => ⟨?_, fun w hw => ?_⟩⟩
  · by_cases c : j = i
    · subst c; rw [pk_us, pk_us]
    · rw [pk_un (by omega), pk_un c]; exact (h2 j hj).1
  · rw [pk_un (by omega)]; exact (h2 j hj).2 w hw
section MLp
variable {S : t_Script} {M : t_Model} {n L : Nat} {C : t_Scenes} {G : t_Pages} {Hs : t_Hist} {tl : Int32} {tx : Rw}
theorem lockp_loops (hS : SOK S n L) {T : t_Script} {N : t_Model} {c : Nat} (tS : SOK T n L) (tM : MR T N.1 n L) (hP : PRfin G N S n c) (E : t_Scenes) (F : t_Pages) : ∃ mk1 m1 mk2 m2 k, zloop (b_X6_lockPages_13 tl E F tx) FU (S, T, C, G, Hs, 0) = some (S, (T.1, T.2.1, T.2.2.1, T.2.2.2.1, T.2.2.2.2.1, mk1, T.2.2.2.2.2.2.1, T.2.2.2.2.2.2.2.1, T.2.2.2.2.2.2.2.2.1, T.2.2.2.2.2.2.2.2.2), C, G, Hs) ∧ zloop b_X7_lockPages_16 FU (N, 0) = some (mSet N m1) ∧ zloop (b_X6_lockPages_46 tl E F tx) FU (S, (T.1, T.2.1, T.2.2.1, T.2.2.2.1, T.2.2.2.2.1, mk1, T.2.2.2.2.2.2.1, T.2.2.2.2.2.2.2.1, T.2.2.2.2.2.2.2.2.1, T.2.2.2.2.2.2.2.2.2), C, G, Hs, 0, 0) = some (S, (T.1, T.2.1, T.2.2.1, T.2.2.2.1, T.2.2.2.2.1, mk2, T.2.2.2.2.2.2.1, T.2.2.2.2.2.2.2.1, T.2.2.2.2.2.2.2.2.1, T.2.2.2.2.2.2.2.2.2), C, G, Hs, k) ∧ zloop b_X7_lockPages_44 FU (mSet N m1, 0, 0) = some (mSet N m2, k) ∧ KM n N.1 m2 mk2 := by
  have hn := hS.2.2.1
  have hcn := hP.1
  obtain ⟨X, X2, h1, h2, mk1, m1, h3, h4, h5⟩ := zl_two (body := b_X6_lockPages_13 tl E F tx) (body2 := b_X7_lockPages_16)
    (fun j (v : t_Script × t_Script × t_Scenes × t_Pages × t_Hist × Int32) (v2 : t_Model × Int32) => ∃ mk m, v = (S, (T.1, T.2.1, T.2.2.1, T.2.2.2.1, T.2.2.2.2.1, mk, T.2.2.2.2.2.2.1, T.2.2.2.2.2.2.2.1, T.2.2.2.2.2.2.2.2.1, T.2.2.2.2.2.2.2.2.2), C, G, Hs, nI j) ∧ v2 = (mSet N m, nI j) ∧ KM n N.1 m mk)
    (fun X X2 => ∃ mk m, X = (S, (T.1, T.2.1, T.2.2.1, T.2.2.2.1, T.2.2.2.2.1, mk, T.2.2.2.2.2.2.1, T.2.2.2.2.2.2.2.1, T.2.2.2.2.2.2.2.2.1, T.2.2.2.2.2.2.2.2.2), C, G, Hs) ∧ X2 = mSet N m ∧ KM n N.1 m mk) n
    (fun rec rec2 v v2 hv => by
      obtain ⟨mk, m, rfl, rfl, hk⟩ := hv
      unfold b_X6_lockPages_13 b_X7_lockPages_16
      simp only [zlet_e, mSet_s]
      rw [if_pos (show T.1 ≤ nI n by rw [tS.1]; exact nI_le (Nat.le_refl _) (by omega)), zix1, cl1, hk.2.1, tM.2.1, if_pos (nI_le (Nat.le_refl _) (by omega))]
      exact ⟨_, _, rfl, rfl, mk, m, rfl, rfl, hk⟩)
    (fun rec rec2 j v v2 hj hv k => by
      obtain ⟨mk, m, rfl, rfl, hk⟩ := hv
      have w8 : X7_puts (mSet N m) (nI j) 8 (-1) = some (mSet N (upd m (2 + 9 * j + 8) (-1))) := puts_t (mSet N m) (w := 8) (by omega) (by decide) (-1)
      unfold b_X6_lockPages_13 b_X7_lockPages_16
      simp only [zlet_e, mSet_s, nI_1]
      rw [if_neg (show ¬ T.1 ≤ nI j by rw [tS.1]; exact nI_ge hj (by omega)), zix1, cl1, hk.2.1, tM.2.1, if_neg (nI_ge hj (by omega)), w8, Option.bind_some, rPut_nI (by decide) _ (by omega)]
      exact k _ _ ⟨_, _, rfl, rfl, KM_put hk _⟩)
    FU 0 (S, T, C, G, Hs, 0) (N, 0) (Nat.zero_le _) ⟨T.2.2.2.2.2.1, N.1, rfl, rfl, rfl, rfl, fun i hi => ⟨(tM.2.2 i hi).2.2.2.2.2.2.2.2, fun w _ => rfl⟩⟩ (show n - 0 < 3000 by omega)
  obtain ⟨Y, Y2, g1, g2, mk2, m2, k, g3, g4, g5⟩ := zl_two (body := b_X6_lockPages_46 tl E F tx) (body2 := b_X7_lockPages_44)
    (fun j (v : t_Script × t_Script × t_Scenes × t_Pages × t_Hist × Int32 × Int32) (v2 : t_Model × Int32 × Int32) => ∃ mk m k, v = (S, (T.1, T.2.1, T.2.2.1, T.2.2.2.1, T.2.2.2.2.1, mk, T.2.2.2.2.2.2.1, T.2.2.2.2.2.2.2.1, T.2.2.2.2.2.2.2.2.1, T.2.2.2.2.2.2.2.2.2), C, G, Hs, k, nI j) ∧ v2 = (mSet N m, k, nI j) ∧ KM n N.1 m mk)
    (fun X X2 => ∃ mk m k, X = (S, (T.1, T.2.1, T.2.2.1, T.2.2.2.1, T.2.2.2.2.1, mk, T.2.2.2.2.2.2.1, T.2.2.2.2.2.2.2.1, T.2.2.2.2.2.2.2.2.1, T.2.2.2.2.2.2.2.2.2), C, G, Hs, k) ∧ X2 = (mSet N m, k) ∧ KM n N.1 m mk) c
    (fun rec rec2 v v2 hv => by
      obtain ⟨mk, m, k, rfl, rfl, hk⟩ := hv
      have q1 : (mSet N m).2.2.2.2.2.2.2.1 = nI c := hP.2.2.1
      unfold b_X6_lockPages_46 b_X7_lockPages_44
      simp only [zlet_e]
      rw [if_pos (show G.1 ≤ nI c by rw [hP.2.1]; exact nI_le (Nat.le_refl _) (by omega)), q1, if_pos (nI_le (Nat.le_refl _) (by omega))]
      exact ⟨_, _, rfl, rfl, mk, m, k, rfl, rfl, hk⟩)
    (fun rec rec2 j v v2 hj hv k => by
      obtain ⟨mk, m, q, rfl, rfl, hk⟩ := hv
      have q1 : (mSet N m).2.2.2.2.2.2.2.1 = nI c := hP.2.2.1
      obtain ⟨-, a2, -, a4⟩ := hP.2.2.2.2.1.1 j hj
      have q2 : (mSet N m).2.2.2.2.2.2.2.2.2.2.2.2.2.1 j = G.2.2.2.2.2.2.2.2.2.2.2.2.1 j := a2
      unfold b_X6_lockPages_46 b_X7_lockPages_44
      simp only [zlet_e, nI_1]
      rw [if_neg (show ¬ G.1 ≤ nI j by rw [hP.2.1]; exact nI_ge hj (by omega)), q1, if_neg (nI_ge hj (by omega)), rAt_nI (by decide) _ (by omega), zix_nI (by omega) (by decide), nI_clamp (by omega), q2]
      rcases a4 with a4 | ⟨e, e1, e2⟩
      · rw [if_pos a4, if_pos a4]
        exact k _ _ ⟨_, _, _, rfl, rfl, hk⟩
      · have ne : ¬ nI e = -1 := fun x => nI_pos (n := e) (by omega) (by rw [x]; decide)
        have w8 : ∀ x, X7_puts (mSet N m) (nI e) 8 x = some (mSet N (upd m (2 + 9 * e + 8) x)) := fun x => puts_t (mSet N m) (w := 8) (by omega) (by decide) x
        rw [e2, if_neg ne, if_neg ne, zix_nI (by omega) (by decide), w8, Option.bind_some, rPut_nI (by decide) _ (by omega)]
        exact k _ _ ⟨_, _, _, rfl, rfl, KM_put hk _⟩)
    FU 0 (S, (T.1, T.2.1, T.2.2.1, T.2.2.2.1, T.2.2.2.2.1, mk1, T.2.2.2.2.2.2.1, T.2.2.2.2.2.2.2.1, T.2.2.2.2.2.2.2.2.1, T.2.2.2.2.2.2.2.2.2), C, G, Hs, 0, 0) (mSet N m1, 0, 0) (Nat.zero_le _) ⟨mk1, m1, 0, rfl, rfl, h5⟩ (show c - 0 < 3000 by omega)
  exact ⟨mk1, m1, mk2, m2, k, by rw [h1, h3], by rw [h2, h4], by rw [g1, g3], by rw [g2, g4], g5⟩
theorem m_lockPages (hI : InvC tl S C G Hs tx M) (D : t_Script) (E : t_Scenes) (F : t_Pages) : ∃ R M', X6_lockPages tl S D C E G F Hs tx = some R ∧ X7_lockPages M = some (R.1, M') ∧ InvC tl R.2.1 R.2.2.2.1 R.2.2.2.2.1 R.2.2.2.2.2 tx M' := by
  obtain ⟨n, L, hS, hM, hC, ⟨c, hG⟩, hH, hT⟩ := id hI
  have hn := hS.2.2.1
  obtain ⟨a, a1, a2, a3⟩ := hold_mr hS hM
  obtain ⟨N, s1, s2, s3⟩ := hG (mAs M a) L a3
  have cp := copy_eq (S := S) (D := D) hn
  obtain ⟨T, hT9⟩ : ∃ T, T = X5_copyFrom D S := ⟨_, rfl⟩
  rw [← hT9] at cp
  have tS := cp.ok hS
  have tM : MR T N.1 n L := cp.mr (MFr_mr s2 a3)
  obtain ⟨mk1, m1, mk2, m2, k, l1, l2, l3, l4, l5⟩ := lockp_loops (tl := tl) (tx := tx) (C := C) (Hs := Hs) hS tS tM s3 E F
  have kS : SOK (T.1, T.2.1, T.2.2.1, T.2.2.2.1, T.2.2.2.2.1, mk2, T.2.2.2.2.2.2.1, T.2.2.2.2.2.2.2.1, T.2.2.2.2.2.2.2.2.1, T.2.2.2.2.2.2.2.2.2) n L := tS
  have kM : MR (T.1, T.2.1, T.2.2.1, T.2.2.2.1, T.2.2.2.2.1, mk2, T.2.2.2.2.2.2.1, T.2.2.2.2.2.2.2.1, T.2.2.2.2.2.2.2.2.1, T.2.2.2.2.2.2.2.2.2) (mSet N m2).1 n L := by
    obtain ⟨b0, b1, b2⟩ := l5
    refine ⟨b0.trans tM.1, b1.trans tM.2.1, fun j hj => ?_⟩
    obtain ⟨f0, f1, f2, f3, f4, f5, f6, f7, f8⟩ := tM.2.2 j hj
    obtain ⟨b3, b4⟩ := b2 j hj
    exact ⟨(b4 0 (by decide)).trans f0, (b4 1 (by decide)).trans f1, (b4 2 (by decide)).trans f2, (b4 3 (by decide)).trans f3, (b4 4 (by decide)).trans f4, (b4 5 (by decide)).trans f5, (b4 6 (by decide)).trans f6, (b4 7 (by decide)).trans f7, b3⟩
  have hH' : HR Hs (mSet N m2).2.1 (mSet N m2).2.2.2.1 := by
    show HR Hs N.2.1 N.2.2.2.1
    rw [s2.2.1, s2.2.2.2.1]; exact hH
  have hA' : MR S (mSet N m2).2.2.1 n L := by
    show MR S N.2.2.1 n L
    rw [s2.2.2.1]; exact a2
  have hT' : TX tl tx (mSet N m2).2.2.2.2.2.1 (mSet N m2).2.2.2.2.1 := by
    show TX tl tx N.2.2.2.2.2.1 N.2.2.2.2.1
    rw [s2.2.2.2.2.1, s2.2.2.2.2.2.1]; exact hT
  obtain ⟨S', C', G', Hs', M2, k1, k2, k3, k4, k5⟩ := keep_t (M1 := mSet N m2) (C := C) (G := G) hH' hS hA' kS kM hT' E F k
  refine ⟨(k, S', (T.1, T.2.1, T.2.2.1, T.2.2.2.1, T.2.2.2.2.1, mk2, T.2.2.2.2.2.2.1, T.2.2.2.2.2.2.2.1, T.2.2.2.2.2.2.2.2.1, T.2.2.2.2.2.2.2.2.2), C', G', Hs'), M2, ?_, ?_, k5⟩
  · unfold X6_lockPages
    simp only [zlet_e]
    rw [← hT9, l1, Option.bind_some, l3, Option.bind_some, k1, Option.bind_some]
  · unfold X7_lockPages
    simp only [zlet_e]
    rw [a1, Option.bind_some, zix0, cl0, a3.1, s1, Option.bind_some, l2, Option.bind_some, l4, Option.bind_some, k2, Option.bind_some]
end MLp

-- parse; the beginning
section MPa
variable {S : t_Script} {M : t_Model} {n L : Nat} {C : t_Scenes} {G : t_Pages} {Hs : t_Hist} {tl : Int32} {tx : Rw}
theorem m_parse (hI : InvC tl S C G Hs tx M) (D : t_Script) (E : t_Scenes) (F : t_Pages) : ∃ R M', X6_parse tl S D C E G F Hs tx = some R ∧ X7_parse M = some (R.1, M') ∧ InvC tl R.2.1 R.2.2.2.1 R.2.2.2.2.1 R.2.2.2.2.2 tx M' := by
  obtain ⟨n, L, hS, hM, hC, hG, hH, t, t1, t2, t3, t4⟩ := id hI
  have hn := hS.2.2.1
  obtain ⟨a, a1, a2, a3⟩ := hold_mr (M := mTh M 0) hS hM
  obtain ⟨N, hN⟩ : ∃ N, N = mAs (mTh M 0) a := ⟨_, rfl⟩
  have hTX : TXn t tx N := by
    rw [hN]
    exact ⟨t1, t3, t4⟩
  obtain ⟨D0, hD0⟩ : ∃ D0 : t_Script, D0 = (0, S.2.1, D.2.2.1, D.2.2.2.1, D.2.2.2.2.1, D.2.2.2.2.2.1, D.2.2.2.2.2.2.1, D.2.2.2.2.2.2.2.1, D.2.2.2.2.2.2.2.2.1, D.2.2.2.2.2.2.2.2.2) := ⟨_, rfl⟩
  have kS0 : SOK D0 0 L := by
    rw [hD0]
    exact ⟨rfl, hS.2.1, Nat.zero_le _, hS.2.2.2.1, hS.2.2.2.2.1, fun i hi => absurd hi (Nat.not_lt_zero _)⟩
  have kM0 : MR D0 (upd M.1 1 0) 0 L := ⟨by rw [pk_un (by omega)]; exact hM.1, pk_us, fun i hi => absurd hi (Nat.not_lt_zero _)⟩
  have start2 : X7_parse M = (zloop b_X7_parse_21 FU (mRd N (upd M.1 1 0) (nI 0) N.2.2.2.2.2.2.2.2.2.2.2.2.2.2.2.2.2.1)).bind fun q6 => Sum.elim (fun y7 => zix 1 542 (zlet (y7.1 (1 : Int32).toNatClampNeg) fun u8 => (X7_ends y7 u8).bind fun q9 => some (q9.1, q9.2))) (fun r => some r) q6 := by
    unfold X7_parse
    rw [show (M.1, M.2.1, M.2.2.1, M.2.2.2.1, M.2.2.2.2.1, M.2.2.2.2.2.1, 0, M.2.2.2.2.2.2.2.1, M.2.2.2.2.2.2.2.2.1, M.2.2.2.2.2.2.2.2.2.1, M.2.2.2.2.2.2.2.2.2.2.1, M.2.2.2.2.2.2.2.2.2.2.2.1, M.2.2.2.2.2.2.2.2.2.2.2.2.1, M.2.2.2.2.2.2.2.2.2.2.2.2.2.1, M.2.2.2.2.2.2.2.2.2.2.2.2.2.2.1, M.2.2.2.2.2.2.2.2.2.2.2.2.2.2.2.1, M.2.2.2.2.2.2.2.2.2.2.2.2.2.2.2.2.1, M.2.2.2.2.2.2.2.2.2.2.2.2.2.2.2.2.2.1, M.2.2.2.2.2.2.2.2.2.2.2.2.2.2.2.2.2.2) = mTh M 0 from rfl, a1, Option.bind_some, zix1, zlet_e, cl1, hN]
    rfl
  have start1 : X6_parse tl S D C E G F Hs tx = ((zloop (b_X2_readInto_2 tx) FU ((nI t, nI 0, -1), D0, nI 0)).bind fun q3 => some (q3.1.2.2, q3.1, q3.2)).bind fun q2 => if q2.1 = (-1) then ((X6_keepDraft tl S q2.2.2 C E G F Hs tx).bind fun q3 => some (q3.1.1, q3.1, q2.2.2, q3.2.1, q3.2.2.1, q3.2.2.2)) else (zlet ((-10) - q2.1) fun u4 => some (u4, S, q2.2.2, C, G, Hs)) := by
    unfold X6_parse X2_readInto X5_clear
    rw [zlet_e, hD0, t2]
    rfl
  have hFU : t - 0 + 1 < FU := show t - 0 + 1 < 3000 by omega
  have hFU2 : t - 0 < FU := show t - 0 < 3000 by omega
  rcases parse_two hTX (t - 0) 0 0 (upd M.1 1 0) N.2.2.2.2.2.2.2.2.2.2.2.2.2.2.2.2.2.1 D0 FU FU rfl (Nat.zero_le _) hFU hFU2 kS0 kM0 with ⟨D', m', b', k', x1, x2, x3, x4⟩ | ⟨p, a', D', q, b', p1, x1, x2, x3⟩
  · have hH' : HR Hs (mRd N m' (nI t) b').2.1 (mRd N m' (nI t) b').2.2.2.1 := by rw [hN]; exact hH
    have hA' : MR S (mRd N m' (nI t) b').2.2.1 n L := by rw [hN]; exact a2
    have hT' : TX tl tx (mRd N m' (nI t) b').2.2.2.2.2.1 (mRd N m' (nI t) b').2.2.2.2.1 := by rw [hN]; exact ⟨t, t1, t2, t3, t4⟩
    obtain ⟨S', C', G', Hs', M2, k1, k2, k3, k4, k5⟩ := keep_t (M1 := mRd N m' (nI t) b') (C := C) (G := G) hH' hS hA' x3 x4 hT' E F (nI k')
    refine ⟨(nI k', S', D', C', G', Hs'), M2, ?_, ?_, k5⟩
    · have e9 : S'.1 = nI k' := k4.1.trans x3.1
      rw [start1, x1, Option.bind_some, Option.bind_some]
      show (if (-1 : Int32) = -1 then _ else _) = _
      rw [if_pos rfl, k1, Option.bind_some]
      show some (S'.1, S', D', C', G', Hs') = _
      rw [e9]
    · rw [start2, x2, Option.bind_some]
      show zix 1 542 (zlet (m' (1 : Int32).toNatClampNeg) fun u8 => (X7_ends (mRd N m' (nI t) b') u8).bind fun q9 => some (q9.1, q9.2)) = _
      rw [zix1, zlet_e, cl1, x4.2.1, k2, Option.bind_some]
  · have ne : ¬ nI p = -1 := fun e => nI_pos (n := p) (by omega) (by rw [e]; decide)
    refine ⟨(-10 - nI p, S, D', C, G, Hs), mRd N q (nI p) b', ?_, ?_, n, L, hS, ?_, hC, hG, ?_, ?_⟩
    · rw [start1, x1, Option.bind_some, Option.bind_some]
      show (if nI p = -1 then _ else _) = _
      rw [if_neg ne, zlet_e]
    · rw [start2, x2, Option.bind_some]
      rfl
    · refine MR_congr hn (fun i hi => ?_) a2
      show q i = _
      rw [x3 i hi, hN]
    · rw [hN]; exact hH
    · rw [hN]; exact ⟨t, t1, t2, t3, t4⟩
theorem Inv_0 : InvC sp0.1 sp0.2.1 sp0.2.2.2.1 sp0.2.2.2.2.2.1 sp0.2.2.2.2.2.2.2.1 sp0.2.2.2.2.2.2.2.2 mod0 := by
  refine ⟨0, 50, ⟨rfl, rfl, by decide, by decide, by decide, fun i hi => absurd hi (Nat.not_lt_zero _)⟩, ⟨rfl, rfl, fun i hi => absurd hi (Nat.not_lt_zero _)⟩, ⟨rfl, rfl, rfl, fun h hh => absurd hh (Nat.not_lt_zero _), fun s hs => absurd hs (Nat.not_lt_zero _), fun i hi => absurd hi (Nat.not_lt_zero _)⟩, ⟨0, fun M L1 hM => ?_⟩, ⟨0, by decide, rfl, rfl, ⟨by decide, by decide, by decide, by decide⟩, fun i j _ _ h => h, fun j hj => absurd hj (Nat.not_lt_zero _)⟩, ⟨0, by decide, rfl, rfl, fun j _ => rfl⟩⟩
  refine ⟨(M.1, M.2.1, M.2.2.1, M.2.2.2.1, M.2.2.2.2.1, M.2.2.2.2.2.1, M.2.2.2.2.2.2.1, 0, 0, M.2.2.2.2.2.2.2.2.2.1, M.2.2.2.2.2.2.2.2.2.2.1, M.2.2.2.2.2.2.2.2.2.2.2.1, M.2.2.2.2.2.2.2.2.2.2.2.2.1, M.2.2.2.2.2.2.2.2.2.2.2.2.2.1, M.2.2.2.2.2.2.2.2.2.2.2.2.2.2.1, M.2.2.2.2.2.2.2.2.2.2.2.2.2.2.2.1, M.2.2.2.2.2.2.2.2.2.2.2.2.2.2.2.2.1, M.2.2.2.2.2.2.2.2.2.2.2.2.2.2.2.2.2.1, M.2.2.2.2.2.2.2.2.2.2.2.2.2.2.2.2.2.2), ?_, ⟨rfl, rfl, rfl, rfl, rfl, rfl, rfl, rfl, rfl, rfl, rfl⟩, ⟨Nat.le_refl _, rfl, rfl, rfl, ⟨fun r hr => absurd hr (Nat.not_lt_zero _), fun r hr => absurd hr (Nat.not_lt_zero _)⟩, rfl, fun r hr => absurd hr (Nat.not_lt_zero _)⟩⟩
  unfold X7_setsAll
  rw [show FU = 2999 + 1 from rfl, zl_s]
  unfold b_X7_setsAll_12
  simp only [zlet_e]
  rw [zix1, cl1, hM.2.1, if_pos (by decide), Option.bind_some]
end MPa

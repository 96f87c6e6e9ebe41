theorem h_reg2 {cI cS : ClassId} {hh ha : Nat} {Ah : Nat → Nat → Nat} {c : Int32} {g : Nat → Nat} {T : Nat → t_Script} {k : Nat} (hk : k < 4) (w : va_W) : (l_Hist cI cS hh ha Ah c g T ++ [w])[2 + k]? = some (w_Script cI (Ah k) (T k)) := by
  rcases (show k = 0 ∨ k = 1 ∨ k = 2 ∨ k = 3 by omega) with h | h | h | h <;> subst h <;> rfl
theorem h_set2 {cI cS : ClassId} {hh ha : Nat} {Ah : Nat → Nat → Nat} {c : Int32} {g : Nat → Nat} {T : Nat → t_Script} {k : Nat} (hk : k < 4) (S : t_Script) (w : va_W) : ((l_Hist cI cS hh ha Ah c g T ++ [w]).set (2 + k) (w_Script cI (Ah k) S)).set 6 w = l_Hist cI cS hh ha Ah c g (va_up T k S) ++ [w] := by
  rcases (show k = 0 ∨ k = 1 ∨ k = 2 ∨ k = 3 by omega) with h | h | h | h <;> subst h <;> rfl
theorem h_set3 {cI cS : ClassId} {hh ha : Nat} {Ah : Nat → Nat → Nat} {c : Int32} {g : Nat → Nat} {T : Nat → t_Script} {k : Nat} (hk : k < 4) (w w' : va_W) : ((l_Hist cI cS hh ha Ah c g T ++ [w]).set 6 w').set (2 + k) (w_Script cI (Ah k) (T k)) = l_Hist cI cS hh ha Ah c g T ++ [w'] := by
  rcases (show k = 0 ∨ k = 1 ∨ k = 2 ∨ k = 3 by omega) with h | h | h | h <;> subst h <;> rfl
abbrev h_ok (g : Nat → Nat) : Prop := g 0 < 4 ∧ g 1 < 4 ∧ g 2 < 4 ∧ g 3 < 4
theorem h_ok_of {g : Nat → Nat} (h : h_ok g) : ∀ j, j < 4 → g j < 4 := by
  obtain ⟨h0, h1, h2, h3⟩ := h
  intro j hj
  rcases (show j = 0 ∨ j = 1 ∨ j = 2 ∨ j = 3 by omega) with e | e | e | e <;> subst e <;> assumption
theorem h_ok_drop {g : Nat → Nat} (h : h_ok g) : h_ok (h_drop g) := by
  obtain ⟨h0, h1, h2, h3⟩ := h
  refine ⟨?_, ?_, ?_, ?_⟩ <;> simp [h_drop, va_up] <;> assumption
/-- store: the place, and what stands there then -/
def X0_store (Hs : t_Hist) (S : t_Script) : Option t_Hist :=
  if h_ok Hs.2.1 ∧ ¬ Hs.1 < 0 ∧ Hs.1 ≤ 4 then
    (if Hs.1 < 4 then some (Hs.1 + 1, Hs.2.1, va_up Hs.2.2 (Hs.2.1 Hs.1.toNatClampNeg) (X5_copyFrom (Hs.2.2 (Hs.2.1 Hs.1.toNatClampNeg)) S))
     else some (4, h_drop Hs.2.1, va_up Hs.2.2 (h_drop Hs.2.1 3) (X5_copyFrom (Hs.2.2 (h_drop Hs.2.1 3)) S)))
  else none
def X0_giveBack (Hs : t_Hist) (S : t_Script) : Option (t_Hist × t_Script) :=
  if h_ok Hs.2.1 ∧ 0 < Hs.1 ∧ Hs.1 ≤ 4 then some ((Hs.1 - 1, Hs.2.1, Hs.2.2), X5_copyFrom S (Hs.2.2 (Hs.2.1 (Hs.1 - 1).toNatClampNeg))) else none
def rm_X0_store : Room := { frames := 3, cells := 0, slots := 0, locals := 63 }
set_option maxRecDepth 100000 in
set_option maxHeartbeats 4000000 in
theorem c_X0_store (l : Launch) (Z : zZ) (hh ha : Nat) (Ah : Nat → Nat → Nat) (As : Nat → Nat) (Hs : t_Hist) (S : t_Script) (R : t_Hist) (hF : X0_store Hs S = some R) : zMU l yX0_store (zw yX0_store cX0_store 3 none) rm_X0_store Z [.ref hh, .ref (As 0)] (List.flatten [w_Hist Z.2.1 Z.2.2.1 hh ha Ah Hs, w_Script Z.2.1 As S]) (List.flatten [w_Hist Z.2.1 Z.2.2.1 hh ha Ah R, w_Script Z.2.1 As S]) none := by
  refine zMU_of (by decide) (Nat.le_of_ble_eq_true rfl) (fun p e s m below meth c hx hb hr hml hown hts hlocks hK A hA Q hQ ls hl hP hD hS => ?_)
  have hl : lv_has ls 3 [(0, .ref hh), (1, .ref (As 0))] := hl
  have hown : s.vm.findClass RX0 = some m.cls := hown
  unfold X0_store at hF
  by_cases hc : h_ok Hs.2.1 ∧ ¬ Hs.1 < 0 ∧ Hs.1 ≤ 4
  case neg => rw [if_neg hc] at hF; cases hF
  rw [if_pos hc] at hF
  obtain ⟨hok, hc0, hc4⟩ := hc
  obtain ⟨n, g, T⟩ := Hs
  have hP : va_P Z.1 vwCl (l_Hist Z.2.1 Z.2.2.1 hh ha Ah n g T ++ [w_Script Z.2.1 As S]).flatten s.heap := zfr hP
  have hD : va_D A (l_Hist Z.2.1 Z.2.2.1 hh ha Ah n g T ++ [w_Script Z.2.1 As S]).flatten := zfrD hD
  have J : ∀ (j : Nat) (g' : Nat → Nat) (H : Heap) (locs : List Loc) (ls : Array Slot), j < 4 → h_ok g' → R = (nI (j + 1), g', va_up T (g' j) (X5_copyFrom (T (g' j)) S)) → va_P Z.1 vwCl (l_Hist Z.2.1 Z.2.2.1 hh ha Ah (nI j) g' T ++ [w_Script Z.2.1 As S]).flatten H → va_D A (l_Hist Z.2.1 Z.2.2.1 hh ha Ah (nI j) g' T ++ [w_Script Z.2.1 As S]).flatten → va_S A s.heap H locs → lv_has ls 3 [(0, .ref hh), (1, .ref (As 0))] →
      W p l e rm_X0_store s m ([.ref hh, .ref (As 0)] : List Value).toArray below meth c H locs 0 0 Q (F0 m 16 ls []) := by
    intro j g' H locs ls hj hok' hR hP hD hS hl
    have hkk : g' j < 4 := h_ok_of hok' j hj
    refine lv_aload_n hx hb (z_d hX0_store_0 8 rfl) rfl (lv_at hl 0 rfl) ?_
    refine lv_aload_n hx hb (z_d hX0_store_0 9 rfl) rfl (lv_at hl 0 rfl) ?_
    refine va_get (D := Z.1) (ci := 0) (v := .int (nI j)) (C := RX0) (T := TX0) (N := 2) hx hb hts zinX0 hown hK.1 (zP_reg hP 0 rfl) 0 rfl rfl 1 (by decide) (hts _ k_f_X0_17) (fun _ h9 => h9) rfl (z_d hX0_store_0 10 rfl) ?_
    refine z_ro_r (z_rV (As := [.int (nI j)]) (rest := []) hx hb hml hown hts vt_X0_stateAt (c_X0_stateAt l Z hh ha Ah (nI j, g', T) (nI j) (g' j) (nI_pos (by omega)) (show ¬ nI 4 ≤ nI j from nI_ge hj (by decide)) (by rw [nI_clamp (by omega)])) rfl rfl ⟨Nat.le_of_ble_eq_true rfl, Nat.le_of_ble_eq_true rfl⟩ k_m_X0_25 zPro_blind (z_recv (q := (RX0, TX0, 2)) (ci := 0) (q0 := 0) hK (zP_reg hP 0 rfl) rfl rfl) (z_prec hK (zP_reg (zfl hP) 0 rfl)) rfl hl.1 (Nat.le_of_ble_eq_true rfl) (z_d hX0_store_0 11 rfl) ⟨Nat.zero_le _, Nat.zero_le _⟩) hS hP (fun H locs hP hS => ?_)
    refine lv_astore_n (lv' := [(2, .ref (Ah (g' j) 0)), (0, .ref hh), (1, .ref (As 0))]) hx hb (z_d hX0_store_0 12 rfl) rfl hl (by decide) rfl (fun ls hl => ?_)
    refine lv_aload_n hx hb (z_d hX0_store_0 13 rfl) rfl (lv_at hl 0 rfl) ?_
    refine lv_ifnull hx hb (z_d hX0_store_0 14 rfl) ?_
    refine lv_aload_n hx hb (z_d hX0_store_0 15 rfl) rfl (lv_at hl 0 rfl) ?_
    refine lv_aload_n hx hb (z_d hX0_store_0 16 rfl) rfl (lv_at hl 2 rfl) ?_
    obtain ⟨S', hS'⟩ : ∃ y, X5_copyFrom (T (g' j)) S = y := ⟨_, rfl⟩
    refine z_mu2 (L := l_Hist Z.2.1 Z.2.2.1 hh ha Ah (nI j) g' T ++ [w_Script Z.2.1 As S]) (L' := l_Hist Z.2.1 Z.2.2.1 hh ha Ah (nI j) g' (va_up T (g' j) S') ++ [w_Script Z.2.1 As S]) (z_rV (As := [.ref (As 0)]) (rest := []) hx hb hml hown hts vt_X5_copyFrom (c_X5_copyFrom l Z (Ah (g' j)) As (T (g' j)) S _ hS') rfl rfl ⟨Nat.le_of_ble_eq_true rfl, Nat.le_of_ble_eq_true rfl⟩ k_m_X0_29 zPmu_blind (z_recv (q := (RX5, TX5, 10)) (ci := 5) (q0 := 0) hK (zP_reg (L := l_Script Z.2.1 (Ah (g' j)) (T (g' j)).1 (T (g' j)).2.1 (T (g' j)).2.2.1 (T (g' j)).2.2.2.1 (T (g' j)).2.2.2.2.1 (T (g' j)).2.2.2.2.2.1 (T (g' j)).2.2.2.2.2.2.1 (T (g' j)).2.2.2.2.2.2.2.1 (T (g' j)).2.2.2.2.2.2.2.2.1 (T (g' j)).2.2.2.2.2.2.2.2.2) (zP_reg hP (2 + g' j) (h_reg2 hkk _)) 0 rfl) rfl rfl) (z_prem hK (zP_r2 hP (2 + g' j) 6 (h_reg2 hkk _) rfl) (zD_r2 hD (2 + g' j) 6 (h_reg2 hkk _) rfl (by omega))) rfl hl.1 (Nat.le_of_ble_eq_true rfl) (z_d hX0_store_0 17 rfl) ⟨Nat.zero_le _, Nat.zero_le _⟩) hS hP hD (2 + g' j) 6 (h_reg2 hkk _) rfl (by omega) (h_set2 hkk S' _) (adr_Script _ _ _ _) rfl (fun H locs hP hD hS => ?_)
    refine W.eq (g2 := F0 m 34 ls []) rfl ?_
    refine lv_aload_n hx hb (z_d hX0_store_0 18 rfl) rfl (lv_at hl 1 rfl) ?_
    refine lv_dup hx hb (z_d hX0_store_0 19 rfl) rfl ?_
    refine va_get (D := Z.1) (ci := 0) (v := .int (nI j)) (C := RX0) (T := TX0) (N := 2) hx hb hts zinX0 hown hK.1 (zP_reg hP 0 rfl) 0 rfl rfl 1 (by decide) (hts _ k_f_X0_17) (fun _ h9 => h9) rfl (z_d hX0_store_0 20 rfl) ?_
    refine lv_iconst (v := 1) hx hb (z_d hX0_store_0 21 rfl) (by decide) ?_
    refine lv_iadd hx hb (z_d hX0_store_0 22 rfl) ?_
    refine lv_topE (nI_1 j) ?_
    refine z_put (Z := Z) (ci := 0) (v := .int (nI (j + 1))) (ty := .int) (L := l_Hist Z.2.1 Z.2.2.1 hh ha Ah (nI j) g' (va_up T (g' j) S') ++ [w_Script Z.2.1 As S]) (L' := l_Hist Z.2.1 Z.2.2.1 hh ha Ah (nI (j + 1)) g' (va_up T (g' j) S') ++ [w_Script Z.2.1 As S]) (C := RX0) (T := TX0) (N := 2) hx hb hts zinX0 tyX0 tyX0_ok nmX0 hown hK hP hD hS 0 rfl rfl 1 (by decide) (hts _ k_f_X0_17) (fun _ h9 => h9) rfl (tyX0_ok 1 (by decide)) rfl rfl (Nat.le_of_ble_eq_true rfl) rfl (z_d hX0_store_0 23 rfl) (fun H locs hP hD hS => ?_)
    subst hS'
    subst hR
    subst hQ
    subst hA
    exact W.vret hx hb hr (fun t ht hW => zq_mu (by rw [ht]; exact zfl hP) (hS.F ht)) hS.2.2 (z_d hX0_store_0 24 rfl)
  refine lv_aload_n hx hb (z_d hX0_store_0 0 rfl) rfl (lv_at hl 0 rfl) ?_
  refine va_get (D := Z.1) (ci := 0) (v := .int n) (C := RX0) (T := TX0) (N := 2) hx hb hts zinX0 hown hK.1 (zP_reg hP 0 rfl) 0 rfl rfl 1 (by decide) (hts _ k_f_X0_17) (fun _ h9 => h9) rfl (z_d hX0_store_0 1 rfl) ?_
  refine lv_aload_n hx hb (z_d hX0_store_0 2 rfl) rfl (lv_at hl 0 rfl) ?_
  refine va_get (D := Z.1) (ci := 0) (v := .ref ha) (C := RX0) (T := TX0) (N := 2) hx hb hts zinX0 hown hK.1 (zP_reg hP 0 rfl) 0 rfl rfl 0 (by decide) (hts _ k_f_X0_11) (fun _ h9 => h9) rfl (z_d hX0_store_0 3 rfl) ?_
  refine va_alen (v := 4) (ty := .object "ScriptPages$Script") hx hb hK.1 (zP_reg hP 1 rfl) 0 1 rfl rfl rfl (z_d hX0_store_0 4 rfl) ?_
  obtain ⟨j, hj, hnj⟩ := nI_of2 (M := 4) (n := 4) (by decide) hc0 hc4
  have hnj : n = nI j := hnj
  subst hnj
  refine lv_icmp_lt (tgt := 16) hx hb (z_d hX0_store_0 5 rfl) (by decide) (fun h => ?_) (fun h => ?_)
  · have hF := z_pos h hF
    have hj4 : j < 4 := by
      have h2 : nI j < nI 4 := h
      rw [nI_ltI (by omega) (by decide)] at h2
      exact h2
    have hF := Option.some.inj hF
    refine J j g _ _ ls hj4 hok ?_ hP hD hS hl
    rw [← hF]
    show (nI j + 1, g, va_up T (g (nI j).toNatClampNeg) (X5_copyFrom (T (g (nI j).toNatClampNeg)) S)) = _
    rw [nI_1, nI_clamp (by omega)]
  · have hF := z_neg h hF
    have hj4 : j = 4 := by
      have h2 : ¬ nI j < nI 4 := h
      rw [nI_ltI (by omega) (by decide)] at h2
      omega
    subst hj4
    have hF := Option.some.inj hF
    refine lv_aload_n hx hb (z_d hX0_store_0 6 rfl) rfl (lv_at hl 0 rfl) ?_
    refine z_mu1 (L := [w_Hist Z.2.1 Z.2.2.1 hh ha Ah (nI 4, g, T), w_Script Z.2.1 As S]) (L' := [w_Hist Z.2.1 Z.2.2.1 hh ha Ah (nI 3, h_drop g, T), w_Script Z.2.1 As S]) (z_rV (As := []) (rest := []) hx hb hml hown hts vt_X0_dropOldest (c_X0_dropOldest l Z hh ha Ah (nI 4, g, T) (h_ok_of hok) (nI 3) (show nI 4 - 1 = nI 3 by decide)) rfl rfl ⟨Nat.le_of_ble_eq_true rfl, Nat.le_of_ble_eq_true rfl⟩ k_m_X0_22 zPmu_blind (z_recv (q := (RX0, TX0, 2)) (ci := 0) (q0 := 0) hK (zP_reg hP 0 rfl) rfl rfl) (z_prem hK (zP_reg (zfl hP) 0 rfl) (zD_one (zflD hD) 0 _ rfl)) rfl hl.1 (Nat.le_of_ble_eq_true rfl) (z_d hX0_store_0 7 rfl) ⟨Nat.zero_le _, Nat.zero_le _⟩) hS (zfl hP) (zflD hD) 0 rfl rfl (adr_Hist _ _ _ _ _ _ _) (fun H locs hP hD hS => ?_)
    refine W.eq (g2 := F0 m 16 ls []) rfl ?_
    have hP : va_P Z.1 vwCl (l_Hist Z.2.1 Z.2.2.1 hh ha Ah (nI 3) (h_drop g) T ++ [w_Script Z.2.1 As S]).flatten H := zfr hP
    have hD : va_D A (l_Hist Z.2.1 Z.2.2.1 hh ha Ah (nI 3) (h_drop g) T ++ [w_Script Z.2.1 As S]).flatten := zfrD hD
    exact J 3 (h_drop g) _ _ ls (by omega) (h_ok_drop hok) hF.symm hP hD hS hl

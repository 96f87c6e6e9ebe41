theorem vt_X2_next : zVt yX2_next cX2_next 1 (some .int) 0 := ⟨zG_at 541 (by decide +kernel) (by decide +kernel), zG_at 19 (by decide +kernel) (by decide +kernel), zG_at 89 (by decide +kernel) (by decide +kernel), zG_at 542 (by decide +kernel) (by decide +kernel), by decide +kernel⟩
theorem vs_X2_isDigit : zSt yX2_isDigit cX2_isDigit 1 (some .boolean) 1 := ⟨zG_at 560 (by decide +kernel) (by decide +kernel), zG_at 89 (by decide +kernel) (by decide +kernel), zG_at 561 (by decide +kernel) (by decide +kernel), by decide +kernel⟩
theorem vt_X2_fail : zVt yX2_fail cX2_fail 2 none 1 := ⟨zG_at 553 (by decide +kernel) (by decide +kernel), zG_at 20 (by decide +kernel) (by decide +kernel), zG_at 89 (by decide +kernel) (by decide +kernel), zG_at 554 (by decide +kernel) (by decide +kernel), by decide +kernel⟩
theorem vs_X6_isLength : zSt yX6_isLength cX6_isLength 1 (some .boolean) 1 := ⟨zG_at 571 (by decide +kernel) (by decide +kernel), zG_at 75 (by decide +kernel) (by decide +kernel), zG_at 572 (by decide +kernel) (by decide +kernel), by decide +kernel⟩
theorem vs_X2_kindOf : zSt yX2_kindOf cX2_kindOf 1 (some .int) 1 := ⟨zG_at 545 (by decide +kernel) (by decide +kernel), zG_at 89 (by decide +kernel) (by decide +kernel), zG_at 546 (by decide +kernel) (by decide +kernel), by decide +kernel⟩
theorem vt_X2_readLength : zVt yX2_readLength cX2_readLength 4 (some .int) 0 := ⟨zG_at 568 (by decide +kernel) (by decide +kernel), zG_at 23 (by decide +kernel) (by decide +kernel), zG_at 89 (by decide +kernel) (by decide +kernel), zG_at 569 (by decide +kernel) (by decide +kernel), by decide +kernel⟩
theorem vt_X5_putIn : zVt yX5_putIn cX5_putIn 5 none 4 := ⟨zG_at 574 (by decide +kernel) (by decide +kernel), zG_at 575 (by decide +kernel) (by decide +kernel), zG_at 76 (by decide +kernel) (by decide +kernel), zG_at 576 (by decide +kernel) (by decide +kernel), by decide +kernel⟩
theorem vt_X2_readsComma : zVt yX2_readsComma cX2_readsComma 1 (some .boolean) 0 := ⟨zG_at 564 (by decide +kernel) (by decide +kernel), zG_at 22 (by decide +kernel) (by decide +kernel), zG_at 89 (by decide +kernel) (by decide +kernel), zG_at 565 (by decide +kernel) (by decide +kernel), by decide +kernel⟩
theorem vt_X2_readPerson : zVt yX2_readPerson cX2_readPerson 2 (some .int) 0 := ⟨zG_at 557 (by decide +kernel) (by decide +kernel), zG_at 21 (by decide +kernel) (by decide +kernel), zG_at 89 (by decide +kernel) (by decide +kernel), zG_at 558 (by decide +kernel) (by decide +kernel), by decide +kernel⟩
theorem vt_X2_readItem : zVt yX2_readItem cX2_readItem 5 none 1 := ⟨zG_at 537 (by decide +kernel) (by decide +kernel), zG_at 18 (by decide +kernel) (by decide +kernel), zG_at 89 (by decide +kernel) (by decide +kernel), zG_at 538 (by decide +kernel) (by decide +kernel), by decide +kernel⟩
theorem k_f_X2_15 : Cond.fieldLink RX2 15 "ScriptPages$Reader" "error" "I" ∈ zG := zG_at 521 (by decide +kernel) (by decide +kernel)
theorem k_f_X2_9 : Cond.fieldLink RX2 9 "ScriptPages$Reader" "place" "I" ∈ zG := zG_at 520 (by decide +kernel) (by decide +kernel)
theorem k_f_X2_22 : Cond.fieldLink RX2 22 "ScriptPages$Reader" "end" "I" ∈ zG := zG_at 519 (by decide +kernel) (by decide +kernel)
theorem k_f_X2_18 : Cond.fieldLink RX2 18 "ScriptPages$Reader" "text" "LScriptPages$Row;" ∈ zG := zG_at 518 (by decide +kernel) (by decide +kernel)
theorem k_m_X2_70 : Cond.methodLink RX2 70 yX3_at ∈ zG := zG_at 543 (by decide +kernel) (by decide +kernel)
theorem k_m_X2_29 : Cond.methodLink RX2 29 yX2_next ∈ zG := zG_at 539 (by decide +kernel) (by decide +kernel)
theorem k_m_X2_63 : Cond.methodLink RX2 63 yX2_isDigit ∈ zG := zG_at 559 (by decide +kernel) (by decide +kernel)
theorem k_m_X2_43 : Cond.methodLink RX2 43 yX2_fail ∈ zG := zG_at 551 (by decide +kernel) (by decide +kernel)
theorem k_m_X2_33 : Cond.methodLink RX2 33 yX2_kindOf ∈ zG := zG_at 544 (by decide +kernel) (by decide +kernel)
theorem k_m_X2_37 : Cond.methodLink RX2 37 yX5_isFull ∈ zG := zG_at 547 (by decide +kernel) (by decide +kernel)
theorem k_m_X2_53 : Cond.methodLink RX2 53 yX2_readLength ∈ zG := zG_at 566 (by decide +kernel) (by decide +kernel)
theorem k_m_X2_59 : Cond.methodLink RX2 59 yX5_putIn ∈ zG := zG_at 573 (by decide +kernel) (by decide +kernel)
theorem k_m_X2_50 : Cond.methodLink RX2 50 yX2_readsComma ∈ zG := zG_at 562 (by decide +kernel) (by decide +kernel)
theorem k_m_X2_47 : Cond.methodLink RX2 47 yX2_readPerson ∈ zG := zG_at 555 (by decide +kernel) (by decide +kernel)
theorem k_m_X2_25 : Cond.methodLink RX2 25 yX2_readItem ∈ zG := zG_at 535 (by decide +kernel) (by decide +kernel)
theorem kn_X2_67 {U : State} (h : zNW U) : va_Nw (.methodLinkNest RX2 67 yX6_isLength "ScriptPages") U := h.mth 5 (by decide +kernel)
theorem kn_X2_56 {U : State} (h : zNW U) {args : Array Value} : (Cond.fieldLinkNest RX2 56 "ScriptPages$Script" "size" "I" "ScriptPages").before args U = true := h.fld 2 (by decide +kernel)
def rm_X2_fail : Room := { frames := 0, cells := 0, slots := 0, locals := 0 }
set_option maxRecDepth 100000 in
set_option maxHeartbeats 4000000 in
theorem c_X2_fail (l : Launch) (Z : zZ) (rd rt : Nat) (Rd : t_Reader) (p1 : Int32) (R : t_Reader) (hF : X2_fail Rd p1 = R) : zMU l yX2_fail (zw yX2_fail cX2_fail 2 none) rm_X2_fail Z [.ref rd, .int p1] (w_Reader rd rt Rd) (w_Reader rd rt R) none := by
  refine zMU_of (by decide) (Nat.le_of_ble_eq_true rfl) (fun p e s m below meth c hx hb hr hml hown hts hlocks hK A hA Q hQ ls hl hP hD hS => ?_)
  unfold X2_fail at hF
  have hl : lv_has ls 2 [(0, .ref rd), (1, .int p1)] := hl
  have hown : s.vm.findClass RX2 = some m.cls := hown
  refine lv_aload_n hx hb (z_d hX2_fail_0 0 rfl) rfl (lv_at hl 0 rfl) ?_
  refine va_get (D := Z.1) (ci := 2) (v := .int Rd.2.2) (C := RX2) (T := TX2) (N := 4) hx hb hts zinX2 hown hK.1 hP 0 rfl rfl 3 (by decide) (hts _ k_f_X2_15) (fun _ h9 => h9) rfl (z_d hX2_fail_0 1 rfl) ?_
  refine lv_iconst (v := (-1)) hx hb (z_d hX2_fail_0 2 rfl) (by decide) ?_
  refine lv_icmp_ne (tgt := 13) hx hb (z_d hX2_fail_0 3 rfl) (by decide) (fun hc5 => ?_) (fun hc5 => ?_)
  · have hF := z_neg hc5 hF
    obtain rfl := hF
    subst hQ
    subst hA
    exact W.vret hx hb hr (fun t ht hW => zq_mu (by rw [ht]; exact hP) (hS.F ht)) hS.2.2 (z_d hX2_fail_0 7 rfl)
  · have hF := z_pos hc5 hF
    refine lv_aload_n hx hb (z_d hX2_fail_0 4 rfl) rfl (lv_at hl 0 rfl) ?_
    refine lv_iload_n hx hb (z_d hX2_fail_0 5 rfl) rfl (lv_at hl 1 rfl) ?_
    refine va_put (D := Z.1) (ci := 2) (v := .int p1) (ty := .int) (C := RX2) (T := TX2) (N := 4) hx hb hts zinX2 tyX2 tyX2_ok nmX2 hown hK.1 hP hD hS 0 rfl rfl 3 (by decide) (hts _ k_f_X2_15) (fun _ h9 => h9) rfl (tyX2_ok 3 (by decide)) rfl rfl (Nat.le_of_ble_eq_true rfl) (z_d hX2_fail_0 6 rfl) (fun H locs hP hD hS => ?_)
    have hP : va_P Z.1 vwCl (w_Reader rd rt (Rd.1, Rd.2.1, p1)) H := hP
    have hD : va_D A (w_Reader rd rt (Rd.1, Rd.2.1, p1)) := hD
    obtain rfl := hF
    subst hQ
    subst hA
    exact W.vret hx hb hr (fun t ht hW => zq_mu (by rw [ht]; exact hP) (hS.F ht)) hS.2.2 (z_d hX2_fail_0 7 rfl)
def rm_X2_next : Room := { frames := 1, cells := 0, slots := 0, locals := 21 }
set_option maxRecDepth 100000 in
set_option maxHeartbeats 4000000 in
theorem c_X2_next (l : Launch) (Z : zZ) (rd : Nat) (rt rq : Nat) (Rd : t_Reader) (tx : Rw) (R : Int32) (hF : X2_next Rd tx = R) : zRO l yX2_next (zw yX2_next cX2_next 1 (some .int)) rm_X2_next Z [.ref rd] (List.flatten [w_Reader rd rt Rd, w_Row Z.2.1 200 rt rq tx]) (some (.int R)) := by
  refine zRO_of (by decide) (Nat.le_of_ble_eq_true rfl) (fun p e s m below meth c hx hb hr hml hown hts hlocks hK Q hQ ls hl hP hS => ?_)
  unfold X2_next at hF
  have hl : lv_has ls 1 [(0, .ref rd)] := hl
  have hown : s.vm.findClass RX2 = some m.cls := hown
  refine lv_aload_n hx hb (z_d hX2_next_0 0 rfl) rfl (lv_at hl 0 rfl) ?_
  refine va_get (D := Z.1) (ci := 2) (v := .int Rd.2.1) (C := RX2) (T := TX2) (N := 4) hx hb hts zinX2 hown hK.1 (zP_reg hP 0 rfl) 0 rfl rfl 2 (by decide) (hts _ k_f_X2_9) (fun _ h9 => h9) rfl (z_d hX2_next_0 1 rfl) ?_
  refine lv_aload_n hx hb (z_d hX2_next_0 2 rfl) rfl (lv_at hl 0 rfl) ?_
  refine va_get (D := Z.1) (ci := 2) (v := .int Rd.1) (C := RX2) (T := TX2) (N := 4) hx hb hts zinX2 hown hK.1 (zP_reg hP 0 rfl) 0 rfl rfl 1 (by decide) (hts _ k_f_X2_22) (fun _ h9 => h9) rfl (z_d hX2_next_0 3 rfl) ?_
  refine lv_icmp_ge (tgt := 25) hx hb (z_d hX2_next_0 4 rfl) (by decide) (fun hc8 => ?_) (fun hc8 => ?_)
  · have hF := z_pos hc8 hF
    refine lv_iconst (v := (-1)) hx hb (z_d hX2_next_0 11 rfl) (by decide) ?_
    obtain rfl := hF
    subst hQ
    exact W.iret hx hb hr (fun t ht hW => zq_ro (hS.F ht)) hS.2.2 (z_d hX2_next_0 12 rfl)
  · have hF := z_neg hc8 hF
    refine lv_aload_n hx hb (z_d hX2_next_0 5 rfl) rfl (lv_at hl 0 rfl) ?_
    refine va_get (D := Z.1) (ci := 2) (v := .ref rt) (C := RX2) (T := TX2) (N := 4) hx hb hts zinX2 hown hK.1 (zP_reg hP 0 rfl) 0 rfl rfl 0 (by decide) (hts _ k_f_X2_18) (fun _ h9 => h9) rfl (z_d hX2_next_0 6 rfl) ?_
    refine lv_aload_n hx hb (z_d hX2_next_0 7 rfl) rfl (lv_at hl 0 rfl) ?_
    refine va_get (D := Z.1) (ci := 2) (v := .int Rd.2.1) (C := RX2) (T := TX2) (N := 4) hx hb hts zinX2 hown hK.1 (zP_reg hP 0 rfl) 0 rfl rfl 2 (by decide) (hts _ k_f_X2_9) (fun _ h9 => h9) rfl (z_d hX2_next_0 8 rfl) ?_
    refine z_let hF (fun q1 hq1 hF => ?_)
    refine z_ro_i (z_rV (As := [.int Rd.2.1]) (rest := []) hx hb hml hown hts vt_X3_at (c_rAt l Z 200 rt rq (by decide) tx Rd.2.1 _ hq1) rfl rfl ⟨Nat.le_of_ble_eq_true rfl, Nat.le_of_ble_eq_true rfl⟩ k_m_X2_70 zPro_blind (z_recv (q := (RX3, TX3, 1)) (ci := 3) (q0 := 0) hK (zP_reg hP 1 rfl) rfl rfl) (z_prec hK (zP_reg hP 1 rfl)) rfl hl.1 (Nat.le_of_ble_eq_true rfl) (z_d hX2_next_0 9 rfl) ⟨Nat.zero_le _, Nat.zero_le _⟩) hS hP (fun H locs hP hS => ?_)
    refine lv_goto (tgt := 26) hx hb (z_d hX2_next_0 10 rfl) (by decide) ?_
    obtain rfl := hF
    subst hQ
    exact W.iret hx hb hr (fun t ht hW => zq_ro (hS.F ht)) hS.2.2 (z_d hX2_next_0 12 rfl)
def rm_X2_readPerson : Room := { frames := 2, cells := 0, slots := 0, locals := 41 }
set_option maxRecDepth 100000 in
set_option maxHeartbeats 4000000 in
theorem c_X2_readPerson (l : Launch) (Z : zZ) (rd : Nat) (rt rq : Nat) (Rd : t_Reader) (tx : Rw) (R : Int32 × t_Reader) (hF : X2_readPerson Rd tx = R) : zMU l yX2_readPerson (zw yX2_readPerson cX2_readPerson 2 (some .int)) rm_X2_readPerson Z [.ref rd] (List.flatten [w_Reader rd rt Rd, w_Row Z.2.1 200 rt rq tx]) (List.flatten [w_Reader rd rt R.2, w_Row Z.2.1 200 rt rq tx]) (some (.int R.1)) := by
  refine zMU_of (by decide) (Nat.le_of_ble_eq_true rfl) (fun p e s m below meth c hx hb hr hml hown hts hlocks hK A hA Q hQ ls hl hP hD hS => ?_)
  unfold X2_readPerson at hF
  have hl : lv_has ls 2 [(0, .ref rd)] := hl
  have hown : s.vm.findClass RX2 = some m.cls := hown
  refine lv_aload_n hx hb (z_d hX2_readPerson_0 0 rfl) rfl (lv_at hl 0 rfl) ?_
  refine z_let hF (fun q1 hq1 hF => ?_)
  refine z_ro_i (z_rV (As := []) (rest := []) hx hb hml hown hts vt_X2_next (c_X2_next l Z rd rt rq Rd tx _ hq1) rfl rfl ⟨Nat.le_of_ble_eq_true rfl, Nat.le_of_ble_eq_true rfl⟩ k_m_X2_29 zPro_blind (z_recv (q := (RX2, TX2, 4)) (ci := 2) (q0 := 0) hK (zP_reg hP 0 rfl) rfl rfl) (z_prec hK hP) rfl hl.1 (Nat.le_of_ble_eq_true rfl) (z_d hX2_readPerson_0 1 rfl) ⟨Nat.zero_le _, Nat.zero_le _⟩) hS hP (fun H locs hP hS => ?_)
  refine z_let hF (fun q2 hq2 hF => ?_)
  refine z_ro_i (z_rS (As := [.int q1]) (rest := []) hx hb hml hown hts vs_X2_isDigit (c_X2_isDigit l Z q1 _ hq2) rfl rfl ⟨Nat.le_of_ble_eq_true rfl, Nat.le_of_ble_eq_true rfl⟩ k_m_X2_63 zPro_blind (z_prec hK zP_nil) rfl hl.1 (Nat.le_of_ble_eq_true rfl) (z_d hX2_readPerson_0 2 rfl) ⟨Nat.zero_le _, Nat.zero_le _⟩) hS hP (fun H locs hP hS => ?_)
  refine lv_if_ne (tgt := 20) hx hb (z_d hX2_readPerson_0 3 rfl) (by decide) (fun hc7 => ?_) (fun hc7 => ?_)
  · have hF := z_neg hc7 hF
    refine lv_aload_n hx hb (z_d hX2_readPerson_0 10 rfl) rfl (lv_at hl 0 rfl) ?_
    refine z_let hF (fun q3 hq3 hF => ?_)
    refine z_ro_i (z_rV (As := []) (rest := []) hx hb hml hown hts vt_X2_next (c_X2_next l Z rd rt rq Rd tx _ hq3) rfl rfl ⟨Nat.le_of_ble_eq_true rfl, Nat.le_of_ble_eq_true rfl⟩ k_m_X2_29 zPro_blind (z_recv (q := (RX2, TX2, 4)) (ci := 2) (q0 := 0) hK (zP_reg hP 0 rfl) rfl rfl) (z_prec hK hP) rfl hl.1 (Nat.le_of_ble_eq_true rfl) (z_d hX2_readPerson_0 11 rfl) ⟨Nat.zero_le _, Nat.zero_le _⟩) hS hP (fun H locs hP hS => ?_)
    refine lv_bipush (v := 48) hx hb (z_d hX2_readPerson_0 12 rfl) (by decide) ?_
    refine lv_isub hx hb (z_d hX2_readPerson_0 13 rfl) ?_
    refine z_let hF (fun u4 hu4 hF => ?_)
    refine lv_topE hu4 ?_
    refine lv_istore_n (lv' := [(1, .int u4), (0, .ref rd)]) hx hb (z_d hX2_readPerson_0 14 rfl) rfl hl (by decide) rfl (fun ls hl => ?_)
    refine lv_aload_n hx hb (z_d hX2_readPerson_0 15 rfl) rfl (lv_at hl 1 rfl) ?_
    refine lv_dup hx hb (z_d hX2_readPerson_0 16 rfl) rfl ?_
    refine va_get (D := Z.1) (ci := 2) (v := .int Rd.2.1) (C := RX2) (T := TX2) (N := 4) hx hb hts zinX2 hown hK.1 (zP_reg hP 0 rfl) 0 rfl rfl 2 (by decide) (hts _ k_f_X2_9) (fun _ h9 => h9) rfl (z_d hX2_readPerson_0 17 rfl) ?_
    refine lv_iconst (v := 1) hx hb (z_d hX2_readPerson_0 18 rfl) (by decide) ?_
    refine lv_iadd hx hb (z_d hX2_readPerson_0 19 rfl) ?_
    refine z_let hF (fun u5 hu5 hF => ?_)
    refine lv_topE hu5 ?_
    refine z_put (Z := Z) (ci := 2) (v := .int u5) (ty := .int) (L := [w_Reader rd rt Rd, w_Row Z.2.1 200 rt rq tx]) (L' := [w_Reader rd rt (Rd.1, u5, Rd.2.2), w_Row Z.2.1 200 rt rq tx]) (C := RX2) (T := TX2) (N := 4) hx hb hts zinX2 tyX2 tyX2_ok nmX2 hown hK hP hD hS 0 rfl rfl 2 (by decide) (hts _ k_f_X2_9) (fun _ h9 => h9) rfl (tyX2_ok 2 (by decide)) rfl rfl (Nat.le_of_ble_eq_true rfl) rfl (z_d hX2_readPerson_0 20 rfl) (fun H locs hP hD hS => ?_)
    refine lv_iload_n hx hb (z_d hX2_readPerson_0 21 rfl) rfl (lv_at hl 0 rfl) ?_
    obtain rfl := hF
    subst hQ
    subst hA
    exact W.iret hx hb hr (fun t ht hW => zq_mu (by rw [ht]; exact hP) (hS.F ht)) hS.2.2 (z_d hX2_readPerson_0 22 rfl)
  · have hF := z_pos hc7 hF
    refine lv_aload_n hx hb (z_d hX2_readPerson_0 4 rfl) rfl (lv_at hl 0 rfl) ?_
    refine lv_aload_n hx hb (z_d hX2_readPerson_0 5 rfl) rfl (lv_at hl 0 rfl) ?_
    refine va_get (D := Z.1) (ci := 2) (v := .int Rd.2.1) (C := RX2) (T := TX2) (N := 4) hx hb hts zinX2 hown hK.1 (zP_reg hP 0 rfl) 0 rfl rfl 2 (by decide) (hts _ k_f_X2_9) (fun _ h9 => h9) rfl (z_d hX2_readPerson_0 6 rfl) ?_
    refine z_let hF (fun q6 hq6 hF => ?_)
    refine z_mu1 (L := [w_Reader rd rt Rd, w_Row Z.2.1 200 rt rq tx]) (L' := [w_Reader rd rt q6, w_Row Z.2.1 200 rt rq tx]) (z_rV (As := [.int Rd.2.1]) (rest := []) hx hb hml hown hts vt_X2_fail (c_X2_fail l Z rd rt Rd Rd.2.1 _ hq6) rfl rfl ⟨Nat.le_of_ble_eq_true rfl, Nat.le_of_ble_eq_true rfl⟩ k_m_X2_43 zPmu_blind (z_recv (q := (RX2, TX2, 4)) (ci := 2) (q0 := 0) hK (zP_reg hP 0 rfl) rfl rfl) (z_prem hK (zP_reg hP 0 rfl) (zD_one hD 0 _ rfl)) rfl hl.1 (Nat.le_of_ble_eq_true rfl) (z_d hX2_readPerson_0 7 rfl) ⟨Nat.zero_le _, Nat.zero_le _⟩) hS hP hD 0 rfl rfl rfl (fun H locs hP hD hS => ?_)
    refine W.eq (g2 := F0 m 18 ls []) rfl ?_
    refine lv_iconst (v := (-1)) hx hb (z_d hX2_readPerson_0 8 rfl) (by decide) ?_
    obtain rfl := hF
    subst hQ
    subst hA
    exact W.iret hx hb hr (fun t ht hW => zq_mu (by rw [ht]; exact hP) (hS.F ht)) hS.2.2 (z_d hX2_readPerson_0 9 rfl)
def rm_X2_readsComma : Room := { frames := 2, cells := 0, slots := 0, locals := 41 }
set_option maxRecDepth 100000 in
set_option maxHeartbeats 4000000 in
theorem c_X2_readsComma (l : Launch) (Z : zZ) (rd : Nat) (rt rq : Nat) (Rd : t_Reader) (tx : Rw) (R : Int32 × t_Reader) (hF : X2_readsComma Rd tx = R) : zMU l yX2_readsComma (zw yX2_readsComma cX2_readsComma 1 (some .boolean)) rm_X2_readsComma Z [.ref rd] (List.flatten [w_Reader rd rt Rd, w_Row Z.2.1 200 rt rq tx]) (List.flatten [w_Reader rd rt R.2, w_Row Z.2.1 200 rt rq tx]) (some (.int R.1)) := by
  refine zMU_of (by decide) (Nat.le_of_ble_eq_true rfl) (fun p e s m below meth c hx hb hr hml hown hts hlocks hK A hA Q hQ ls hl hP hD hS => ?_)
  unfold X2_readsComma at hF
  have hl : lv_has ls 1 [(0, .ref rd)] := hl
  have hown : s.vm.findClass RX2 = some m.cls := hown
  refine lv_aload_n hx hb (z_d hX2_readsComma_0 0 rfl) rfl (lv_at hl 0 rfl) ?_
  refine va_get (D := Z.1) (ci := 2) (v := .int Rd.2.2) (C := RX2) (T := TX2) (N := 4) hx hb hts zinX2 hown hK.1 (zP_reg hP 0 rfl) 0 rfl rfl 3 (by decide) (hts _ k_f_X2_15) (fun _ h9 => h9) rfl (z_d hX2_readsComma_0 1 rfl) ?_
  refine lv_iconst (v := (-1)) hx hb (z_d hX2_readsComma_0 2 rfl) (by decide) ?_
  refine lv_icmp_ne (tgt := 17) hx hb (z_d hX2_readsComma_0 3 rfl) (by decide) (fun hc5 => ?_) (fun hc5 => ?_)
  · have hF := z_neg hc5 hF
    refine lv_iconst (v := 0) hx hb (z_d hX2_readsComma_0 8 rfl) (by decide) ?_
    have hz9 : narrow .boolean (.int 0) = .int 0 := rfl
    obtain rfl := hF
    subst hQ
    subst hA
    exact W.zret hx hb hr hz9 (fun t ht hW => zq_mu (by rw [ht]; exact hP) (hS.F ht)) hS.2.2 (z_d hX2_readsComma_0 9 rfl)
  · have hF := z_pos hc5 hF
    refine lv_aload_n hx hb (z_d hX2_readsComma_0 4 rfl) rfl (lv_at hl 0 rfl) ?_
    refine z_let hF (fun q1 hq1 hF => ?_)
    refine z_ro_i (z_rV (As := []) (rest := []) hx hb hml hown hts vt_X2_next (c_X2_next l Z rd rt rq Rd tx _ hq1) rfl rfl ⟨Nat.le_of_ble_eq_true rfl, Nat.le_of_ble_eq_true rfl⟩ k_m_X2_29 zPro_blind (z_recv (q := (RX2, TX2, 4)) (ci := 2) (q0 := 0) hK (zP_reg hP 0 rfl) rfl rfl) (z_prec hK hP) rfl hl.1 (Nat.le_of_ble_eq_true rfl) (z_d hX2_readsComma_0 5 rfl) ⟨Nat.zero_le _, Nat.zero_le _⟩) hS hP (fun H locs hP hS => ?_)
    refine lv_bipush (v := 44) hx hb (z_d hX2_readsComma_0 6 rfl) (by decide) ?_
    refine lv_icmp_eq (tgt := 19) hx hb (z_d hX2_readsComma_0 7 rfl) (by decide) (fun hc14 => ?_) (fun hc14 => ?_)
    · have hF := z_pos hc14 hF
      refine lv_aload_n hx hb (z_d hX2_readsComma_0 10 rfl) rfl (lv_at hl 0 rfl) ?_
      refine lv_dup hx hb (z_d hX2_readsComma_0 11 rfl) rfl ?_
      refine va_get (D := Z.1) (ci := 2) (v := .int Rd.2.1) (C := RX2) (T := TX2) (N := 4) hx hb hts zinX2 hown hK.1 (zP_reg hP 0 rfl) 0 rfl rfl 2 (by decide) (hts _ k_f_X2_9) (fun _ h9 => h9) rfl (z_d hX2_readsComma_0 12 rfl) ?_
      refine lv_iconst (v := 1) hx hb (z_d hX2_readsComma_0 13 rfl) (by decide) ?_
      refine lv_iadd hx hb (z_d hX2_readsComma_0 14 rfl) ?_
      refine z_let hF (fun u2 hu2 hF => ?_)
      refine lv_topE hu2 ?_
      refine z_put (Z := Z) (ci := 2) (v := .int u2) (ty := .int) (L := [w_Reader rd rt Rd, w_Row Z.2.1 200 rt rq tx]) (L' := [w_Reader rd rt (Rd.1, u2, Rd.2.2), w_Row Z.2.1 200 rt rq tx]) (C := RX2) (T := TX2) (N := 4) hx hb hts zinX2 tyX2 tyX2_ok nmX2 hown hK hP hD hS 0 rfl rfl 2 (by decide) (hts _ k_f_X2_9) (fun _ h9 => h9) rfl (tyX2_ok 2 (by decide)) rfl rfl (Nat.le_of_ble_eq_true rfl) rfl (z_d hX2_readsComma_0 15 rfl) (fun H locs hP hD hS => ?_)
      refine lv_iconst (v := 1) hx hb (z_d hX2_readsComma_0 16 rfl) (by decide) ?_
      have hz9 : narrow .boolean (.int 1) = .int 1 := rfl
      obtain rfl := hF
      subst hQ
      subst hA
      exact W.zret hx hb hr hz9 (fun t ht hW => zq_mu (by rw [ht]; exact hP) (hS.F ht)) hS.2.2 (z_d hX2_readsComma_0 17 rfl)
    · have hF := z_neg hc14 hF
      refine lv_iconst (v := 0) hx hb (z_d hX2_readsComma_0 8 rfl) (by decide) ?_
      have hz9 : narrow .boolean (.int 0) = .int 0 := rfl
      obtain rfl := hF
      subst hQ
      subst hA
      exact W.zret hx hb hr hz9 (fun t ht hW => zq_mu (by rw [ht]; exact hP) (hS.F ht)) hS.2.2 (z_d hX2_readsComma_0 9 rfl)
def rm_X2_readLength : Room := { frames := 2, cells := 0, slots := 0, locals := 41 }
set_option maxRecDepth 100000 in
set_option maxHeartbeats 4000000 in
theorem c_X2_readLength (l : Launch) (Z : zZ) (rd : Nat) (rt rq : Nat) (Rd : t_Reader) (tx : Rw) (R : Int32 × t_Reader) (hF : X2_readLength Rd tx = some R) : zMU l yX2_readLength (zw yX2_readLength cX2_readLength 4 (some .int)) rm_X2_readLength Z [.ref rd] (List.flatten [w_Reader rd rt Rd, w_Row Z.2.1 200 rt rq tx]) (List.flatten [w_Reader rd rt R.2, w_Row Z.2.1 200 rt rq tx]) (some (.int R.1)) := by
  refine zMU_of (by decide) (Nat.le_of_ble_eq_true rfl) (fun p e s m below meth c hx hb hr hml hown hts hlocks hK A hA Q hQ ls hl hP hD hS => ?_)
  unfold X2_readLength at hF
  have hl : lv_has ls 4 [(0, .ref rd)] := hl
  have hown : s.vm.findClass RX2 = some m.cls := hown
  have L9 : ∀ (x1 : Int32) (n : Nat) (v : t_Reader × Int32 × Int32) (X : t_Reader × Int32) (hF : zloop (b_X2_readLength_9 tx x1) n v = some X) (H : Heap) (locs : List Loc) (ls : Array Slot) (hP : va_P Z.1 vwCl ([w_Reader rd rt v.1, w_Row Z.2.1 200 rt rq tx]).flatten H) (hD : va_D A ([w_Reader rd rt v.1, w_Row Z.2.1 200 rt rq tx]).flatten) (hS : va_S A s.heap H locs) (hl : lv_has ls 4 [(0, .ref rd), (1, .int x1), (2, .int v.2.1), (3, .int v.2.2)]) (K1 : ∀ (H : Heap) (locs : List Loc) (ls : Array Slot) (hP : va_P Z.1 vwCl ([w_Reader rd rt X.1, w_Row Z.2.1 200 rt rq tx]).flatten H) (hD : va_D A ([w_Reader rd rt X.1, w_Row Z.2.1 200 rt rq tx]).flatten) (hS : va_S A s.heap H locs) (hl : lv_has ls 4 [(0, .ref rd), (1, .int x1), (2, .int X.2)]), W p l e rm_X2_readLength s m ([.ref rd] : List Value).toArray below meth c H locs 0 0 Q (F0 m 53 ls [])), W p l e rm_X2_readLength s m ([.ref rd] : List Value).toArray below meth c H locs 0 0 Q (F0 m 9 ls []) := by
    intro x1
    refine z_loopE (fun rec ih v X hF H locs ls hP hD hS hl K1 => ?_)
    unfold b_X2_readLength_9 at hF
    refine lv_iload_n hx hb (z_d hX2_readLength_0 7 rfl) rfl (lv_at hl 3 rfl) ?_
    refine lv_iconst (v := 3) hx hb (z_d hX2_readLength_0 8 rfl) (by decide) ?_
    refine lv_icmp_ge (tgt := 53) hx hb (z_d hX2_readLength_0 9 rfl) (by decide) (fun hc11 => ?_) (fun hc11 => ?_)
    · have hF := z_pos hc11 hF
      obtain rfl := Option.some.inj hF
      exact K1 _ _ ls hP hD hS (lv_sub hl [0, 1, 2] rfl)
    · have hF := z_neg hc11 hF
      refine lv_aload_n hx hb (z_d hX2_readLength_0 10 rfl) rfl (lv_at hl 0 rfl) ?_
      refine z_let hF (fun q1 hq1 hF => ?_)
      refine z_ro_i (z_rV (As := []) (rest := []) hx hb hml hown hts vt_X2_next (c_X2_next l Z rd rt rq v.1 tx _ hq1) rfl rfl ⟨Nat.le_of_ble_eq_true rfl, Nat.le_of_ble_eq_true rfl⟩ k_m_X2_29 zPro_blind (z_recv (q := (RX2, TX2, 4)) (ci := 2) (q0 := 0) hK (zP_reg hP 0 rfl) rfl rfl) (z_prec hK hP) rfl hl.1 (Nat.le_of_ble_eq_true rfl) (z_d hX2_readLength_0 11 rfl) ⟨Nat.zero_le _, Nat.zero_le _⟩) hS hP (fun H locs hP hS => ?_)
      refine z_let hF (fun q2 hq2 hF => ?_)
      refine z_ro_i (z_rS (As := [.int q1]) (rest := []) hx hb hml hown hts vs_X2_isDigit (c_X2_isDigit l Z q1 _ hq2) rfl rfl ⟨Nat.le_of_ble_eq_true rfl, Nat.le_of_ble_eq_true rfl⟩ k_m_X2_63 zPro_blind (z_prec hK zP_nil) rfl hl.1 (Nat.le_of_ble_eq_true rfl) (z_d hX2_readLength_0 12 rfl) ⟨Nat.zero_le _, Nat.zero_le _⟩) hS hP (fun H locs hP hS => ?_)
      refine lv_if_eq (tgt := 53) hx hb (z_d hX2_readLength_0 13 rfl) (by decide) (fun hc21 => ?_) (fun hc21 => ?_)
      · have hF := z_pos hc21 hF
        obtain rfl := Option.some.inj hF
        exact K1 _ _ ls hP hD hS (lv_sub hl [0, 1, 2] rfl)
      · have hF := z_neg hc21 hF
        refine lv_iload_n hx hb (z_d hX2_readLength_0 14 rfl) rfl (lv_at hl 2 rfl) ?_
        refine lv_bipush (v := 10) hx hb (z_d hX2_readLength_0 15 rfl) (by decide) ?_
        refine lv_imul hx hb (z_d hX2_readLength_0 16 rfl) ?_
        refine z_let hF (fun u3 hu3 hF => ?_)
        refine lv_topE hu3 ?_
        refine lv_aload_n hx hb (z_d hX2_readLength_0 17 rfl) rfl (lv_at hl 0 rfl) ?_
        refine z_let hF (fun q4 hq4 hF => ?_)
        refine z_ro_i (z_rV (As := []) (rest := [.int u3]) hx hb hml hown hts vt_X2_next (c_X2_next l Z rd rt rq v.1 tx _ hq4) rfl rfl ⟨Nat.le_of_ble_eq_true rfl, Nat.le_of_ble_eq_true rfl⟩ k_m_X2_29 zPro_blind (z_recv (q := (RX2, TX2, 4)) (ci := 2) (q0 := 0) hK (zP_reg hP 0 rfl) rfl rfl) (z_prec hK hP) rfl hl.1 (Nat.le_of_ble_eq_true rfl) (z_d hX2_readLength_0 18 rfl) ⟨Nat.zero_le _, Nat.zero_le _⟩) hS hP (fun H locs hP hS => ?_)
        refine lv_iadd hx hb (z_d hX2_readLength_0 19 rfl) ?_
        refine z_let hF (fun u5 hu5 hF => ?_)
        refine lv_topE hu5 ?_
        refine lv_bipush (v := 48) hx hb (z_d hX2_readLength_0 20 rfl) (by decide) ?_
        refine lv_isub hx hb (z_d hX2_readLength_0 21 rfl) ?_
        refine z_let hF (fun u6 hu6 hF => ?_)
        refine lv_topE hu6 ?_
        refine lv_istore_n (lv' := [(2, .int u6), (0, .ref rd), (1, .int x1), (3, .int v.2.2)]) hx hb (z_d hX2_readLength_0 22 rfl) rfl hl (by decide) rfl (fun ls hl => ?_)
        refine lv_aload_n hx hb (z_d hX2_readLength_0 23 rfl) rfl (lv_at hl 1 rfl) ?_
        refine lv_dup hx hb (z_d hX2_readLength_0 24 rfl) rfl ?_
        refine va_get (D := Z.1) (ci := 2) (v := .int v.1.2.1) (C := RX2) (T := TX2) (N := 4) hx hb hts zinX2 hown hK.1 (zP_reg hP 0 rfl) 0 rfl rfl 2 (by decide) (hts _ k_f_X2_9) (fun _ h9 => h9) rfl (z_d hX2_readLength_0 25 rfl) ?_
        refine lv_iconst (v := 1) hx hb (z_d hX2_readLength_0 26 rfl) (by decide) ?_
        refine lv_iadd hx hb (z_d hX2_readLength_0 27 rfl) ?_
        refine z_let hF (fun u7 hu7 hF => ?_)
        refine lv_topE hu7 ?_
        refine z_put (Z := Z) (ci := 2) (v := .int u7) (ty := .int) (L := [w_Reader rd rt v.1, w_Row Z.2.1 200 rt rq tx]) (L' := [w_Reader rd rt (v.1.1, u7, v.1.2.2), w_Row Z.2.1 200 rt rq tx]) (C := RX2) (T := TX2) (N := 4) hx hb hts zinX2 tyX2 tyX2_ok nmX2 hown hK hP hD hS 0 rfl rfl 2 (by decide) (hts _ k_f_X2_9) (fun _ h9 => h9) rfl (tyX2_ok 2 (by decide)) rfl rfl (Nat.le_of_ble_eq_true rfl) rfl (z_d hX2_readLength_0 28 rfl) (fun H locs hP hD hS => ?_)
        refine z_let hF (fun u8 hu8 hF => ?_)
        refine lv_iinc (v := u8) (lv' := [(3, .int u8), (2, .int u6), (0, .ref rd), (1, .int x1)]) hx hb (z_d hX2_readLength_0 29 rfl) hl (k := 3) rfl (z_inc1 hu8) (by decide) rfl (fun ls hl => ?_)
        refine lv_goto (tgt := 9) hx hb (z_d hX2_readLength_0 30 rfl) (by decide) ?_
        exact ih _ _ hF _ _ ls hP hD hS (lv_sub hl [2, 3, 1, 0] rfl) K1
  have J71 : ∀ (Rd : t_Reader) (x2 : Int32) (hF : j_X2_readLength_71 tx Rd x2 = some R) (H : Heap) (locs : List Loc) (ls : Array Slot) (hP : va_P Z.1 vwCl ([w_Reader rd rt Rd, w_Row Z.2.1 200 rt rq tx]).flatten H) (hD : va_D A ([w_Reader rd rt Rd, w_Row Z.2.1 200 rt rq tx]).flatten) (hS : va_S A s.heap H locs) (hl : lv_has ls 4 [(0, .ref rd), (2, .int x2)]), W p l e rm_X2_readLength s m ([.ref rd] : List Value).toArray below meth c H locs 0 0 Q (F0 m 71 ls []) := by
    intro Rd x2 hF H locs ls hP hD hS hl
    unfold j_X2_readLength_71 at hF
    refine lv_aload_n hx hb (z_d hX2_readLength_0 39 rfl) rfl (lv_at hl 0 rfl) ?_
    refine lv_aload_n hx hb (z_d hX2_readLength_0 40 rfl) rfl (lv_at hl 0 rfl) ?_
    refine va_get (D := Z.1) (ci := 2) (v := .int Rd.2.1) (C := RX2) (T := TX2) (N := 4) hx hb hts zinX2 hown hK.1 (zP_reg hP 0 rfl) 0 rfl rfl 2 (by decide) (hts _ k_f_X2_9) (fun _ h9 => h9) rfl (z_d hX2_readLength_0 41 rfl) ?_
    refine z_let hF (fun q10 hq10 hF => ?_)
    refine z_mu1 (L := [w_Reader rd rt Rd, w_Row Z.2.1 200 rt rq tx]) (L' := [w_Reader rd rt q10, w_Row Z.2.1 200 rt rq tx]) (z_rV (As := [.int Rd.2.1]) (rest := []) hx hb hml hown hts vt_X2_fail (c_X2_fail l Z rd rt Rd Rd.2.1 _ hq10) rfl rfl ⟨Nat.le_of_ble_eq_true rfl, Nat.le_of_ble_eq_true rfl⟩ k_m_X2_43 zPmu_blind (z_recv (q := (RX2, TX2, 4)) (ci := 2) (q0 := 0) hK (zP_reg hP 0 rfl) rfl rfl) (z_prem hK (zP_reg hP 0 rfl) (zD_one hD 0 _ rfl)) rfl hl.1 (Nat.le_of_ble_eq_true rfl) (z_d hX2_readLength_0 42 rfl) ⟨Nat.zero_le _, Nat.zero_le _⟩) hS hP hD 0 rfl rfl rfl (fun H locs hP hD hS => ?_)
    refine W.eq (g2 := F0 m 79 ls []) rfl ?_
    refine lv_goto (tgt := 94) hx hb (z_d hX2_readLength_0 43 rfl) (by decide) ?_
    refine lv_iload_n hx hb (z_d hX2_readLength_0 50 rfl) rfl (lv_at hl 1 rfl) ?_
    obtain rfl := Option.some.inj hF
    subst hQ
    subst hA
    exact W.iret hx hb hr (fun t ht hW => zq_mu (by rw [ht]; exact hP) (hS.F ht)) hS.2.2 (z_d hX2_readLength_0 51 rfl)
  have J53 : ∀ (Rd : t_Reader) (x1 : Int32) (x2 : Int32) (hF : j_X2_readLength_53 tx Rd x1 x2 = some R) (H : Heap) (locs : List Loc) (ls : Array Slot) (hP : va_P Z.1 vwCl ([w_Reader rd rt Rd, w_Row Z.2.1 200 rt rq tx]).flatten H) (hD : va_D A ([w_Reader rd rt Rd, w_Row Z.2.1 200 rt rq tx]).flatten) (hS : va_S A s.heap H locs) (hl : lv_has ls 4 [(0, .ref rd), (1, .int x1), (2, .int x2)]), W p l e rm_X2_readLength s m ([.ref rd] : List Value).toArray below meth c H locs 0 0 Q (F0 m 53 ls []) := by
    intro Rd x1 x2 hF H locs ls hP hD hS hl
    unfold j_X2_readLength_53 at hF
    refine lv_aload_n hx hb (z_d hX2_readLength_0 31 rfl) rfl (lv_at hl 0 rfl) ?_
    refine va_get (D := Z.1) (ci := 2) (v := .int Rd.2.1) (C := RX2) (T := TX2) (N := 4) hx hb hts zinX2 hown hK.1 (zP_reg hP 0 rfl) 0 rfl rfl 2 (by decide) (hts _ k_f_X2_9) (fun _ h9 => h9) rfl (z_d hX2_readLength_0 32 rfl) ?_
    refine lv_iload_n hx hb (z_d hX2_readLength_0 33 rfl) rfl (lv_at hl 1 rfl) ?_
    refine lv_icmp_eq (tgt := 71) hx hb (z_d hX2_readLength_0 34 rfl) (by decide) (fun hc58 => ?_) (fun hc58 => ?_)
    · have hF := z_pos hc58 hF
      exact J71 Rd x2 hF _ _ ls hP hD hS (lv_sub hl [0, 2] rfl)
    · have hF := z_neg hc58 hF
      refine lv_aload_n hx hb (z_d hX2_readLength_0 35 rfl) rfl (lv_at hl 0 rfl) ?_
      refine z_let hF (fun q11 hq11 hF => ?_)
      refine z_ro_i (z_rV (As := []) (rest := []) hx hb hml hown hts vt_X2_next (c_X2_next l Z rd rt rq Rd tx _ hq11) rfl rfl ⟨Nat.le_of_ble_eq_true rfl, Nat.le_of_ble_eq_true rfl⟩ k_m_X2_29 zPro_blind (z_recv (q := (RX2, TX2, 4)) (ci := 2) (q0 := 0) hK (zP_reg hP 0 rfl) rfl rfl) (z_prec hK hP) rfl hl.1 (Nat.le_of_ble_eq_true rfl) (z_d hX2_readLength_0 36 rfl) ⟨Nat.zero_le _, Nat.zero_le _⟩) hS hP (fun H locs hP hS => ?_)
      refine z_let hF (fun q12 hq12 hF => ?_)
      refine z_ro_i (z_rS (As := [.int q11]) (rest := []) hx hb hml hown hts vs_X2_isDigit (c_X2_isDigit l Z q11 _ hq12) rfl rfl ⟨Nat.le_of_ble_eq_true rfl, Nat.le_of_ble_eq_true rfl⟩ k_m_X2_63 zPro_blind (z_prec hK zP_nil) rfl hl.1 (Nat.le_of_ble_eq_true rfl) (z_d hX2_readLength_0 37 rfl) ⟨Nat.zero_le _, Nat.zero_le _⟩) hS hP (fun H locs hP hS => ?_)
      refine lv_if_eq (tgt := 82) hx hb (z_d hX2_readLength_0 38 rfl) (by decide) (fun hc68 => ?_) (fun hc68 => ?_)
      · have hF := z_pos hc68 hF
        refine lv_iload_n hx hb (z_d hX2_readLength_0 44 rfl) rfl (lv_at hl 2 rfl) ?_
        refine z_let hF (fun q13 hq13 hF => ?_)
        refine z_ro_i (z_rSN (As := [.int x2]) (rest := []) hx hb hml hown hts vs_X6_isLength (c_X6_isLength l Z x2 _ hq13) rfl rfl ⟨Nat.le_of_ble_eq_true rfl, Nat.le_of_ble_eq_true rfl⟩ (kn_X2_67 hK.2) zPro_blind (z_prec hK zP_nil) rfl hl.1 (Nat.le_of_ble_eq_true rfl) (z_d hX2_readLength_0 45 rfl) ⟨Nat.zero_le _, Nat.zero_le _⟩) hS hP (fun H locs hP hS => ?_)
        refine lv_if_ne (tgt := 94) hx hb (z_d hX2_readLength_0 46 rfl) (by decide) (fun hc86 => ?_) (fun hc86 => ?_)
        · have hF := z_neg hc86 hF
          refine lv_iload_n hx hb (z_d hX2_readLength_0 50 rfl) rfl (lv_at hl 2 rfl) ?_
          obtain rfl := Option.some.inj hF
          subst hQ
          subst hA
          exact W.iret hx hb hr (fun t ht hW => zq_mu (by rw [ht]; exact hP) (hS.F ht)) hS.2.2 (z_d hX2_readLength_0 51 rfl)
        · have hF := z_pos hc86 hF
          refine lv_aload_n hx hb (z_d hX2_readLength_0 47 rfl) rfl (lv_at hl 0 rfl) ?_
          refine lv_iload_n hx hb (z_d hX2_readLength_0 48 rfl) rfl (lv_at hl 1 rfl) ?_
          refine z_let hF (fun q14 hq14 hF => ?_)
          refine z_mu1 (L := [w_Reader rd rt Rd, w_Row Z.2.1 200 rt rq tx]) (L' := [w_Reader rd rt q14, w_Row Z.2.1 200 rt rq tx]) (z_rV (As := [.int x1]) (rest := []) hx hb hml hown hts vt_X2_fail (c_X2_fail l Z rd rt Rd x1 _ hq14) rfl rfl ⟨Nat.le_of_ble_eq_true rfl, Nat.le_of_ble_eq_true rfl⟩ k_m_X2_43 zPmu_blind (z_recv (q := (RX2, TX2, 4)) (ci := 2) (q0 := 0) hK (zP_reg hP 0 rfl) rfl rfl) (z_prem hK (zP_reg hP 0 rfl) (zD_one hD 0 _ rfl)) rfl hl.1 (Nat.le_of_ble_eq_true rfl) (z_d hX2_readLength_0 49 rfl) ⟨Nat.zero_le _, Nat.zero_le _⟩) hS hP hD 0 rfl rfl rfl (fun H locs hP hD hS => ?_)
          refine W.eq (g2 := F0 m 94 ls []) rfl ?_
          refine lv_iload_n hx hb (z_d hX2_readLength_0 50 rfl) rfl (lv_at hl 2 rfl) ?_
          obtain rfl := Option.some.inj hF
          subst hQ
          subst hA
          exact W.iret hx hb hr (fun t ht hW => zq_mu (by rw [ht]; exact hP) (hS.F ht)) hS.2.2 (z_d hX2_readLength_0 51 rfl)
      · have hF := z_neg hc68 hF
        exact J71 Rd x2 hF _ _ ls hP hD hS (lv_sub hl [0, 2] rfl)
  refine lv_aload_n hx hb (z_d hX2_readLength_0 0 rfl) rfl (lv_at hl 0 rfl) ?_
  refine va_get (D := Z.1) (ci := 2) (v := .int Rd.2.1) (C := RX2) (T := TX2) (N := 4) hx hb hts zinX2 hown hK.1 (zP_reg hP 0 rfl) 0 rfl rfl 2 (by decide) (hts _ k_f_X2_9) (fun _ h9 => h9) rfl (z_d hX2_readLength_0 1 rfl) ?_
  refine lv_istore_n (lv' := [(1, .int Rd.2.1), (0, .ref rd)]) hx hb (z_d hX2_readLength_0 2 rfl) rfl hl (by decide) rfl (fun ls hl => ?_)
  refine lv_iconst (v := 0) hx hb (z_d hX2_readLength_0 3 rfl) (by decide) ?_
  refine lv_istore_n (lv' := [(2, .int 0), (1, .int Rd.2.1), (0, .ref rd)]) hx hb (z_d hX2_readLength_0 4 rfl) rfl hl (by decide) rfl (fun ls hl => ?_)
  refine lv_iconst (v := 0) hx hb (z_d hX2_readLength_0 5 rfl) (by decide) ?_
  refine lv_istore_n (lv' := [(3, .int 0), (2, .int 0), (1, .int Rd.2.1), (0, .ref rd)]) hx hb (z_d hX2_readLength_0 6 rfl) rfl hl (by decide) rfl (fun ls hl => ?_)
  refine z_bnd hF (fun q9 hq9 hF => ?_)
  refine L9 Rd.2.1 _ _ _ hq9 _ _ ls hP hD hS (lv_sub hl [3, 2, 1, 0] rfl) (fun H locs ls hP hD hS hl => ?_)
  exact J53 q9.1 Rd.2.1 q9.2 hF _ _ ls hP hD hS (lv_sub hl [0, 1, 2] rfl)
def rm_X2_readItem : Room := { frames := 3, cells := 0, slots := 0, locals := 70 }
set_option maxRecDepth 100000 in
set_option maxHeartbeats 4000000 in
theorem c_X2_readItem (l : Launch) (Z : zZ) (rd : Nat) (rt rq : Nat) (As : Nat → Nat) (Rd : t_Reader) (tx : Rw) (S : t_Script) (R : t_Reader × t_Script) (hF : X2_readItem Rd tx S = some R) : zMU l yX2_readItem (zw yX2_readItem cX2_readItem 5 none) rm_X2_readItem Z [.ref rd, .ref (As 0)] (List.flatten [w_Reader rd rt Rd, w_Row Z.2.1 200 rt rq tx, w_Script Z.2.1 As S]) (List.flatten [w_Reader rd rt R.1, w_Row Z.2.1 200 rt rq tx, w_Script Z.2.1 As R.2]) none := by
  refine zMU_of (by decide) (Nat.le_of_ble_eq_true rfl) (fun p e s m below meth c hx hb hr hml hown hts hlocks hK A hA Q hQ ls hl hP hD hS => ?_)
  unfold X2_readItem at hF
  have hl : lv_has ls 5 [(0, .ref rd), (1, .ref (As 0))] := hl
  have hown : s.vm.findClass RX2 = some m.cls := hown
  have J20 : ∀ (Rd : t_Reader) (S : t_Script) (hF : j_X2_readItem_20 tx Rd S = some R) (H : Heap) (locs : List Loc) (ls : Array Slot) (hP : va_P Z.1 vwCl ([w_Reader rd rt Rd, w_Row Z.2.1 200 rt rq tx, w_Script Z.2.1 As S]).flatten H) (hD : va_D A ([w_Reader rd rt Rd, w_Row Z.2.1 200 rt rq tx, w_Script Z.2.1 As S]).flatten) (hS : va_S A s.heap H locs) (hl : lv_has ls 5 [(0, .ref rd), (1, .ref (As 0))]), W p l e rm_X2_readItem s m ([.ref rd, .ref (As 0)] : List Value).toArray below meth c H locs 0 0 Q (F0 m 20 ls []) := by
    intro Rd S hF H locs ls hP hD hS hl
    unfold j_X2_readItem_20 at hF
    refine lv_aload_n hx hb (z_d hX2_readItem_0 10 rfl) rfl (lv_at hl 0 rfl) ?_
    refine lv_aload_n hx hb (z_d hX2_readItem_0 11 rfl) rfl (lv_at hl 0 rfl) ?_
    refine va_get (D := Z.1) (ci := 2) (v := .int Rd.2.1) (C := RX2) (T := TX2) (N := 4) hx hb hts zinX2 hown hK.1 (zP_reg hP 0 rfl) 0 rfl rfl 2 (by decide) (hts _ k_f_X2_9) (fun _ h9 => h9) rfl (z_d hX2_readItem_0 12 rfl) ?_
    refine z_let hF (fun q3 hq3 hF => ?_)
    refine z_mu1 (L := [w_Reader rd rt Rd, w_Row Z.2.1 200 rt rq tx, w_Script Z.2.1 As S]) (L' := [w_Reader rd rt q3, w_Row Z.2.1 200 rt rq tx, w_Script Z.2.1 As S]) (z_rV (As := [.int Rd.2.1]) (rest := []) hx hb hml hown hts vt_X2_fail (c_X2_fail l Z rd rt Rd Rd.2.1 _ hq3) rfl rfl ⟨Nat.le_of_ble_eq_true rfl, Nat.le_of_ble_eq_true rfl⟩ k_m_X2_43 zPmu_blind (z_recv (q := (RX2, TX2, 4)) (ci := 2) (q0 := 0) hK (zP_reg hP 0 rfl) rfl rfl) (z_prem hK (zP_reg hP 0 rfl) (zD_one hD 0 _ rfl)) rfl hl.1 (Nat.le_of_ble_eq_true rfl) (z_d hX2_readItem_0 13 rfl) ⟨Nat.zero_le _, Nat.zero_le _⟩) hS hP hD 0 rfl rfl rfl (fun H locs hP hD hS => ?_)
    refine W.eq (g2 := F0 m 28 ls []) rfl ?_
    obtain rfl := Option.some.inj hF
    subst hQ
    subst hA
    exact W.vret hx hb hr (fun t ht hW => zq_mu (by rw [ht]; exact hP) (hS.F ht)) hS.2.2 (z_d hX2_readItem_0 14 rfl)
  have J93 : ∀ (Rd : t_Reader) (S : t_Script) (x2 : Int32) (x3 : Int32) (x4 : Int32) (hF : j_X2_readItem_93 tx Rd S x2 x3 x4 = some R) (H : Heap) (locs : List Loc) (ls : Array Slot) (hP : va_P Z.1 vwCl ([w_Reader rd rt Rd, w_Row Z.2.1 200 rt rq tx, w_Script Z.2.1 As S]).flatten H) (hD : va_D A ([w_Reader rd rt Rd, w_Row Z.2.1 200 rt rq tx, w_Script Z.2.1 As S]).flatten) (hS : va_S A s.heap H locs) (hl : lv_has ls 5 [(0, .ref rd), (1, .ref (As 0)), (2, .int x2), (3, .int x3), (4, .int x4)]), W p l e rm_X2_readItem s m ([.ref rd, .ref (As 0)] : List Value).toArray below meth c H locs 0 0 Q (F0 m 93 ls []) := by
    intro Rd S x2 x3 x4 hF H locs ls hP hD hS hl
    unfold j_X2_readItem_93 at hF
    refine lv_aload_n hx hb (z_d hX2_readItem_0 48 rfl) rfl (lv_at hl 0 rfl) ?_
    refine va_get (D := Z.1) (ci := 2) (v := .int Rd.2.2) (C := RX2) (T := TX2) (N := 4) hx hb hts zinX2 hown hK.1 (zP_reg hP 0 rfl) 0 rfl rfl 3 (by decide) (hts _ k_f_X2_15) (fun _ h9 => h9) rfl (z_d hX2_readItem_0 49 rfl) ?_
    refine lv_iconst (v := (-1)) hx hb (z_d hX2_readItem_0 50 rfl) (by decide) ?_
    refine lv_icmp_ne (tgt := 123) hx hb (z_d hX2_readItem_0 51 rfl) (by decide) (fun hc98 => ?_) (fun hc98 => ?_)
    · have hF := z_neg hc98 hF
      obtain rfl := Option.some.inj hF
      subst hQ
      subst hA
      exact W.vret hx hb hr (fun t ht hW => zq_mu (by rw [ht]; exact hP) (hS.F ht)) hS.2.2 (z_d hX2_readItem_1 5 rfl)
    · have hF := z_pos hc98 hF
      refine lv_aload_n hx hb (z_d hX2_readItem_0 52 rfl) rfl (lv_at hl 0 rfl) ?_
      refine lv_dup hx hb (z_d hX2_readItem_0 53 rfl) rfl ?_
      refine va_get (D := Z.1) (ci := 2) (v := .int Rd.2.1) (C := RX2) (T := TX2) (N := 4) hx hb hts zinX2 hown hK.1 (zP_reg hP 0 rfl) 0 rfl rfl 2 (by decide) (hts _ k_f_X2_9) (fun _ h9 => h9) rfl (z_d hX2_readItem_0 54 rfl) ?_
      refine lv_iconst (v := 1) hx hb (z_d hX2_readItem_0 55 rfl) (by decide) ?_
      refine lv_iadd hx hb (z_d hX2_readItem_0 56 rfl) ?_
      refine z_let hF (fun u8 hu8 hF => ?_)
      refine lv_topE hu8 ?_
      refine z_put (Z := Z) (ci := 2) (v := .int u8) (ty := .int) (L := [w_Reader rd rt Rd, w_Row Z.2.1 200 rt rq tx, w_Script Z.2.1 As S]) (L' := [w_Reader rd rt (Rd.1, u8, Rd.2.2), w_Row Z.2.1 200 rt rq tx, w_Script Z.2.1 As S]) (C := RX2) (T := TX2) (N := 4) hx hb hts zinX2 tyX2 tyX2_ok nmX2 hown hK hP hD hS 0 rfl rfl 2 (by decide) (hts _ k_f_X2_9) (fun _ h9 => h9) rfl (tyX2_ok 2 (by decide)) rfl rfl (Nat.le_of_ble_eq_true rfl) rfl (z_d hX2_readItem_0 57 rfl) (fun H locs hP hD hS => ?_)
      refine lv_aload_n hx hb (z_d hX2_readItem_0 58 rfl) rfl (lv_at hl 1 rfl) ?_
      refine lv_aload_n hx hb (z_d hX2_readItem_0 59 rfl) rfl (lv_at hl 1 rfl) ?_
      refine va_getN (D := Z.1) (ci := 5) (v := .int S.1) (C := RX5) (T := TX5) (N := 10) hx hb hts zinX5 hown hK.1 (zP_reg (L := l_Script Z.2.1 As S.1 S.2.1 S.2.2.1 S.2.2.2.1 S.2.2.2.2.1 S.2.2.2.2.2.1 S.2.2.2.2.2.2.1 S.2.2.2.2.2.2.2.1 S.2.2.2.2.2.2.2.2.1 S.2.2.2.2.2.2.2.2.2) (zP_reg hP 2 rfl) 0 rfl) 0 rfl rfl 0 (by decide) (kn_X2_56 hK.2) (fun _ h9 => h9) rfl (z_d hX2_readItem_1 0 rfl) ?_
      refine lv_iload_n hx hb (z_d hX2_readItem_1 1 rfl) rfl (lv_at hl 2 rfl) ?_
      refine lv_iload hx hb (z_d hX2_readItem_1 2 rfl) (lv_at hl 4 rfl) ?_
      refine lv_iload_n hx hb (z_d hX2_readItem_1 3 rfl) rfl (lv_at hl 3 rfl) ?_
      refine z_let hF (fun q9 hq9 hF => ?_)
      refine z_mu1 (L := [w_Reader rd rt (Rd.1, u8, Rd.2.2), w_Row Z.2.1 200 rt rq tx, w_Script Z.2.1 As S]) (L' := [w_Reader rd rt (Rd.1, u8, Rd.2.2), w_Row Z.2.1 200 rt rq tx, w_Script Z.2.1 As q9]) (z_rV (As := [.int S.1, .int x2, .int x4, .int x3]) (rest := []) hx hb hml hown hts vt_X5_putIn (c_X5_putIn l Z As S S.1 x2 x4 x3 _ hq9) rfl rfl ⟨Nat.le_of_ble_eq_true rfl, Nat.le_of_ble_eq_true rfl⟩ k_m_X2_59 zPmu_blind (z_recv (q := (RX5, TX5, 10)) (ci := 5) (q0 := 0) hK (zP_reg (L := l_Script Z.2.1 As S.1 S.2.1 S.2.2.1 S.2.2.2.1 S.2.2.2.2.1 S.2.2.2.2.2.1 S.2.2.2.2.2.2.1 S.2.2.2.2.2.2.2.1 S.2.2.2.2.2.2.2.2.1 S.2.2.2.2.2.2.2.2.2) (zP_reg hP 2 rfl) 0 rfl) rfl rfl) (z_prem hK (zP_reg hP 2 rfl) (zD_one hD 2 _ rfl)) rfl hl.1 (Nat.le_of_ble_eq_true rfl) (z_d hX2_readItem_1 4 rfl) ⟨Nat.zero_le _, Nat.zero_le _⟩) hS hP hD 2 rfl rfl (adr_Script _ _ _ _) (fun H locs hP hD hS => ?_)
      refine W.eq (g2 := F0 m 123 ls []) rfl ?_
      obtain rfl := Option.some.inj hF
      subst hQ
      subst hA
      exact W.vret hx hb hr (fun t ht hW => zq_mu (by rw [ht]; exact hP) (hS.F ht)) hS.2.2 (z_d hX2_readItem_1 5 rfl)
  have J74 : ∀ (Rd : t_Reader) (S : t_Script) (x2 : Int32) (x3 : Int32) (z0 : Int32) (hF : j_X2_readItem_74 tx Rd S x2 x3 z0 = some R) (H : Heap) (locs : List Loc) (ls : Array Slot) (hP : va_P Z.1 vwCl ([w_Reader rd rt Rd, w_Row Z.2.1 200 rt rq tx, w_Script Z.2.1 As S]).flatten H) (hD : va_D A ([w_Reader rd rt Rd, w_Row Z.2.1 200 rt rq tx, w_Script Z.2.1 As S]).flatten) (hS : va_S A s.heap H locs) (hl : lv_has ls 5 [(0, .ref rd), (1, .ref (As 0)), (2, .int x2), (3, .int x3)]), W p l e rm_X2_readItem s m ([.ref rd, .ref (As 0)] : List Value).toArray below meth c H locs 0 0 Q (F0 m 74 ls [.int z0]) := by
    intro Rd S x2 x3 z0 hF H locs ls hP hD hS hl
    unfold j_X2_readItem_74 at hF
    refine lv_istore (lv' := [(4, .int z0), (0, .ref rd), (1, .ref (As 0)), (2, .int x2), (3, .int x3)]) hx hb (z_d hX2_readItem_0 39 rfl) hl (by decide) rfl (fun ls hl => ?_)
    refine lv_aload_n hx hb (z_d hX2_readItem_0 40 rfl) rfl (lv_at hl 1 rfl) ?_
    refine z_let hF (fun q7 hq7 hF => ?_)
    refine z_ro_i (z_rV (As := []) (rest := []) hx hb hml hown hts vt_X2_next (c_X2_next l Z rd rt rq Rd tx _ hq7) rfl rfl ⟨Nat.le_of_ble_eq_true rfl, Nat.le_of_ble_eq_true rfl⟩ k_m_X2_29 zPro_blind (z_recv (q := (RX2, TX2, 4)) (ci := 2) (q0 := 0) hK (zP_reg hP 0 rfl) rfl rfl) (z_prec hK (zP_r2 hP 0 1 rfl rfl)) rfl hl.1 (Nat.le_of_ble_eq_true rfl) (z_d hX2_readItem_0 41 rfl) ⟨Nat.zero_le _, Nat.zero_le _⟩) hS hP (fun H locs hP hS => ?_)
    refine lv_bipush (v := 59) hx hb (z_d hX2_readItem_0 42 rfl) (by decide) ?_
    refine lv_icmp_eq (tgt := 93) hx hb (z_d hX2_readItem_0 43 rfl) (by decide) (fun hc82 => ?_) (fun hc82 => ?_)
    · have hF := z_pos hc82 hF
      exact J93 Rd S x2 x3 z0 hF _ _ ls hP hD hS (lv_sub hl [1, 2, 3, 4, 0] rfl)
    · have hF := z_neg hc82 hF
      refine lv_aload_n hx hb (z_d hX2_readItem_0 44 rfl) rfl (lv_at hl 1 rfl) ?_
      refine lv_aload_n hx hb (z_d hX2_readItem_0 45 rfl) rfl (lv_at hl 1 rfl) ?_
      refine va_get (D := Z.1) (ci := 2) (v := .int Rd.2.1) (C := RX2) (T := TX2) (N := 4) hx hb hts zinX2 hown hK.1 (zP_reg hP 0 rfl) 0 rfl rfl 2 (by decide) (hts _ k_f_X2_9) (fun _ h9 => h9) rfl (z_d hX2_readItem_0 46 rfl) ?_
      refine z_let hF (fun q10 hq10 hF => ?_)
      refine z_mu1 (L := [w_Reader rd rt Rd, w_Row Z.2.1 200 rt rq tx, w_Script Z.2.1 As S]) (L' := [w_Reader rd rt q10, w_Row Z.2.1 200 rt rq tx, w_Script Z.2.1 As S]) (z_rV (As := [.int Rd.2.1]) (rest := []) hx hb hml hown hts vt_X2_fail (c_X2_fail l Z rd rt Rd Rd.2.1 _ hq10) rfl rfl ⟨Nat.le_of_ble_eq_true rfl, Nat.le_of_ble_eq_true rfl⟩ k_m_X2_43 zPmu_blind (z_recv (q := (RX2, TX2, 4)) (ci := 2) (q0 := 0) hK (zP_reg hP 0 rfl) rfl rfl) (z_prem hK (zP_reg hP 0 rfl) (zD_one hD 0 _ rfl)) rfl hl.1 (Nat.le_of_ble_eq_true rfl) (z_d hX2_readItem_0 47 rfl) ⟨Nat.zero_le _, Nat.zero_le _⟩) hS hP hD 0 rfl rfl rfl (fun H locs hP hD hS => ?_)
      refine W.eq (g2 := F0 m 93 ls []) rfl ?_
      exact J93 q10 S x2 x3 z0 hF _ _ ls hP hD hS (lv_sub hl [1, 2, 3, 4, 0] rfl)
  have J65 : ∀ (Rd : t_Reader) (S : t_Script) (x2 : Int32) (x3 : Int32) (hF : j_X2_readItem_65 tx Rd S x2 x3 = some R) (H : Heap) (locs : List Loc) (ls : Array Slot) (hP : va_P Z.1 vwCl ([w_Reader rd rt Rd, w_Row Z.2.1 200 rt rq tx, w_Script Z.2.1 As S]).flatten H) (hD : va_D A ([w_Reader rd rt Rd, w_Row Z.2.1 200 rt rq tx, w_Script Z.2.1 As S]).flatten) (hS : va_S A s.heap H locs) (hl : lv_has ls 5 [(0, .ref rd), (1, .ref (As 0)), (2, .int x2), (3, .int x3)]), W p l e rm_X2_readItem s m ([.ref rd, .ref (As 0)] : List Value).toArray below meth c H locs 0 0 Q (F0 m 65 ls []) := by
    intro Rd S x2 x3 hF H locs ls hP hD hS hl
    unfold j_X2_readItem_65 at hF
    refine lv_aload_n hx hb (z_d hX2_readItem_0 35 rfl) rfl (lv_at hl 0 rfl) ?_
    refine z_bnd hF (fun q6 hq6 hF => ?_)
    refine z_mu2 (L := [w_Reader rd rt Rd, w_Row Z.2.1 200 rt rq tx, w_Script Z.2.1 As S]) (L' := [w_Reader rd rt q6.2, w_Row Z.2.1 200 rt rq tx, w_Script Z.2.1 As S]) (z_rV (As := []) (rest := []) hx hb hml hown hts vt_X2_readLength (c_X2_readLength l Z rd rt rq Rd tx _ hq6) rfl rfl ⟨Nat.le_of_ble_eq_true rfl, Nat.le_of_ble_eq_true rfl⟩ k_m_X2_53 zPmu_blind (z_recv (q := (RX2, TX2, 4)) (ci := 2) (q0 := 0) hK (zP_reg hP 0 rfl) rfl rfl) (z_prem hK (zP_r2 hP 0 1 rfl rfl) (zD_r2 hD 0 1 rfl rfl (by decide))) rfl hl.1 (Nat.le_of_ble_eq_true rfl) (z_d hX2_readItem_0 36 rfl) ⟨Nat.zero_le _, Nat.zero_le _⟩) hS hP hD 0 1 rfl rfl (by decide) rfl rfl rfl (fun H locs hP hD hS => ?_)
    refine W.eq (g2 := F0 m 69 ls [.int q6.1]) rfl ?_
    refine lv_goto (tgt := 74) hx hb (z_d hX2_readItem_0 37 rfl) (by decide) ?_
    exact J74 q6.2 S x2 x3 q6.1 hF _ _ ls hP hD hS (lv_sub hl [0, 1, 2, 3] rfl)
  have J52 : ∀ (Rd : t_Reader) (S : t_Script) (x2 : Int32) (z0 : Int32) (hF : j_X2_readItem_52 tx Rd S x2 z0 = some R) (H : Heap) (locs : List Loc) (ls : Array Slot) (hP : va_P Z.1 vwCl ([w_Reader rd rt Rd, w_Row Z.2.1 200 rt rq tx, w_Script Z.2.1 As S]).flatten H) (hD : va_D A ([w_Reader rd rt Rd, w_Row Z.2.1 200 rt rq tx, w_Script Z.2.1 As S]).flatten) (hS : va_S A s.heap H locs) (hl : lv_has ls 5 [(0, .ref rd), (1, .ref (As 0)), (2, .int x2)]), W p l e rm_X2_readItem s m ([.ref rd, .ref (As 0)] : List Value).toArray below meth c H locs 0 0 Q (F0 m 52 ls [.int z0]) := by
    intro Rd S x2 z0 hF H locs ls hP hD hS hl
    unfold j_X2_readItem_52 at hF
    refine lv_istore_n (lv' := [(3, .int z0), (0, .ref rd), (1, .ref (As 0)), (2, .int x2)]) hx hb (z_d hX2_readItem_0 28 rfl) rfl hl (by decide) rfl (fun ls hl => ?_)
    refine lv_iload_n hx hb (z_d hX2_readItem_0 29 rfl) rfl (lv_at hl 3 rfl) ?_
    refine lv_iconst (v := 2) hx hb (z_d hX2_readItem_0 30 rfl) (by decide) ?_
    refine lv_icmp_ne (tgt := 65) hx hb (z_d hX2_readItem_0 31 rfl) (by decide) (fun hc55 => ?_) (fun hc55 => ?_)
    · have hF := z_neg hc55 hF
      exact J65 Rd S x2 z0 hF _ _ ls hP hD hS (lv_sub hl [1, 2, 3, 0] rfl)
    · have hF := z_pos hc55 hF
      refine lv_aload_n hx hb (z_d hX2_readItem_0 32 rfl) rfl (lv_at hl 1 rfl) ?_
      refine z_let hF (fun q11 hq11 hF => ?_)
      refine z_mu2 (L := [w_Reader rd rt Rd, w_Row Z.2.1 200 rt rq tx, w_Script Z.2.1 As S]) (L' := [w_Reader rd rt q11.2, w_Row Z.2.1 200 rt rq tx, w_Script Z.2.1 As S]) (z_rV (As := []) (rest := []) hx hb hml hown hts vt_X2_readsComma (c_X2_readsComma l Z rd rt rq Rd tx _ hq11) rfl rfl ⟨Nat.le_of_ble_eq_true rfl, Nat.le_of_ble_eq_true rfl⟩ k_m_X2_50 zPmu_blind (z_recv (q := (RX2, TX2, 4)) (ci := 2) (q0 := 0) hK (zP_reg hP 0 rfl) rfl rfl) (z_prem hK (zP_r2 hP 0 1 rfl rfl) (zD_r2 hD 0 1 rfl rfl (by decide))) rfl hl.1 (Nat.le_of_ble_eq_true rfl) (z_d hX2_readItem_0 33 rfl) ⟨Nat.zero_le _, Nat.zero_le _⟩) hS hP hD 0 1 rfl rfl (by decide) rfl rfl rfl (fun H locs hP hD hS => ?_)
      refine W.eq (g2 := F0 m 62 ls [.int q11.1]) rfl ?_
      refine lv_if_eq (tgt := 72) hx hb (z_d hX2_readItem_0 34 rfl) (by decide) (fun hc62 => ?_) (fun hc62 => ?_)
      · have hF := z_pos hc62 hF
        refine lv_bipush (v := 10) hx hb (z_d hX2_readItem_0 38 rfl) (by decide) ?_
        exact J74 q11.2 S x2 z0 10 hF _ _ ls hP hD hS (lv_sub hl [1, 2, 3, 0] rfl)
      · have hF := z_neg hc62 hF
        exact J65 q11.2 S x2 z0 hF _ _ ls hP hD hS (lv_sub hl [1, 2, 3, 0] rfl)
  refine lv_aload_n hx hb (z_d hX2_readItem_0 0 rfl) rfl (lv_at hl 0 rfl) ?_
  refine z_let hF (fun q1 hq1 hF => ?_)
  refine z_ro_i (z_rV (As := []) (rest := []) hx hb hml hown hts vt_X2_next (c_X2_next l Z rd rt rq Rd tx _ hq1) rfl rfl ⟨Nat.le_of_ble_eq_true rfl, Nat.le_of_ble_eq_true rfl⟩ k_m_X2_29 zPro_blind (z_recv (q := (RX2, TX2, 4)) (ci := 2) (q0 := 0) hK (zP_reg hP 0 rfl) rfl rfl) (z_prec hK (zP_r2 hP 0 1 rfl rfl)) rfl hl.1 (Nat.le_of_ble_eq_true rfl) (z_d hX2_readItem_0 1 rfl) ⟨Nat.zero_le _, Nat.zero_le _⟩) hS hP (fun H locs hP hS => ?_)
  refine z_let hF (fun q2 hq2 hF => ?_)
  refine z_ro_i (z_rS (As := [.int q1]) (rest := []) hx hb hml hown hts vs_X2_kindOf (c_X2_kindOf l Z q1 _ hq2) rfl rfl ⟨Nat.le_of_ble_eq_true rfl, Nat.le_of_ble_eq_true rfl⟩ k_m_X2_33 zPro_blind (z_prec hK zP_nil) rfl hl.1 (Nat.le_of_ble_eq_true rfl) (z_d hX2_readItem_0 2 rfl) ⟨Nat.zero_le _, Nat.zero_le _⟩) hS hP (fun H locs hP hS => ?_)
  refine lv_istore_n (lv' := [(2, .int q2), (0, .ref rd), (1, .ref (As 0))]) hx hb (z_d hX2_readItem_0 3 rfl) rfl hl (by decide) rfl (fun ls hl => ?_)
  refine lv_iload_n hx hb (z_d hX2_readItem_0 4 rfl) rfl (lv_at hl 0 rfl) ?_
  refine lv_iconst (v := (-1)) hx hb (z_d hX2_readItem_0 5 rfl) (by decide) ?_
  refine lv_icmp_eq (tgt := 20) hx hb (z_d hX2_readItem_0 6 rfl) (by decide) (fun hc10 => ?_) (fun hc10 => ?_)
  · have hF := z_pos hc10 hF
    exact J20 Rd S hF _ _ ls hP hD hS (lv_sub hl [1, 2] rfl)
  · have hF := z_neg hc10 hF
    refine lv_aload_n hx hb (z_d hX2_readItem_0 7 rfl) rfl (lv_at hl 2 rfl) ?_
    refine z_let hF (fun q4 hq4 hF => ?_)
    refine z_ro_i (z_rV (As := []) (rest := []) hx hb hml hown hts vt_X5_isFull (c_X5_isFull l Z As S _ hq4) rfl rfl ⟨Nat.le_of_ble_eq_true rfl, Nat.le_of_ble_eq_true rfl⟩ k_m_X2_37 zPro_blind (z_recv (q := (RX5, TX5, 10)) (ci := 5) (q0 := 0) hK (zP_reg (L := l_Script Z.2.1 As S.1 S.2.1 S.2.2.1 S.2.2.2.1 S.2.2.2.2.1 S.2.2.2.2.2.1 S.2.2.2.2.2.2.1 S.2.2.2.2.2.2.2.1 S.2.2.2.2.2.2.2.2.1 S.2.2.2.2.2.2.2.2.2) (zP_reg hP 2 rfl) 0 rfl) rfl rfl) (z_prec hK (zP_reg hP 2 rfl)) rfl hl.1 (Nat.le_of_ble_eq_true rfl) (z_d hX2_readItem_0 8 rfl) ⟨Nat.zero_le _, Nat.zero_le _⟩) hS hP (fun H locs hP hS => ?_)
    refine lv_if_eq (tgt := 29) hx hb (z_d hX2_readItem_0 9 rfl) (by decide) (fun hc17 => ?_) (fun hc17 => ?_)
    · have hF := z_pos hc17 hF
      refine lv_aload_n hx hb (z_d hX2_readItem_0 15 rfl) rfl (lv_at hl 1 rfl) ?_
      refine lv_dup hx hb (z_d hX2_readItem_0 16 rfl) rfl ?_
      refine va_get (D := Z.1) (ci := 2) (v := .int Rd.2.1) (C := RX2) (T := TX2) (N := 4) hx hb hts zinX2 hown hK.1 (zP_reg hP 0 rfl) 0 rfl rfl 2 (by decide) (hts _ k_f_X2_9) (fun _ h9 => h9) rfl (z_d hX2_readItem_0 17 rfl) ?_
      refine lv_iconst (v := 1) hx hb (z_d hX2_readItem_0 18 rfl) (by decide) ?_
      refine lv_iadd hx hb (z_d hX2_readItem_0 19 rfl) ?_
      refine z_let hF (fun u5 hu5 hF => ?_)
      refine lv_topE hu5 ?_
      refine z_put (Z := Z) (ci := 2) (v := .int u5) (ty := .int) (L := [w_Reader rd rt Rd, w_Row Z.2.1 200 rt rq tx, w_Script Z.2.1 As S]) (L' := [w_Reader rd rt (Rd.1, u5, Rd.2.2), w_Row Z.2.1 200 rt rq tx, w_Script Z.2.1 As S]) (C := RX2) (T := TX2) (N := 4) hx hb hts zinX2 tyX2 tyX2_ok nmX2 hown hK hP hD hS 0 rfl rfl 2 (by decide) (hts _ k_f_X2_9) (fun _ h9 => h9) rfl (tyX2_ok 2 (by decide)) rfl rfl (Nat.le_of_ble_eq_true rfl) rfl (z_d hX2_readItem_0 20 rfl) (fun H locs hP hD hS => ?_)
      refine lv_iload_n hx hb (z_d hX2_readItem_0 21 rfl) rfl (lv_at hl 0 rfl) ?_
      refine lv_iconst (v := 2) hx hb (z_d hX2_readItem_0 22 rfl) (by decide) ?_
      refine lv_icmp_ne (tgt := 51) hx hb (z_d hX2_readItem_0 23 rfl) (by decide) (fun hc41 => ?_) (fun hc41 => ?_)
      · have hF := z_neg hc41 hF
        refine lv_iconst (v := (-1)) hx hb (z_d hX2_readItem_0 27 rfl) (by decide) ?_
        exact J52 (Rd.1, u5, Rd.2.2) S q2 (-1) hF _ _ ls hP hD hS (lv_sub hl [1, 2, 0] rfl)
      · have hF := z_pos hc41 hF
        refine lv_aload_n hx hb (z_d hX2_readItem_0 24 rfl) rfl (lv_at hl 1 rfl) ?_
        refine z_let hF (fun q12 hq12 hF => ?_)
        refine z_mu2 (L := [w_Reader rd rt (Rd.1, u5, Rd.2.2), w_Row Z.2.1 200 rt rq tx, w_Script Z.2.1 As S]) (L' := [w_Reader rd rt q12.2, w_Row Z.2.1 200 rt rq tx, w_Script Z.2.1 As S]) (z_rV (As := []) (rest := []) hx hb hml hown hts vt_X2_readPerson (c_X2_readPerson l Z rd rt rq (Rd.1, u5, Rd.2.2) tx _ hq12) rfl rfl ⟨Nat.le_of_ble_eq_true rfl, Nat.le_of_ble_eq_true rfl⟩ k_m_X2_47 zPmu_blind (z_recv (q := (RX2, TX2, 4)) (ci := 2) (q0 := 0) hK (zP_reg hP 0 rfl) rfl rfl) (z_prem hK (zP_r2 hP 0 1 rfl rfl) (zD_r2 hD 0 1 rfl rfl (by decide))) rfl hl.1 (Nat.le_of_ble_eq_true rfl) (z_d hX2_readItem_0 25 rfl) ⟨Nat.zero_le _, Nat.zero_le _⟩) hS hP hD 0 1 rfl rfl (by decide) rfl rfl rfl (fun H locs hP hD hS => ?_)
        refine W.eq (g2 := F0 m 48 ls [.int q12.1]) rfl ?_
        refine lv_goto (tgt := 52) hx hb (z_d hX2_readItem_0 26 rfl) (by decide) ?_
        exact J52 q12.2 S q2 q12.1 hF _ _ ls hP hD hS (lv_sub hl [1, 2, 0] rfl)
    · have hF := z_neg hc17 hF
      exact J20 Rd S hF _ _ ls hP hD hS (lv_sub hl [1, 2] rfl)
def rm_X2_readInto : Room := { frames := 4, cells := 0, slots := 0, locals := 94 }
set_option maxRecDepth 100000 in
set_option maxHeartbeats 4000000 in
theorem c_X2_readInto (l : Launch) (Z : zZ) (rd : Nat) (rt rq : Nat) (As : Nat → Nat) (Rd : t_Reader) (tx : Rw) (S : t_Script) (R : Int32 × t_Reader × t_Script) (hF : X2_readInto Rd tx S = some R) : zMU l yX2_readInto (zw yX2_readInto cX2_readInto 3 (some .int)) rm_X2_readInto Z [.ref rd, .ref (As 0)] (List.flatten [w_Reader rd rt Rd, w_Row Z.2.1 200 rt rq tx, w_Script Z.2.1 As S]) (List.flatten [w_Reader rd rt R.2.1, w_Row Z.2.1 200 rt rq tx, w_Script Z.2.1 As R.2.2]) (some (.int R.1)) := by
  refine zMU_of (by decide) (Nat.le_of_ble_eq_true rfl) (fun p e s m below meth c hx hb hr hml hown hts hlocks hK A hA Q hQ ls hl hP hD hS => ?_)
  unfold X2_readInto at hF
  have hl : lv_has ls 3 [(0, .ref rd), (1, .ref (As 0))] := hl
  have hown : s.vm.findClass RX2 = some m.cls := hown
  have L2 : ∀  (n : Nat) (v : t_Reader × t_Script × Int32) (X : t_Reader × t_Script) (hF : zloop (b_X2_readInto_2 tx ) n v = some X) (H : Heap) (locs : List Loc) (ls : Array Slot) (hP : va_P Z.1 vwCl ([w_Reader rd rt v.1, w_Row Z.2.1 200 rt rq tx, w_Script Z.2.1 As v.2.1]).flatten H) (hD : va_D A ([w_Reader rd rt v.1, w_Row Z.2.1 200 rt rq tx, w_Script Z.2.1 As v.2.1]).flatten) (hS : va_S A s.heap H locs) (hl : lv_has ls 3 [(0, .ref rd), (1, .ref (As 0)), (2, .int v.2.2)]) (K1 : ∀ (H : Heap) (locs : List Loc) (ls : Array Slot) (hP : va_P Z.1 vwCl ([w_Reader rd rt X.1, w_Row Z.2.1 200 rt rq tx, w_Script Z.2.1 As X.2]).flatten H) (hD : va_D A ([w_Reader rd rt X.1, w_Row Z.2.1 200 rt rq tx, w_Script Z.2.1 As X.2]).flatten) (hS : va_S A s.heap H locs) (hl : lv_has ls 3 [(0, .ref rd), (1, .ref (As 0))]), W p l e rm_X2_readInto s m ([.ref rd, .ref (As 0)] : List Value).toArray below meth c H locs 0 0 Q (F0 m 38 ls [])), W p l e rm_X2_readInto s m ([.ref rd, .ref (As 0)] : List Value).toArray below meth c H locs 0 0 Q (F0 m 2 ls []) := by
    skip
    refine z_loopE (fun rec ih v X hF H locs ls hP hD hS hl K1 => ?_)
    unfold b_X2_readInto_2 at hF
    refine lv_iload_n hx hb (z_d hX2_readInto_0 2 rfl) rfl (lv_at hl 2 rfl) ?_
    refine lv_bipush (v := 60) hx hb (z_d hX2_readInto_0 3 rfl) (by decide) ?_
    refine lv_icmp_gt (tgt := 38) hx hb (z_d hX2_readInto_0 4 rfl) (by decide) (fun hc5 => ?_) (fun hc5 => ?_)
    · have hF := z_pos hc5 hF
      obtain rfl := Option.some.inj hF
      exact K1 _ _ ls hP hD hS (lv_sub hl [0, 1] rfl)
    · have hF := z_neg hc5 hF
      refine lv_aload_n hx hb (z_d hX2_readInto_0 5 rfl) rfl (lv_at hl 0 rfl) ?_
      refine va_get (D := Z.1) (ci := 2) (v := .int v.1.2.1) (C := RX2) (T := TX2) (N := 4) hx hb hts zinX2 hown hK.1 (zP_reg hP 0 rfl) 0 rfl rfl 2 (by decide) (hts _ k_f_X2_9) (fun _ h9 => h9) rfl (z_d hX2_readInto_0 6 rfl) ?_
      refine lv_aload_n hx hb (z_d hX2_readInto_0 7 rfl) rfl (lv_at hl 0 rfl) ?_
      refine va_get (D := Z.1) (ci := 2) (v := .int v.1.1) (C := RX2) (T := TX2) (N := 4) hx hb hts zinX2 hown hK.1 (zP_reg hP 0 rfl) 0 rfl rfl 1 (by decide) (hts _ k_f_X2_22) (fun _ h9 => h9) rfl (z_d hX2_readInto_0 8 rfl) ?_
      refine lv_icmp_ge (tgt := 38) hx hb (z_d hX2_readInto_0 9 rfl) (by decide) (fun hc16 => ?_) (fun hc16 => ?_)
      · have hF := z_pos hc16 hF
        obtain rfl := Option.some.inj hF
        exact K1 _ _ ls hP hD hS (lv_sub hl [0, 1] rfl)
      · have hF := z_neg hc16 hF
        refine lv_aload_n hx hb (z_d hX2_readInto_0 10 rfl) rfl (lv_at hl 0 rfl) ?_
        refine va_get (D := Z.1) (ci := 2) (v := .int v.1.2.2) (C := RX2) (T := TX2) (N := 4) hx hb hts zinX2 hown hK.1 (zP_reg hP 0 rfl) 0 rfl rfl 3 (by decide) (hts _ k_f_X2_15) (fun _ h9 => h9) rfl (z_d hX2_readInto_0 11 rfl) ?_
        refine lv_iconst (v := (-1)) hx hb (z_d hX2_readInto_0 12 rfl) (by decide) ?_
        refine lv_icmp_ne (tgt := 38) hx hb (z_d hX2_readInto_0 13 rfl) (by decide) (fun hc24 => ?_) (fun hc24 => ?_)
        · have hF := z_neg hc24 hF
          obtain rfl := Option.some.inj hF
          exact K1 _ _ ls hP hD hS (lv_sub hl [0, 1] rfl)
        · have hF := z_pos hc24 hF
          refine lv_aload_n hx hb (z_d hX2_readInto_0 14 rfl) rfl (lv_at hl 0 rfl) ?_
          refine lv_aload_n hx hb (z_d hX2_readInto_0 15 rfl) rfl (lv_at hl 1 rfl) ?_
          refine z_bnd hF (fun q1 hq1 hF => ?_)
          refine z_mu0 (z_rV (As := [.ref (As 0)]) (rest := []) hx hb hml hown hts vt_X2_readItem (c_X2_readItem l Z rd rt rq As v.1 tx v.2.1 _ hq1) rfl rfl ⟨Nat.le_of_ble_eq_true rfl, Nat.le_of_ble_eq_true rfl⟩ k_m_X2_25 zPmu_blind (z_recv (q := (RX2, TX2, 4)) (ci := 2) (q0 := 0) hK (zP_reg hP 0 rfl) rfl rfl) (z_prem hK hP hD) rfl hl.1 (Nat.le_of_ble_eq_true rfl) (z_d hX2_readInto_0 16 rfl) ⟨Nat.zero_le _, Nat.zero_le _⟩) hS hD (zadr3 rfl rfl (adr_Script _ _ _ _)) (fun H locs hP hD hS => ?_)
          have hP : va_P Z.1 vwCl ([w_Reader rd rt q1.1, w_Row Z.2.1 200 rt rq tx, w_Script Z.2.1 As q1.2]).flatten H := hP
          have hD : va_D A ([w_Reader rd rt q1.1, w_Row Z.2.1 200 rt rq tx, w_Script Z.2.1 As q1.2]).flatten := hD
          refine W.eq (g2 := F0 m 32 ls []) rfl ?_
          refine z_let hF (fun u2 hu2 hF => ?_)
          refine lv_iinc (v := u2) (lv' := [(2, .int u2), (0, .ref rd), (1, .ref (As 0))]) hx hb (z_d hX2_readInto_0 17 rfl) hl (k := 2) rfl (z_inc1 hu2) (by decide) rfl (fun ls hl => ?_)
          refine lv_goto (tgt := 2) hx hb (z_d hX2_readInto_0 18 rfl) (by decide) ?_
          exact ih _ _ hF _ _ ls hP hD hS (lv_sub hl [1, 2, 0] rfl) K1
  refine lv_iconst (v := 0) hx hb (z_d hX2_readInto_0 0 rfl) (by decide) ?_
  refine lv_istore_n (lv' := [(2, .int 0), (0, .ref rd), (1, .ref (As 0))]) hx hb (z_d hX2_readInto_0 1 rfl) rfl hl (by decide) rfl (fun ls hl => ?_)
  refine z_bnd hF (fun q3 hq3 hF => ?_)
  refine L2  _ _ _ hq3 _ _ ls hP hD hS (lv_sub hl [1, 2, 0] rfl) (fun H locs ls hP hD hS hl => ?_)
  refine lv_aload_n hx hb (z_d hX2_readInto_0 19 rfl) rfl (lv_at hl 0 rfl) ?_
  refine va_get (D := Z.1) (ci := 2) (v := .int q3.1.2.2) (C := RX2) (T := TX2) (N := 4) hx hb hts zinX2 hown hK.1 (zP_reg hP 0 rfl) 0 rfl rfl 3 (by decide) (hts _ k_f_X2_15) (fun _ h9 => h9) rfl (z_d hX2_readInto_0 20 rfl) ?_
  obtain rfl := Option.some.inj hF
  subst hQ
  subst hA
  exact W.iret hx hb hr (fun t ht hW => zq_mu (by rw [ht]; exact hP) (hS.F ht)) hS.2.2 (z_d hX2_readInto_0 21 rfl)

theorem vs_X6_isBelow : zSt yX6_isBelow cX6_isBelow 2 (some .boolean) 2 := ⟨zG_at 537 (by decide +kernel) (by decide +kernel), zG_at 26 (by decide +kernel) (by decide +kernel), zG_at 538 (by decide +kernel) (by decide +kernel), by decide +kernel⟩
theorem vt_X3_at : zVt yX3_at cX3_at 2 (some .int) 1 := ⟨zG_at 449 (by decide +kernel) (by decide +kernel), zG_at 450 (by decide +kernel) (by decide +kernel), zG_at 28 (by decide +kernel) (by decide +kernel), zG_at 451 (by decide +kernel) (by decide +kernel), by decide +kernel⟩
theorem vt_X5_isOmitted : zVt yX5_isOmitted cX5_isOmitted 2 (some .boolean) 1 := ⟨zG_at 466 (by decide +kernel) (by decide +kernel), zG_at 467 (by decide +kernel) (by decide +kernel), zG_at 27 (by decide +kernel) (by decide +kernel), zG_at 468 (by decide +kernel) (by decide +kernel), by decide +kernel⟩
theorem vt_X5_isFull : zVt yX5_isFull cX5_isFull 1 (some .boolean) 0 := ⟨zG_at 392 (by decide +kernel) (by decide +kernel), zG_at 393 (by decide +kernel) (by decide +kernel), zG_at 27 (by decide +kernel) (by decide +kernel), zG_at 394 (by decide +kernel) (by decide +kernel), by decide +kernel⟩
theorem vt_X3_openAt : zVt yX3_openAt cX3_openAt 5 none 2 := ⟨zG_at 425 (by decide +kernel) (by decide +kernel), zG_at 426 (by decide +kernel) (by decide +kernel), zG_at 28 (by decide +kernel) (by decide +kernel), zG_at 427 (by decide +kernel) (by decide +kernel), by decide +kernel⟩
theorem vt_X5_has : zVt yX5_has cX5_has 2 (some .boolean) 1 := ⟨zG_at 533 (by decide +kernel) (by decide +kernel), zG_at 534 (by decide +kernel) (by decide +kernel), zG_at 27 (by decide +kernel) (by decide +kernel), zG_at 535 (by decide +kernel) (by decide +kernel), by decide +kernel⟩
theorem vt_X3_closeAt : zVt yX3_closeAt cX3_closeAt 4 none 1 := ⟨zG_at 615 (by decide +kernel) (by decide +kernel), zG_at 616 (by decide +kernel) (by decide +kernel), zG_at 28 (by decide +kernel) (by decide +kernel), zG_at 617 (by decide +kernel) (by decide +kernel), by decide +kernel⟩
theorem vt_X3_copyFrom : zVt yX3_copyFrom cX3_copyFrom 3 none 1 := ⟨zG_at 416 (by decide +kernel) (by decide +kernel), zG_at 417 (by decide +kernel) (by decide +kernel), zG_at 28 (by decide +kernel) (by decide +kernel), zG_at 418 (by decide +kernel) (by decide +kernel), by decide +kernel⟩
theorem k_f_X5_9 : Cond.fieldLink RX5 9 "ScriptPages$Script" "size" "I" ∈ zG := zG_at 64 (by decide +kernel) (by decide +kernel)
theorem k_f_X5_23 : Cond.fieldLink RX5 23 "ScriptPages$Script" "kinds" "LScriptPages$Row;" ∈ zG := zG_at 71 (by decide +kernel) (by decide +kernel)
theorem k_m_X5_52 : Cond.methodLink RX5 52 yX3_at ∈ zG := zG_at 448 (by decide +kernel) (by decide +kernel)
theorem k_f_X5_36 : Cond.fieldLink RX5 36 "ScriptPages$Script" "locks" "LScriptPages$Row;" ∈ zG := zG_at 82 (by decide +kernel) (by decide +kernel)
theorem k_m_X5_56 : Cond.methodLink RX5 56 yX5_isOmitted ∈ zG := zG_at 465 (by decide +kernel) (by decide +kernel)
theorem k_f_X5_27 : Cond.fieldLink RX5 27 "ScriptPages$Script" "lengths" "LScriptPages$Row;" ∈ zG := zG_at 74 (by decide +kernel) (by decide +kernel)
theorem k_m_X5_60 : Cond.methodLink RX5 60 yX5_isFull ∈ zG := zG_at 423 (by decide +kernel) (by decide +kernel)
theorem k_m_X5_64 : Cond.methodLink RX5 64 yX3_openAt ∈ zG := zG_at 424 (by decide +kernel) (by decide +kernel)
theorem k_f_X5_30 : Cond.fieldLink RX5 30 "ScriptPages$Script" "persons" "LScriptPages$Row;" ∈ zG := zG_at 76 (by decide +kernel) (by decide +kernel)
theorem k_f_X5_33 : Cond.fieldLink RX5 33 "ScriptPages$Script" "marks" "LScriptPages$Row;" ∈ zG := zG_at 79 (by decide +kernel) (by decide +kernel)
theorem k_f_X5_39 : Cond.fieldLink RX5 39 "ScriptPages$Script" "firsts" "LScriptPages$Row;" ∈ zG := zG_at 83 (by decide +kernel) (by decide +kernel)
theorem k_f_X5_42 : Cond.fieldLink RX5 42 "ScriptPages$Script" "seconds" "LScriptPages$Row;" ∈ zG := zG_at 85 (by decide +kernel) (by decide +kernel)
theorem k_f_X5_45 : Cond.fieldLink RX5 45 "ScriptPages$Script" "thirds" "LScriptPages$Row;" ∈ zG := zG_at 87 (by decide +kernel) (by decide +kernel)
theorem k_m_X5_68 : Cond.methodLink RX5 68 yX5_has ∈ zG := zG_at 613 (by decide +kernel) (by decide +kernel)
theorem k_m_X5_71 : Cond.methodLink RX5 71 yX3_closeAt ∈ zG := zG_at 614 (by decide +kernel) (by decide +kernel)
theorem k_m_X5_74 : Cond.methodLink RX5 74 yX3_put ∈ zG := zG_at 618 (by decide +kernel) (by decide +kernel)
theorem k_f_X5_15 : Cond.fieldLink RX5 15 "ScriptPages$Script" "pageLines" "I" ∈ zG := zG_at 68 (by decide +kernel) (by decide +kernel)
theorem k_m_X5_77 : Cond.methodLink RX5 77 yX3_copyFrom ∈ zG := zG_at 415 (by decide +kernel) (by decide +kernel)
theorem kn_X5_48 {U : State} (h : zNW U) : va_Nw (.methodLinkNest RX5 48 yX6_isBelow "ScriptPages") U := h.mth 4 (by decide +kernel)
def rm_X5_has : Room := { frames := 1, cells := 0, slots := 0, locals := 21 }
set_option maxRecDepth 100000 in
set_option maxHeartbeats 4000000 in
theorem c_X5_has (l : Launch) (Z : zZ) (As : Nat → Nat) (S : t_Script) (p1 : Int32) (R : Int32) (hF : X5_has S p1 = R) : zRO l yX5_has (zw yX5_has cX5_has 2 (some .boolean)) rm_X5_has Z [.ref (As 0), .int p1] (w_Script Z.2.1 As S) (some (.int R)) := by
  refine zRO_of (by decide) (Nat.le_of_ble_eq_true rfl) (fun p e s m below meth c hx hb hr hml hown hts hlocks hK Q hQ ls hl hP hS => ?_)
  unfold X5_has at hF
  have hl : lv_has ls 2 [(0, .ref (As 0)), (1, .int p1)] := hl
  have hown : s.vm.findClass RX5 = some m.cls := hown
  have hP : va_P Z.1 vwCl (l_Script Z.2.1 As S.1 S.2.1 S.2.2.1 S.2.2.2.1 S.2.2.2.2.1 S.2.2.2.2.2.1 S.2.2.2.2.2.2.1 S.2.2.2.2.2.2.2.1 S.2.2.2.2.2.2.2.2.1 S.2.2.2.2.2.2.2.2.2).flatten s.heap := hP
  refine lv_iload_n hx hb (z_d hX5_has_0 0 rfl) rfl (lv_at hl 1 rfl) ?_
  refine lv_aload_n hx hb (z_d hX5_has_0 1 rfl) rfl (lv_at hl 0 rfl) ?_
  refine va_get (D := Z.1) (ci := 5) (v := .int S.1) (C := RX5) (T := TX5) (N := 10) hx hb hts zinX5 hown hK.1 (zP_reg hP 0 rfl) 0 rfl rfl 0 (by decide) (hts _ k_f_X5_9) (fun _ h9 => h9) rfl (z_d hX5_has_0 2 rfl) ?_
  refine z_let hF (fun q1 hq1 hF => ?_)
  refine z_ro_i (z_rSN (As := [.int p1, .int S.1]) (rest := []) hx hb hml hown hts vs_X6_isBelow (c_X6_isBelow l Z p1 S.1 _ hq1) rfl rfl ⟨Nat.le_of_ble_eq_true rfl, Nat.le_of_ble_eq_true rfl⟩ (kn_X5_48 hK.2) zPro_blind (z_prec hK zP_nil) rfl hl.1 (Nat.le_of_ble_eq_true rfl) (z_d hX5_has_0 3 rfl) ⟨Nat.zero_le _, Nat.zero_le _⟩) hS hP (fun H locs hP hS => ?_)
  have hz9 := z_bool (hq1 ▸ X6_isBelow_b p1 S.1)
  obtain rfl := hF
  subst hQ
  exact W.zret hx hb hr hz9 (fun t ht hW => zq_ro (hS.F ht)) hS.2.2 (z_d hX5_has_0 4 rfl)
def rm_X5_isFull : Room := { frames := 0, cells := 0, slots := 0, locals := 0 }
set_option maxRecDepth 100000 in
set_option maxHeartbeats 4000000 in
theorem c_X5_isFull (l : Launch) (Z : zZ) (As : Nat → Nat) (S : t_Script) (R : Int32) (hF : X5_isFull S = R) : zRO l yX5_isFull (zw yX5_isFull cX5_isFull 1 (some .boolean)) rm_X5_isFull Z [.ref (As 0)] (w_Script Z.2.1 As S) (some (.int R)) := by
  refine zRO_of (by decide) (Nat.le_of_ble_eq_true rfl) (fun p e s m below meth c hx hb hr hml hown hts hlocks hK Q hQ ls hl hP hS => ?_)
  unfold X5_isFull at hF
  have hl : lv_has ls 1 [(0, .ref (As 0))] := hl
  have hown : s.vm.findClass RX5 = some m.cls := hown
  have hP : va_P Z.1 vwCl (l_Script Z.2.1 As S.1 S.2.1 S.2.2.1 S.2.2.2.1 S.2.2.2.2.1 S.2.2.2.2.2.1 S.2.2.2.2.2.2.1 S.2.2.2.2.2.2.2.1 S.2.2.2.2.2.2.2.2.1 S.2.2.2.2.2.2.2.2.2).flatten s.heap := hP
  refine lv_aload_n hx hb (z_d hX5_isFull_0 0 rfl) rfl (lv_at hl 0 rfl) ?_
  refine va_get (D := Z.1) (ci := 5) (v := .int S.1) (C := RX5) (T := TX5) (N := 10) hx hb hts zinX5 hown hK.1 (zP_reg hP 0 rfl) 0 rfl rfl 0 (by decide) (hts _ k_f_X5_9) (fun _ h9 => h9) rfl (z_d hX5_isFull_0 1 rfl) ?_
  refine lv_bipush (v := 60) hx hb (z_d hX5_isFull_0 2 rfl) (by decide) ?_
  refine lv_icmp_lt (tgt := 13) hx hb (z_d hX5_isFull_0 3 rfl) (by decide) (fun hc6 => ?_) (fun hc6 => ?_)
  · have hF := z_pos hc6 hF
    refine lv_iconst (v := 0) hx hb (z_d hX5_isFull_0 6 rfl) (by decide) ?_
    have hz9 : narrow .boolean (.int 0) = .int 0 := rfl
    obtain rfl := hF
    subst hQ
    exact W.zret hx hb hr hz9 (fun t ht hW => zq_ro (hS.F ht)) hS.2.2 (z_d hX5_isFull_0 7 rfl)
  · have hF := z_neg hc6 hF
    refine lv_iconst (v := 1) hx hb (z_d hX5_isFull_0 4 rfl) (by decide) ?_
    refine lv_goto (tgt := 14) hx hb (z_d hX5_isFull_0 5 rfl) (by decide) ?_
    have hz9 : narrow .boolean (.int 1) = .int 1 := rfl
    obtain rfl := hF
    subst hQ
    exact W.zret hx hb hr hz9 (fun t ht hW => zq_ro (hS.F ht)) hS.2.2 (z_d hX5_isFull_0 7 rfl)
def rm_X5_isHeading : Room := { frames := 1, cells := 0, slots := 0, locals := 21 }
set_option maxRecDepth 100000 in
set_option maxHeartbeats 4000000 in
theorem c_X5_isHeading (l : Launch) (Z : zZ) (As : Nat → Nat) (S : t_Script) (p1 : Int32) (R : Int32) (hF : X5_isHeading S p1 = R) : zRO l yX5_isHeading (zw yX5_isHeading cX5_isHeading 2 (some .boolean)) rm_X5_isHeading Z [.ref (As 0), .int p1] (w_Script Z.2.1 As S) (some (.int R)) := by
  refine zRO_of (by decide) (Nat.le_of_ble_eq_true rfl) (fun p e s m below meth c hx hb hr hml hown hts hlocks hK Q hQ ls hl hP hS => ?_)
  unfold X5_isHeading at hF
  have hl : lv_has ls 2 [(0, .ref (As 0)), (1, .int p1)] := hl
  have hown : s.vm.findClass RX5 = some m.cls := hown
  have hP : va_P Z.1 vwCl (l_Script Z.2.1 As S.1 S.2.1 S.2.2.1 S.2.2.2.1 S.2.2.2.2.1 S.2.2.2.2.2.1 S.2.2.2.2.2.2.1 S.2.2.2.2.2.2.2.1 S.2.2.2.2.2.2.2.2.1 S.2.2.2.2.2.2.2.2.2).flatten s.heap := hP
  refine lv_aload_n hx hb (z_d hX5_isHeading_0 0 rfl) rfl (lv_at hl 0 rfl) ?_
  refine va_get (D := Z.1) (ci := 5) (v := .ref (As 1)) (C := RX5) (T := TX5) (N := 10) hx hb hts zinX5 hown hK.1 (zP_reg hP 0 rfl) 0 rfl rfl 2 (by decide) (hts _ k_f_X5_23) (fun _ h9 => h9) rfl (z_d hX5_isHeading_0 1 rfl) ?_
  refine lv_iload_n hx hb (z_d hX5_isHeading_0 2 rfl) rfl (lv_at hl 1 rfl) ?_
  refine z_let hF (fun q1 hq1 hF => ?_)
  refine z_ro_i (z_rV (As := [.int p1]) (rest := []) hx hb hml hown hts vt_X3_at (c_rAt l Z 60 (As 1) (As 2) (by decide) S.2.2.1 p1 _ hq1) rfl rfl ⟨Nat.le_of_ble_eq_true rfl, Nat.le_of_ble_eq_true rfl⟩ k_m_X5_52 zPro_blind (z_recv (q := (RX3, TX3, 1)) (ci := 3) (q0 := 0) hK (zP_reg hP 1 rfl) rfl rfl) (z_prec hK (zP_reg hP 1 rfl)) rfl hl.1 (Nat.le_of_ble_eq_true rfl) (z_d hX5_isHeading_0 3 rfl) ⟨Nat.zero_le _, Nat.zero_le _⟩) hS hP (fun H locs hP hS => ?_)
  refine lv_if_ne (tgt := 15) hx hb (z_d hX5_isHeading_0 4 rfl) (by decide) (fun hc8 => ?_) (fun hc8 => ?_)
  · have hF := z_neg hc8 hF
    refine lv_iconst (v := 0) hx hb (z_d hX5_isHeading_0 7 rfl) (by decide) ?_
    have hz9 : narrow .boolean (.int 0) = .int 0 := rfl
    obtain rfl := hF
    subst hQ
    exact W.zret hx hb hr hz9 (fun t ht hW => zq_ro (hS.F ht)) hS.2.2 (z_d hX5_isHeading_0 8 rfl)
  · have hF := z_pos hc8 hF
    refine lv_iconst (v := 1) hx hb (z_d hX5_isHeading_0 5 rfl) (by decide) ?_
    refine lv_goto (tgt := 16) hx hb (z_d hX5_isHeading_0 6 rfl) (by decide) ?_
    have hz9 : narrow .boolean (.int 1) = .int 1 := rfl
    obtain rfl := hF
    subst hQ
    exact W.zret hx hb hr hz9 (fun t ht hW => zq_ro (hS.F ht)) hS.2.2 (z_d hX5_isHeading_0 8 rfl)
def rm_X5_isLocked : Room := { frames := 1, cells := 0, slots := 0, locals := 21 }
set_option maxRecDepth 100000 in
set_option maxHeartbeats 4000000 in
theorem c_X5_isLocked (l : Launch) (Z : zZ) (As : Nat → Nat) (S : t_Script) (p1 : Int32) (R : Int32) (hF : X5_isLocked S p1 = R) : zRO l yX5_isLocked (zw yX5_isLocked cX5_isLocked 2 (some .boolean)) rm_X5_isLocked Z [.ref (As 0), .int p1] (w_Script Z.2.1 As S) (some (.int R)) := by
  refine zRO_of (by decide) (Nat.le_of_ble_eq_true rfl) (fun p e s m below meth c hx hb hr hml hown hts hlocks hK Q hQ ls hl hP hS => ?_)
  unfold X5_isLocked at hF
  have hl : lv_has ls 2 [(0, .ref (As 0)), (1, .int p1)] := hl
  have hown : s.vm.findClass RX5 = some m.cls := hown
  have hP : va_P Z.1 vwCl (l_Script Z.2.1 As S.1 S.2.1 S.2.2.1 S.2.2.2.1 S.2.2.2.2.1 S.2.2.2.2.2.1 S.2.2.2.2.2.2.1 S.2.2.2.2.2.2.2.1 S.2.2.2.2.2.2.2.2.1 S.2.2.2.2.2.2.2.2.2).flatten s.heap := hP
  refine lv_aload_n hx hb (z_d hX5_isLocked_0 0 rfl) rfl (lv_at hl 0 rfl) ?_
  refine va_get (D := Z.1) (ci := 5) (v := .ref (As 9)) (C := RX5) (T := TX5) (N := 10) hx hb hts zinX5 hown hK.1 (zP_reg hP 0 rfl) 0 rfl rfl 6 (by decide) (hts _ k_f_X5_36) (fun _ h9 => h9) rfl (z_d hX5_isLocked_0 1 rfl) ?_
  refine lv_iload_n hx hb (z_d hX5_isLocked_0 2 rfl) rfl (lv_at hl 1 rfl) ?_
  refine z_let hF (fun q1 hq1 hF => ?_)
  refine z_ro_i (z_rV (As := [.int p1]) (rest := []) hx hb hml hown hts vt_X3_at (c_rAt l Z 60 (As 9) (As 10) (by decide) S.2.2.2.2.2.2.1 p1 _ hq1) rfl rfl ⟨Nat.le_of_ble_eq_true rfl, Nat.le_of_ble_eq_true rfl⟩ k_m_X5_52 zPro_blind (z_recv (q := (RX3, TX3, 1)) (ci := 3) (q0 := 0) hK (zP_reg hP 5 rfl) rfl rfl) (z_prec hK (zP_reg hP 5 rfl)) rfl hl.1 (Nat.le_of_ble_eq_true rfl) (z_d hX5_isLocked_0 3 rfl) ⟨Nat.zero_le _, Nat.zero_le _⟩) hS hP (fun H locs hP hS => ?_)
  refine lv_iconst (v := 1) hx hb (z_d hX5_isLocked_0 4 rfl) (by decide) ?_
  refine lv_icmp_lt (tgt := 16) hx hb (z_d hX5_isLocked_0 5 rfl) (by decide) (fun hc9 => ?_) (fun hc9 => ?_)
  · have hF := z_pos hc9 hF
    refine lv_iconst (v := 0) hx hb (z_d hX5_isLocked_0 8 rfl) (by decide) ?_
    have hz9 : narrow .boolean (.int 0) = .int 0 := rfl
    obtain rfl := hF
    subst hQ
    exact W.zret hx hb hr hz9 (fun t ht hW => zq_ro (hS.F ht)) hS.2.2 (z_d hX5_isLocked_0 9 rfl)
  · have hF := z_neg hc9 hF
    refine lv_iconst (v := 1) hx hb (z_d hX5_isLocked_0 6 rfl) (by decide) ?_
    refine lv_goto (tgt := 17) hx hb (z_d hX5_isLocked_0 7 rfl) (by decide) ?_
    have hz9 : narrow .boolean (.int 1) = .int 1 := rfl
    obtain rfl := hF
    subst hQ
    exact W.zret hx hb hr hz9 (fun t ht hW => zq_ro (hS.F ht)) hS.2.2 (z_d hX5_isLocked_0 9 rfl)
def rm_X5_isOmitted : Room := { frames := 1, cells := 0, slots := 0, locals := 21 }
set_option maxRecDepth 100000 in
set_option maxHeartbeats 4000000 in
theorem c_X5_isOmitted (l : Launch) (Z : zZ) (As : Nat → Nat) (S : t_Script) (p1 : Int32) (R : Int32) (hF : X5_isOmitted S p1 = R) : zRO l yX5_isOmitted (zw yX5_isOmitted cX5_isOmitted 2 (some .boolean)) rm_X5_isOmitted Z [.ref (As 0), .int p1] (w_Script Z.2.1 As S) (some (.int R)) := by
  refine zRO_of (by decide) (Nat.le_of_ble_eq_true rfl) (fun p e s m below meth c hx hb hr hml hown hts hlocks hK Q hQ ls hl hP hS => ?_)
  unfold X5_isOmitted at hF
  have hl : lv_has ls 2 [(0, .ref (As 0)), (1, .int p1)] := hl
  have hown : s.vm.findClass RX5 = some m.cls := hown
  have hP : va_P Z.1 vwCl (l_Script Z.2.1 As S.1 S.2.1 S.2.2.1 S.2.2.2.1 S.2.2.2.2.1 S.2.2.2.2.2.1 S.2.2.2.2.2.2.1 S.2.2.2.2.2.2.2.1 S.2.2.2.2.2.2.2.2.1 S.2.2.2.2.2.2.2.2.2).flatten s.heap := hP
  refine lv_aload_n hx hb (z_d hX5_isOmitted_0 0 rfl) rfl (lv_at hl 0 rfl) ?_
  refine va_get (D := Z.1) (ci := 5) (v := .ref (As 9)) (C := RX5) (T := TX5) (N := 10) hx hb hts zinX5 hown hK.1 (zP_reg hP 0 rfl) 0 rfl rfl 6 (by decide) (hts _ k_f_X5_36) (fun _ h9 => h9) rfl (z_d hX5_isOmitted_0 1 rfl) ?_
  refine lv_iload_n hx hb (z_d hX5_isOmitted_0 2 rfl) rfl (lv_at hl 1 rfl) ?_
  refine z_let hF (fun q1 hq1 hF => ?_)
  refine z_ro_i (z_rV (As := [.int p1]) (rest := []) hx hb hml hown hts vt_X3_at (c_rAt l Z 60 (As 9) (As 10) (by decide) S.2.2.2.2.2.2.1 p1 _ hq1) rfl rfl ⟨Nat.le_of_ble_eq_true rfl, Nat.le_of_ble_eq_true rfl⟩ k_m_X5_52 zPro_blind (z_recv (q := (RX3, TX3, 1)) (ci := 3) (q0 := 0) hK (zP_reg hP 5 rfl) rfl rfl) (z_prec hK (zP_reg hP 5 rfl)) rfl hl.1 (Nat.le_of_ble_eq_true rfl) (z_d hX5_isOmitted_0 3 rfl) ⟨Nat.zero_le _, Nat.zero_le _⟩) hS hP (fun H locs hP hS => ?_)
  refine lv_iconst (v := 2) hx hb (z_d hX5_isOmitted_0 4 rfl) (by decide) ?_
  refine lv_icmp_ne (tgt := 16) hx hb (z_d hX5_isOmitted_0 5 rfl) (by decide) (fun hc9 => ?_) (fun hc9 => ?_)
  · have hF := z_neg hc9 hF
    refine lv_iconst (v := 0) hx hb (z_d hX5_isOmitted_0 8 rfl) (by decide) ?_
    have hz9 : narrow .boolean (.int 0) = .int 0 := rfl
    obtain rfl := hF
    subst hQ
    exact W.zret hx hb hr hz9 (fun t ht hW => zq_ro (hS.F ht)) hS.2.2 (z_d hX5_isOmitted_0 9 rfl)
  · have hF := z_pos hc9 hF
    refine lv_iconst (v := 1) hx hb (z_d hX5_isOmitted_0 6 rfl) (by decide) ?_
    refine lv_goto (tgt := 17) hx hb (z_d hX5_isOmitted_0 7 rfl) (by decide) ?_
    have hz9 : narrow .boolean (.int 1) = .int 1 := rfl
    obtain rfl := hF
    subst hQ
    exact W.zret hx hb hr hz9 (fun t ht hW => zq_ro (hS.F ht)) hS.2.2 (z_d hX5_isOmitted_0 9 rfl)
def rm_X5_linesOf : Room := { frames := 2, cells := 0, slots := 0, locals := 42 }
set_option maxRecDepth 100000 in
set_option maxHeartbeats 4000000 in
theorem c_X5_linesOf (l : Launch) (Z : zZ) (As : Nat → Nat) (S : t_Script) (p1 : Int32) (R : Int32) (hF : X5_linesOf S p1 = R) : zRO l yX5_linesOf (zw yX5_linesOf cX5_linesOf 4 (some .int)) rm_X5_linesOf Z [.ref (As 0), .int p1] (w_Script Z.2.1 As S) (some (.int R)) := by
  refine zRO_of (by decide) (Nat.le_of_ble_eq_true rfl) (fun p e s m below meth c hx hb hr hml hown hts hlocks hK Q hQ ls hl hP hS => ?_)
  unfold X5_linesOf at hF
  have hl : lv_has ls 4 [(0, .ref (As 0)), (1, .int p1)] := hl
  have hown : s.vm.findClass RX5 = some m.cls := hown
  have hP : va_P Z.1 vwCl (l_Script Z.2.1 As S.1 S.2.1 S.2.2.1 S.2.2.2.1 S.2.2.2.2.1 S.2.2.2.2.2.1 S.2.2.2.2.2.2.1 S.2.2.2.2.2.2.2.1 S.2.2.2.2.2.2.2.2.1 S.2.2.2.2.2.2.2.2.2).flatten s.heap := hP
  refine lv_aload_n hx hb (z_d hX5_linesOf_0 0 rfl) rfl (lv_at hl 0 rfl) ?_
  refine va_get (D := Z.1) (ci := 5) (v := .ref (As 1)) (C := RX5) (T := TX5) (N := 10) hx hb hts zinX5 hown hK.1 (zP_reg hP 0 rfl) 0 rfl rfl 2 (by decide) (hts _ k_f_X5_23) (fun _ h9 => h9) rfl (z_d hX5_linesOf_0 1 rfl) ?_
  refine lv_iload_n hx hb (z_d hX5_linesOf_0 2 rfl) rfl (lv_at hl 1 rfl) ?_
  refine z_let hF (fun q1 hq1 hF => ?_)
  refine z_ro_i (z_rV (As := [.int p1]) (rest := []) hx hb hml hown hts vt_X3_at (c_rAt l Z 60 (As 1) (As 2) (by decide) S.2.2.1 p1 _ hq1) rfl rfl ⟨Nat.le_of_ble_eq_true rfl, Nat.le_of_ble_eq_true rfl⟩ k_m_X5_52 zPro_blind (z_recv (q := (RX3, TX3, 1)) (ci := 3) (q0 := 0) hK (zP_reg hP 1 rfl) rfl rfl) (z_prec hK (zP_reg hP 1 rfl)) rfl hl.1 (Nat.le_of_ble_eq_true rfl) (z_d hX5_linesOf_0 3 rfl) ⟨Nat.zero_le _, Nat.zero_le _⟩) hS hP (fun H locs hP hS => ?_)
  refine lv_istore_n (lv' := [(2, .int q1), (0, .ref (As 0)), (1, .int p1)]) hx hb (z_d hX5_linesOf_0 4 rfl) rfl hl (by decide) rfl (fun ls hl => ?_)
  refine lv_iload_n hx hb (z_d hX5_linesOf_0 5 rfl) rfl (lv_at hl 0 rfl) ?_
  refine lv_iconst (v := 2) hx hb (z_d hX5_linesOf_0 6 rfl) (by decide) ?_
  refine lv_icmp_eq (tgt := 22) hx hb (z_d hX5_linesOf_0 7 rfl) (by decide) (fun hc11 => ?_) (fun hc11 => ?_)
  · have hF := z_pos hc11 hF
    refine lv_iconst (v := 1) hx hb (z_d hX5_linesOf_0 12 rfl) (by decide) ?_
    obtain rfl := hF
    subst hQ
    exact W.iret hx hb hr (fun t ht hW => zq_ro (hS.F ht)) hS.2.2 (z_d hX5_linesOf_0 13 rfl)
  · have hF := z_neg hc11 hF
    refine lv_aload_n hx hb (z_d hX5_linesOf_0 8 rfl) rfl (lv_at hl 1 rfl) ?_
    refine lv_iload_n hx hb (z_d hX5_linesOf_0 9 rfl) rfl (lv_at hl 2 rfl) ?_
    refine z_let hF (fun q2 hq2 hF => ?_)
    refine z_ro_i (z_rV (As := [.int p1]) (rest := []) hx hb hml hown hts vt_X5_isOmitted (c_X5_isOmitted l Z As S p1 _ hq2) rfl rfl ⟨Nat.le_of_ble_eq_true rfl, Nat.le_of_ble_eq_true rfl⟩ k_m_X5_56 zPro_blind (z_recv (q := (RX5, TX5, 10)) (ci := 5) (q0 := 0) hK (zP_reg hP 0 rfl) rfl rfl) (z_prec hK hP) rfl hl.1 (Nat.le_of_ble_eq_true rfl) (z_d hX5_linesOf_0 10 rfl) ⟨Nat.zero_le _, Nat.zero_le _⟩) hS hP (fun H locs hP hS => ?_)
    refine lv_if_eq (tgt := 24) hx hb (z_d hX5_linesOf_0 11 rfl) (by decide) (fun hc19 => ?_) (fun hc19 => ?_)
    · have hF := z_pos hc19 hF
      refine lv_aload_n hx hb (z_d hX5_linesOf_0 14 rfl) rfl (lv_at hl 1 rfl) ?_
      refine va_get (D := Z.1) (ci := 5) (v := .ref (As 3)) (C := RX5) (T := TX5) (N := 10) hx hb hts zinX5 hown hK.1 (zP_reg hP 0 rfl) 0 rfl rfl 3 (by decide) (hts _ k_f_X5_27) (fun _ h9 => h9) rfl (z_d hX5_linesOf_0 15 rfl) ?_
      refine lv_iload_n hx hb (z_d hX5_linesOf_0 16 rfl) rfl (lv_at hl 2 rfl) ?_
      refine z_let hF (fun q3 hq3 hF => ?_)
      refine z_ro_i (z_rV (As := [.int p1]) (rest := []) hx hb hml hown hts vt_X3_at (c_rAt l Z 60 (As 3) (As 4) (by decide) S.2.2.2.1 p1 _ hq3) rfl rfl ⟨Nat.le_of_ble_eq_true rfl, Nat.le_of_ble_eq_true rfl⟩ k_m_X5_52 zPro_blind (z_recv (q := (RX3, TX3, 1)) (ci := 3) (q0 := 0) hK (zP_reg hP 2 rfl) rfl rfl) (z_prec hK (zP_reg hP 2 rfl)) rfl hl.1 (Nat.le_of_ble_eq_true rfl) (z_d hX5_linesOf_0 17 rfl) ⟨Nat.zero_le _, Nat.zero_le _⟩) hS hP (fun H locs hP hS => ?_)
      refine lv_istore_n (lv' := [(3, .int q3), (2, .int q1), (0, .ref (As 0)), (1, .int p1)]) hx hb (z_d hX5_linesOf_0 18 rfl) rfl hl (by decide) rfl (fun ls hl => ?_)
      refine lv_iload_n hx hb (z_d hX5_linesOf_0 19 rfl) rfl (lv_at hl 1 rfl) ?_
      by_cases hs34_3 : q1 = 3
      · have hF := z_pos hs34_3 hF
        refine lv_lookup (off := 26) (tgt := 60) hx hb (z_d hX5_linesOf_0 20 rfl) (by decide) (by rw [hs34_3]; first | done | rfl) (by decide) ?_
        refine lv_iload_n hx hb (z_d hX5_linesOf_0 21 rfl) rfl (lv_at hl 0 rfl) ?_
        refine lv_bipush (v := 34) hx hb (z_d hX5_linesOf_0 22 rfl) (by decide) ?_
        refine lv_iadd hx hb (z_d hX5_linesOf_0 23 rfl) ?_
        refine z_let hF (fun u4 hu4 hF => ?_)
        refine lv_topE hu4 ?_
        refine lv_bipush (v := 35) hx hb (z_d hX5_linesOf_0 24 rfl) (by decide) ?_
        refine lv_idiv hx hb (z_d hX5_linesOf_0 25 rfl) (by decide) ?_
        refine z_let hF (fun u5 hu5 hF => ?_)
        refine lv_topE hu5 ?_
        obtain rfl := hF
        subst hQ
        exact W.iret hx hb hr (fun t ht hW => zq_ro (hS.F ht)) hS.2.2 (z_d hX5_linesOf_0 26 rfl)
      have hF := z_neg hs34_3 hF
      by_cases hs34_4 : q1 = 4
      · have hF := z_pos hs34_4 hF
        refine lv_lookup (off := 34) (tgt := 68) hx hb (z_d hX5_linesOf_0 20 rfl) (by decide) (by rw [hs34_4]; first | done | rfl) (by decide) ?_
        refine lv_iload_n hx hb (z_d hX5_linesOf_0 27 rfl) rfl (lv_at hl 0 rfl) ?_
        refine lv_bipush (v := 24) hx hb (z_d hX5_linesOf_0 28 rfl) (by decide) ?_
        refine lv_iadd hx hb (z_d hX5_linesOf_0 29 rfl) ?_
        refine z_let hF (fun u6 hu6 hF => ?_)
        refine lv_topE hu6 ?_
        refine lv_bipush (v := 25) hx hb (z_d hX5_linesOf_0 30 rfl) (by decide) ?_
        refine lv_idiv hx hb (z_d hX5_linesOf_0 31 rfl) (by decide) ?_
        refine z_let hF (fun u7 hu7 hF => ?_)
        refine lv_topE hu7 ?_
        obtain rfl := hF
        subst hQ
        exact W.iret hx hb hr (fun t ht hW => zq_ro (hS.F ht)) hS.2.2 (z_d hX5_linesOf_0 32 rfl)
      have hF := z_neg hs34_4 hF
      refine lv_lookup (off := 42) (tgt := 76) hx hb (z_d hX5_linesOf_0 20 rfl) (by decide) ((lv_osw hs34_3 (by decide)).trans ((lv_osw hs34_4 (by decide)).trans rfl)) (by decide) ?_
      refine lv_iload_n hx hb (z_d hX5_linesOf_0 33 rfl) rfl (lv_at hl 0 rfl) ?_
      refine lv_bipush (v := 59) hx hb (z_d hX5_linesOf_0 34 rfl) (by decide) ?_
      refine lv_iadd hx hb (z_d hX5_linesOf_0 35 rfl) ?_
      refine z_let hF (fun u8 hu8 hF => ?_)
      refine lv_topE hu8 ?_
      refine lv_bipush (v := 60) hx hb (z_d hX5_linesOf_0 36 rfl) (by decide) ?_
      refine lv_idiv hx hb (z_d hX5_linesOf_0 37 rfl) (by decide) ?_
      refine z_let hF (fun u9 hu9 hF => ?_)
      refine lv_topE hu9 ?_
      obtain rfl := hF
      subst hQ
      exact W.iret hx hb hr (fun t ht hW => zq_ro (hS.F ht)) hS.2.2 (z_d hX5_linesOf_0 38 rfl)
    · have hF := z_neg hc19 hF
      refine lv_iconst (v := 1) hx hb (z_d hX5_linesOf_0 12 rfl) (by decide) ?_
      obtain rfl := hF
      subst hQ
      exact W.iret hx hb hr (fun t ht hW => zq_ro (hS.F ht)) hS.2.2 (z_d hX5_linesOf_0 13 rfl)
def rm_X5_blanksAhead : Room := { frames := 1, cells := 0, slots := 0, locals := 21 }
set_option maxRecDepth 100000 in
set_option maxHeartbeats 4000000 in
theorem c_X5_blanksAhead (l : Launch) (Z : zZ) (As : Nat → Nat) (S : t_Script) (p1 : Int32) (R : Int32) (hF : X5_blanksAhead S p1 = R) : zRO l yX5_blanksAhead (zw yX5_blanksAhead cX5_blanksAhead 2 (some .int)) rm_X5_blanksAhead Z [.ref (As 0), .int p1] (w_Script Z.2.1 As S) (some (.int R)) := by
  refine zRO_of (by decide) (Nat.le_of_ble_eq_true rfl) (fun p e s m below meth c hx hb hr hml hown hts hlocks hK Q hQ ls hl hP hS => ?_)
  unfold X5_blanksAhead at hF
  have hl : lv_has ls 2 [(0, .ref (As 0)), (1, .int p1)] := hl
  have hown : s.vm.findClass RX5 = some m.cls := hown
  have hP : va_P Z.1 vwCl (l_Script Z.2.1 As S.1 S.2.1 S.2.2.1 S.2.2.2.1 S.2.2.2.2.1 S.2.2.2.2.2.1 S.2.2.2.2.2.2.1 S.2.2.2.2.2.2.2.1 S.2.2.2.2.2.2.2.2.1 S.2.2.2.2.2.2.2.2.2).flatten s.heap := hP
  refine lv_aload_n hx hb (z_d hX5_blanksAhead_0 0 rfl) rfl (lv_at hl 0 rfl) ?_
  refine va_get (D := Z.1) (ci := 5) (v := .ref (As 1)) (C := RX5) (T := TX5) (N := 10) hx hb hts zinX5 hown hK.1 (zP_reg hP 0 rfl) 0 rfl rfl 2 (by decide) (hts _ k_f_X5_23) (fun _ h9 => h9) rfl (z_d hX5_blanksAhead_0 1 rfl) ?_
  refine lv_iload_n hx hb (z_d hX5_blanksAhead_0 2 rfl) rfl (lv_at hl 1 rfl) ?_
  refine z_let hF (fun q1 hq1 hF => ?_)
  refine z_ro_i (z_rV (As := [.int p1]) (rest := []) hx hb hml hown hts vt_X3_at (c_rAt l Z 60 (As 1) (As 2) (by decide) S.2.2.1 p1 _ hq1) rfl rfl ⟨Nat.le_of_ble_eq_true rfl, Nat.le_of_ble_eq_true rfl⟩ k_m_X5_52 zPro_blind (z_recv (q := (RX3, TX3, 1)) (ci := 3) (q0 := 0) hK (zP_reg hP 1 rfl) rfl rfl) (z_prec hK (zP_reg hP 1 rfl)) rfl hl.1 (Nat.le_of_ble_eq_true rfl) (z_d hX5_blanksAhead_0 3 rfl) ⟨Nat.zero_le _, Nat.zero_le _⟩) hS hP (fun H locs hP hS => ?_)
  by_cases hs8_0 : q1 = 0
  · have hF := z_pos hs8_0 hF
    refine lv_tableIn (off := 28) (tgt := 36) hx hb (z_d hX5_blanksAhead_0 4 rfl) (by rw [hs8_0]; decide) (by rw [hs8_0]; decide) (by rw [hs8_0]; first | done | rfl) (by decide) ?_
    refine lv_iconst (v := 2) hx hb (z_d hX5_blanksAhead_0 5 rfl) (by decide) ?_
    obtain rfl := hF
    subst hQ
    exact W.iret hx hb hr (fun t ht hW => zq_ro (hS.F ht)) hS.2.2 (z_d hX5_blanksAhead_0 6 rfl)
  have hF := z_neg hs8_0 hF
  by_cases hs8_1 : q1 = 1
  · have hF := z_pos hs8_1 hF
    refine lv_tableIn (off := 30) (tgt := 38) hx hb (z_d hX5_blanksAhead_0 4 rfl) (by rw [hs8_1]; decide) (by rw [hs8_1]; decide) (by rw [hs8_1]; first | done | rfl) (by decide) ?_
    refine lv_iconst (v := 1) hx hb (z_d hX5_blanksAhead_0 7 rfl) (by decide) ?_
    obtain rfl := hF
    subst hQ
    exact W.iret hx hb hr (fun t ht hW => zq_ro (hS.F ht)) hS.2.2 (z_d hX5_blanksAhead_0 8 rfl)
  have hF := z_neg hs8_1 hF
  by_cases hs8_2 : q1 = 2
  · have hF := z_pos hs8_2 hF
    refine lv_tableIn (off := 30) (tgt := 38) hx hb (z_d hX5_blanksAhead_0 4 rfl) (by rw [hs8_2]; decide) (by rw [hs8_2]; decide) (by rw [hs8_2]; first | done | rfl) (by decide) ?_
    refine lv_iconst (v := 1) hx hb (z_d hX5_blanksAhead_0 7 rfl) (by decide) ?_
    obtain rfl := hF
    subst hQ
    exact W.iret hx hb hr (fun t ht hW => zq_ro (hS.F ht)) hS.2.2 (z_d hX5_blanksAhead_0 8 rfl)
  have hF := z_neg hs8_2 hF
  have n0 := lv_neT (a := 0) hs8_0 (by decide)
  have n1 := lv_neT (a := 1) hs8_1 (by decide)
  have n2 := lv_neT (a := 2) hs8_2 (by decide)
  refine lv_tableOut (tgt := 40) hx hb (z_d hX5_blanksAhead_0 4 rfl) (by omega) (by decide) ?_
  refine lv_iconst (v := 0) hx hb (z_d hX5_blanksAhead_0 9 rfl) (by decide) ?_
  obtain rfl := hF
  subst hQ
  exact W.iret hx hb hr (fun t ht hW => zq_ro (hS.F ht)) hS.2.2 (z_d hX5_blanksAhead_0 10 rfl)
def rm_X5_putIn : Room := { frames := 2, cells := 0, slots := 0, locals := 46 }
set_option maxRecDepth 100000 in
set_option maxHeartbeats 4000000 in
theorem c_X5_putIn (l : Launch) (Z : zZ) (As : Nat → Nat) (S : t_Script) (p1 : Int32) (p2 : Int32) (p3 : Int32) (p4 : Int32) (R : t_Script) (hF : X5_putIn S p1 p2 p3 p4 = R) : zMU l yX5_putIn (zw yX5_putIn cX5_putIn 5 none) rm_X5_putIn Z [.ref (As 0), .int p1, .int p2, .int p3, .int p4] (w_Script Z.2.1 As S) (w_Script Z.2.1 As R) none := by
  refine zMU_of (by decide) (Nat.le_of_ble_eq_true rfl) (fun p e s m below meth c hx hb hr hml hown hts hlocks hK A hA Q hQ ls hl hP hD hS => ?_)
  unfold X5_putIn at hF
  have hl : lv_has ls 5 [(0, .ref (As 0)), (1, .int p1), (2, .int p2), (3, .int p3), (4, .int p4)] := hl
  have hown : s.vm.findClass RX5 = some m.cls := hown
  have hP : va_P Z.1 vwCl (l_Script Z.2.1 As S.1 S.2.1 S.2.2.1 S.2.2.2.1 S.2.2.2.2.1 S.2.2.2.2.2.1 S.2.2.2.2.2.2.1 S.2.2.2.2.2.2.2.1 S.2.2.2.2.2.2.2.2.1 S.2.2.2.2.2.2.2.2.2).flatten s.heap := hP
  have hD : va_D A (l_Script Z.2.1 As S.1 S.2.1 S.2.2.1 S.2.2.2.1 S.2.2.2.2.1 S.2.2.2.2.2.1 S.2.2.2.2.2.2.1 S.2.2.2.2.2.2.2.1 S.2.2.2.2.2.2.2.2.1 S.2.2.2.2.2.2.2.2.2).flatten := hD
  refine lv_aload_n hx hb (z_d hX5_putIn_0 0 rfl) rfl (lv_at hl 0 rfl) ?_
  refine z_let hF (fun q1 hq1 hF => ?_)
  refine z_ro_i (z_rV (As := []) (rest := []) hx hb hml hown hts vt_X5_isFull (c_X5_isFull l Z As S _ hq1) rfl rfl ⟨Nat.le_of_ble_eq_true rfl, Nat.le_of_ble_eq_true rfl⟩ k_m_X5_60 zPro_blind (z_recv (q := (RX5, TX5, 10)) (ci := 5) (q0 := 0) hK (zP_reg hP 0 rfl) rfl rfl) (z_prec hK hP) rfl hl.1 (Nat.le_of_ble_eq_true rfl) (z_d hX5_putIn_0 1 rfl) ⟨Nat.zero_le _, Nat.zero_le _⟩) hS hP (fun H locs hP hS => ?_)
  refine lv_if_eq (tgt := 8) hx hb (z_d hX5_putIn_0 2 rfl) (by decide) (fun hc4 => ?_) (fun hc4 => ?_)
  · have hF := z_pos hc4 hF
    refine lv_aload_n hx hb (z_d hX5_putIn_0 4 rfl) rfl (lv_at hl 0 rfl) ?_
    refine va_get (D := Z.1) (ci := 5) (v := .ref (As 1)) (C := RX5) (T := TX5) (N := 10) hx hb hts zinX5 hown hK.1 (zP_reg hP 0 rfl) 0 rfl rfl 2 (by decide) (hts _ k_f_X5_23) (fun _ h9 => h9) rfl (z_d hX5_putIn_0 5 rfl) ?_
    refine lv_iload_n hx hb (z_d hX5_putIn_0 6 rfl) rfl (lv_at hl 1 rfl) ?_
    refine lv_iload_n hx hb (z_d hX5_putIn_0 7 rfl) rfl (lv_at hl 2 rfl) ?_
    refine z_let hF (fun q2 hq2 hF => ?_)
    refine z_mu1 (L := l_Script Z.2.1 As S.1 S.2.1 S.2.2.1 S.2.2.2.1 S.2.2.2.2.1 S.2.2.2.2.2.1 S.2.2.2.2.2.2.1 S.2.2.2.2.2.2.2.1 S.2.2.2.2.2.2.2.2.1 S.2.2.2.2.2.2.2.2.2) (L' := l_Script Z.2.1 As S.1 S.2.1 q2 S.2.2.2.1 S.2.2.2.2.1 S.2.2.2.2.2.1 S.2.2.2.2.2.2.1 S.2.2.2.2.2.2.2.1 S.2.2.2.2.2.2.2.2.1 S.2.2.2.2.2.2.2.2.2) (z_rV (As := [.int p1, .int p2]) (rest := []) hx hb hml hown hts vt_X3_openAt (c_rOpen l Z 60 (As 1) (As 2) (by decide) S.2.2.1 p1 p2 _ hq2) rfl rfl ⟨Nat.le_of_ble_eq_true rfl, Nat.le_of_ble_eq_true rfl⟩ k_m_X5_64 zPmu_blind (z_recv (q := (RX3, TX3, 1)) (ci := 3) (q0 := 0) hK (zP_reg hP 1 rfl) rfl rfl) (z_prem hK (zP_reg hP 1 rfl) (zD_one hD 1 _ rfl)) rfl hl.1 (Nat.le_of_ble_eq_true rfl) (z_d hX5_putIn_0 8 rfl) ⟨Nat.zero_le _, Nat.zero_le _⟩) hS hP hD 1 rfl rfl rfl (fun H locs hP hD hS => ?_)
    refine W.eq (g2 := F0 m 17 ls []) rfl ?_
    refine lv_aload_n hx hb (z_d hX5_putIn_0 9 rfl) rfl (lv_at hl 0 rfl) ?_
    refine va_get (D := Z.1) (ci := 5) (v := .ref (As 3)) (C := RX5) (T := TX5) (N := 10) hx hb hts zinX5 hown hK.1 (zP_reg hP 0 rfl) 0 rfl rfl 3 (by decide) (hts _ k_f_X5_27) (fun _ h9 => h9) rfl (z_d hX5_putIn_0 10 rfl) ?_
    refine lv_iload_n hx hb (z_d hX5_putIn_0 11 rfl) rfl (lv_at hl 1 rfl) ?_
    refine lv_iload_n hx hb (z_d hX5_putIn_0 12 rfl) rfl (lv_at hl 3 rfl) ?_
    refine z_let hF (fun q3 hq3 hF => ?_)
    refine z_mu1 (L := l_Script Z.2.1 As S.1 S.2.1 q2 S.2.2.2.1 S.2.2.2.2.1 S.2.2.2.2.2.1 S.2.2.2.2.2.2.1 S.2.2.2.2.2.2.2.1 S.2.2.2.2.2.2.2.2.1 S.2.2.2.2.2.2.2.2.2) (L' := l_Script Z.2.1 As S.1 S.2.1 q2 q3 S.2.2.2.2.1 S.2.2.2.2.2.1 S.2.2.2.2.2.2.1 S.2.2.2.2.2.2.2.1 S.2.2.2.2.2.2.2.2.1 S.2.2.2.2.2.2.2.2.2) (z_rV (As := [.int p1, .int p3]) (rest := []) hx hb hml hown hts vt_X3_openAt (c_rOpen l Z 60 (As 3) (As 4) (by decide) S.2.2.2.1 p1 p3 _ hq3) rfl rfl ⟨Nat.le_of_ble_eq_true rfl, Nat.le_of_ble_eq_true rfl⟩ k_m_X5_64 zPmu_blind (z_recv (q := (RX3, TX3, 1)) (ci := 3) (q0 := 0) hK (zP_reg hP 2 rfl) rfl rfl) (z_prem hK (zP_reg hP 2 rfl) (zD_one hD 2 _ rfl)) rfl hl.1 (Nat.le_of_ble_eq_true rfl) (z_d hX5_putIn_0 13 rfl) ⟨Nat.zero_le _, Nat.zero_le _⟩) hS hP hD 2 rfl rfl rfl (fun H locs hP hD hS => ?_)
    refine W.eq (g2 := F0 m 26 ls []) rfl ?_
    refine lv_aload_n hx hb (z_d hX5_putIn_0 14 rfl) rfl (lv_at hl 0 rfl) ?_
    refine va_get (D := Z.1) (ci := 5) (v := .ref (As 5)) (C := RX5) (T := TX5) (N := 10) hx hb hts zinX5 hown hK.1 (zP_reg hP 0 rfl) 0 rfl rfl 4 (by decide) (hts _ k_f_X5_30) (fun _ h9 => h9) rfl (z_d hX5_putIn_0 15 rfl) ?_
    refine lv_iload_n hx hb (z_d hX5_putIn_0 16 rfl) rfl (lv_at hl 1 rfl) ?_
    refine lv_iload hx hb (z_d hX5_putIn_0 17 rfl) (lv_at hl 4 rfl) ?_
    refine z_let hF (fun q4 hq4 hF => ?_)
    refine z_mu1 (L := l_Script Z.2.1 As S.1 S.2.1 q2 q3 S.2.2.2.2.1 S.2.2.2.2.2.1 S.2.2.2.2.2.2.1 S.2.2.2.2.2.2.2.1 S.2.2.2.2.2.2.2.2.1 S.2.2.2.2.2.2.2.2.2) (L' := l_Script Z.2.1 As S.1 S.2.1 q2 q3 q4 S.2.2.2.2.2.1 S.2.2.2.2.2.2.1 S.2.2.2.2.2.2.2.1 S.2.2.2.2.2.2.2.2.1 S.2.2.2.2.2.2.2.2.2) (z_rV (As := [.int p1, .int p4]) (rest := []) hx hb hml hown hts vt_X3_openAt (c_rOpen l Z 60 (As 5) (As 6) (by decide) S.2.2.2.2.1 p1 p4 _ hq4) rfl rfl ⟨Nat.le_of_ble_eq_true rfl, Nat.le_of_ble_eq_true rfl⟩ k_m_X5_64 zPmu_blind (z_recv (q := (RX3, TX3, 1)) (ci := 3) (q0 := 0) hK (zP_reg hP 3 rfl) rfl rfl) (z_prem hK (zP_reg hP 3 rfl) (zD_one hD 3 _ rfl)) rfl hl.1 (Nat.le_of_ble_eq_true rfl) (z_d hX5_putIn_0 18 rfl) ⟨Nat.zero_le _, Nat.zero_le _⟩) hS hP hD 3 rfl rfl rfl (fun H locs hP hD hS => ?_)
    refine W.eq (g2 := F0 m 36 ls []) rfl ?_
    refine lv_aload_n hx hb (z_d hX5_putIn_0 19 rfl) rfl (lv_at hl 0 rfl) ?_
    refine va_get (D := Z.1) (ci := 5) (v := .ref (As 7)) (C := RX5) (T := TX5) (N := 10) hx hb hts zinX5 hown hK.1 (zP_reg hP 0 rfl) 0 rfl rfl 5 (by decide) (hts _ k_f_X5_33) (fun _ h9 => h9) rfl (z_d hX5_putIn_0 20 rfl) ?_
    refine lv_iload_n hx hb (z_d hX5_putIn_0 21 rfl) rfl (lv_at hl 1 rfl) ?_
    refine lv_iconst (v := (-1)) hx hb (z_d hX5_putIn_0 22 rfl) (by decide) ?_
    refine z_let hF (fun q5 hq5 hF => ?_)
    refine z_mu1 (L := l_Script Z.2.1 As S.1 S.2.1 q2 q3 q4 S.2.2.2.2.2.1 S.2.2.2.2.2.2.1 S.2.2.2.2.2.2.2.1 S.2.2.2.2.2.2.2.2.1 S.2.2.2.2.2.2.2.2.2) (L' := l_Script Z.2.1 As S.1 S.2.1 q2 q3 q4 q5 S.2.2.2.2.2.2.1 S.2.2.2.2.2.2.2.1 S.2.2.2.2.2.2.2.2.1 S.2.2.2.2.2.2.2.2.2) (z_rV (As := [.int p1, .int (-1)]) (rest := []) hx hb hml hown hts vt_X3_openAt (c_rOpen l Z 60 (As 7) (As 8) (by decide) S.2.2.2.2.2.1 p1 (-1) _ hq5) rfl rfl ⟨Nat.le_of_ble_eq_true rfl, Nat.le_of_ble_eq_true rfl⟩ k_m_X5_64 zPmu_blind (z_recv (q := (RX3, TX3, 1)) (ci := 3) (q0 := 0) hK (zP_reg hP 4 rfl) rfl rfl) (z_prem hK (zP_reg hP 4 rfl) (zD_one hD 4 _ rfl)) rfl hl.1 (Nat.le_of_ble_eq_true rfl) (z_d hX5_putIn_0 23 rfl) ⟨Nat.zero_le _, Nat.zero_le _⟩) hS hP hD 4 rfl rfl rfl (fun H locs hP hD hS => ?_)
    refine W.eq (g2 := F0 m 45 ls []) rfl ?_
    refine lv_aload_n hx hb (z_d hX5_putIn_0 24 rfl) rfl (lv_at hl 0 rfl) ?_
    refine va_get (D := Z.1) (ci := 5) (v := .ref (As 9)) (C := RX5) (T := TX5) (N := 10) hx hb hts zinX5 hown hK.1 (zP_reg hP 0 rfl) 0 rfl rfl 6 (by decide) (hts _ k_f_X5_36) (fun _ h9 => h9) rfl (z_d hX5_putIn_0 25 rfl) ?_
    refine lv_iload_n hx hb (z_d hX5_putIn_0 26 rfl) rfl (lv_at hl 1 rfl) ?_
    refine lv_iconst (v := 0) hx hb (z_d hX5_putIn_0 27 rfl) (by decide) ?_
    refine z_let hF (fun q6 hq6 hF => ?_)
    refine z_mu1 (L := l_Script Z.2.1 As S.1 S.2.1 q2 q3 q4 q5 S.2.2.2.2.2.2.1 S.2.2.2.2.2.2.2.1 S.2.2.2.2.2.2.2.2.1 S.2.2.2.2.2.2.2.2.2) (L' := l_Script Z.2.1 As S.1 S.2.1 q2 q3 q4 q5 q6 S.2.2.2.2.2.2.2.1 S.2.2.2.2.2.2.2.2.1 S.2.2.2.2.2.2.2.2.2) (z_rV (As := [.int p1, .int 0]) (rest := []) hx hb hml hown hts vt_X3_openAt (c_rOpen l Z 60 (As 9) (As 10) (by decide) S.2.2.2.2.2.2.1 p1 0 _ hq6) rfl rfl ⟨Nat.le_of_ble_eq_true rfl, Nat.le_of_ble_eq_true rfl⟩ k_m_X5_64 zPmu_blind (z_recv (q := (RX3, TX3, 1)) (ci := 3) (q0 := 0) hK (zP_reg hP 5 rfl) rfl rfl) (z_prem hK (zP_reg hP 5 rfl) (zD_one hD 5 _ rfl)) rfl hl.1 (Nat.le_of_ble_eq_true rfl) (z_d hX5_putIn_0 28 rfl) ⟨Nat.zero_le _, Nat.zero_le _⟩) hS hP hD 5 rfl rfl rfl (fun H locs hP hD hS => ?_)
    refine W.eq (g2 := F0 m 54 ls []) rfl ?_
    refine lv_aload_n hx hb (z_d hX5_putIn_0 29 rfl) rfl (lv_at hl 0 rfl) ?_
    refine va_get (D := Z.1) (ci := 5) (v := .ref (As 11)) (C := RX5) (T := TX5) (N := 10) hx hb hts zinX5 hown hK.1 (zP_reg hP 0 rfl) 0 rfl rfl 7 (by decide) (hts _ k_f_X5_39) (fun _ h9 => h9) rfl (z_d hX5_putIn_0 30 rfl) ?_
    refine lv_iload_n hx hb (z_d hX5_putIn_0 31 rfl) rfl (lv_at hl 1 rfl) ?_
    refine lv_iconst (v := 0) hx hb (z_d hX5_putIn_0 32 rfl) (by decide) ?_
    refine z_let hF (fun q7 hq7 hF => ?_)
    refine z_mu1 (L := l_Script Z.2.1 As S.1 S.2.1 q2 q3 q4 q5 q6 S.2.2.2.2.2.2.2.1 S.2.2.2.2.2.2.2.2.1 S.2.2.2.2.2.2.2.2.2) (L' := l_Script Z.2.1 As S.1 S.2.1 q2 q3 q4 q5 q6 q7 S.2.2.2.2.2.2.2.2.1 S.2.2.2.2.2.2.2.2.2) (z_rV (As := [.int p1, .int 0]) (rest := []) hx hb hml hown hts vt_X3_openAt (c_rOpen l Z 60 (As 11) (As 12) (by decide) S.2.2.2.2.2.2.2.1 p1 0 _ hq7) rfl rfl ⟨Nat.le_of_ble_eq_true rfl, Nat.le_of_ble_eq_true rfl⟩ k_m_X5_64 zPmu_blind (z_recv (q := (RX3, TX3, 1)) (ci := 3) (q0 := 0) hK (zP_reg hP 6 rfl) rfl rfl) (z_prem hK (zP_reg hP 6 rfl) (zD_one hD 6 _ rfl)) rfl hl.1 (Nat.le_of_ble_eq_true rfl) (z_d hX5_putIn_0 33 rfl) ⟨Nat.zero_le _, Nat.zero_le _⟩) hS hP hD 6 rfl rfl rfl (fun H locs hP hD hS => ?_)
    refine W.eq (g2 := F0 m 63 ls []) rfl ?_
    refine lv_aload_n hx hb (z_d hX5_putIn_0 34 rfl) rfl (lv_at hl 0 rfl) ?_
    refine va_get (D := Z.1) (ci := 5) (v := .ref (As 13)) (C := RX5) (T := TX5) (N := 10) hx hb hts zinX5 hown hK.1 (zP_reg hP 0 rfl) 0 rfl rfl 8 (by decide) (hts _ k_f_X5_42) (fun _ h9 => h9) rfl (z_d hX5_putIn_0 35 rfl) ?_
    refine lv_iload_n hx hb (z_d hX5_putIn_0 36 rfl) rfl (lv_at hl 1 rfl) ?_
    refine lv_iconst (v := 0) hx hb (z_d hX5_putIn_0 37 rfl) (by decide) ?_
    refine z_let hF (fun q8 hq8 hF => ?_)
    refine z_mu1 (L := l_Script Z.2.1 As S.1 S.2.1 q2 q3 q4 q5 q6 q7 S.2.2.2.2.2.2.2.2.1 S.2.2.2.2.2.2.2.2.2) (L' := l_Script Z.2.1 As S.1 S.2.1 q2 q3 q4 q5 q6 q7 q8 S.2.2.2.2.2.2.2.2.2) (z_rV (As := [.int p1, .int 0]) (rest := []) hx hb hml hown hts vt_X3_openAt (c_rOpen l Z 60 (As 13) (As 14) (by decide) S.2.2.2.2.2.2.2.2.1 p1 0 _ hq8) rfl rfl ⟨Nat.le_of_ble_eq_true rfl, Nat.le_of_ble_eq_true rfl⟩ k_m_X5_64 zPmu_blind (z_recv (q := (RX3, TX3, 1)) (ci := 3) (q0 := 0) hK (zP_reg hP 7 rfl) rfl rfl) (z_prem hK (zP_reg hP 7 rfl) (zD_one hD 7 _ rfl)) rfl hl.1 (Nat.le_of_ble_eq_true rfl) (z_d hX5_putIn_0 38 rfl) ⟨Nat.zero_le _, Nat.zero_le _⟩) hS hP hD 7 rfl rfl rfl (fun H locs hP hD hS => ?_)
    refine W.eq (g2 := F0 m 72 ls []) rfl ?_
    refine lv_aload_n hx hb (z_d hX5_putIn_0 39 rfl) rfl (lv_at hl 0 rfl) ?_
    refine va_get (D := Z.1) (ci := 5) (v := .ref (As 15)) (C := RX5) (T := TX5) (N := 10) hx hb hts zinX5 hown hK.1 (zP_reg hP 0 rfl) 0 rfl rfl 9 (by decide) (hts _ k_f_X5_45) (fun _ h9 => h9) rfl (z_d hX5_putIn_0 40 rfl) ?_
    refine lv_iload_n hx hb (z_d hX5_putIn_0 41 rfl) rfl (lv_at hl 1 rfl) ?_
    refine lv_iconst (v := 0) hx hb (z_d hX5_putIn_0 42 rfl) (by decide) ?_
    refine z_let hF (fun q9 hq9 hF => ?_)
    refine z_mu1 (L := l_Script Z.2.1 As S.1 S.2.1 q2 q3 q4 q5 q6 q7 q8 S.2.2.2.2.2.2.2.2.2) (L' := l_Script Z.2.1 As S.1 S.2.1 q2 q3 q4 q5 q6 q7 q8 q9) (z_rV (As := [.int p1, .int 0]) (rest := []) hx hb hml hown hts vt_X3_openAt (c_rOpen l Z 60 (As 15) (As 16) (by decide) S.2.2.2.2.2.2.2.2.2 p1 0 _ hq9) rfl rfl ⟨Nat.le_of_ble_eq_true rfl, Nat.le_of_ble_eq_true rfl⟩ k_m_X5_64 zPmu_blind (z_recv (q := (RX3, TX3, 1)) (ci := 3) (q0 := 0) hK (zP_reg hP 8 rfl) rfl rfl) (z_prem hK (zP_reg hP 8 rfl) (zD_one hD 8 _ rfl)) rfl hl.1 (Nat.le_of_ble_eq_true rfl) (z_d hX5_putIn_0 43 rfl) ⟨Nat.zero_le _, Nat.zero_le _⟩) hS hP hD 8 rfl rfl rfl (fun H locs hP hD hS => ?_)
    refine W.eq (g2 := F0 m 81 ls []) rfl ?_
    refine lv_aload_n hx hb (z_d hX5_putIn_0 44 rfl) rfl (lv_at hl 0 rfl) ?_
    refine lv_dup hx hb (z_d hX5_putIn_0 45 rfl) rfl ?_
    refine va_get (D := Z.1) (ci := 5) (v := .int S.1) (C := RX5) (T := TX5) (N := 10) hx hb hts zinX5 hown hK.1 (zP_reg hP 0 rfl) 0 rfl rfl 0 (by decide) (hts _ k_f_X5_9) (fun _ h9 => h9) rfl (z_d hX5_putIn_0 46 rfl) ?_
    refine lv_iconst (v := 1) hx hb (z_d hX5_putIn_0 47 rfl) (by decide) ?_
    refine lv_iadd hx hb (z_d hX5_putIn_0 48 rfl) ?_
    refine z_let hF (fun u10 hu10 hF => ?_)
    refine lv_topE hu10 ?_
    refine z_put (Z := Z) (ci := 5) (v := .int u10) (ty := .int) (L := l_Script Z.2.1 As S.1 S.2.1 q2 q3 q4 q5 q6 q7 q8 q9) (L' := l_Script Z.2.1 As u10 S.2.1 q2 q3 q4 q5 q6 q7 q8 q9) (C := RX5) (T := TX5) (N := 10) hx hb hts zinX5 tyX5 tyX5_ok nmX5 hown hK hP hD hS 0 rfl rfl 0 (by decide) (hts _ k_f_X5_9) (fun _ h9 => h9) rfl (tyX5_ok 0 (by decide)) rfl rfl (Nat.le_of_ble_eq_true rfl) rfl (z_d hX5_putIn_0 49 rfl) (fun H locs hP hD hS => ?_)
    obtain rfl := hF
    subst hQ
    subst hA
    exact W.vret hx hb hr (fun t ht hW => zq_mu (by rw [ht]; exact hP) (hS.F ht)) hS.2.2 (z_d hX5_putIn_0 50 rfl)
  · have hF := z_neg hc4 hF
    obtain rfl := hF
    subst hQ
    subst hA
    exact W.vret hx hb hr (fun t ht hW => zq_mu (by rw [ht]; exact hP) (hS.F ht)) hS.2.2 (z_d hX5_putIn_0 3 rfl)
def rm_X5_takeOut : Room := { frames := 2, cells := 0, slots := 0, locals := 42 }
set_option maxRecDepth 100000 in
set_option maxHeartbeats 4000000 in
theorem c_X5_takeOut (l : Launch) (Z : zZ) (As : Nat → Nat) (S : t_Script) (p1 : Int32) (R : t_Script) (hF : X5_takeOut S p1 = some R) : zMU l yX5_takeOut (zw yX5_takeOut cX5_takeOut 3 none) rm_X5_takeOut Z [.ref (As 0), .int p1] (w_Script Z.2.1 As S) (w_Script Z.2.1 As R) none := by
  refine zMU_of (by decide) (Nat.le_of_ble_eq_true rfl) (fun p e s m below meth c hx hb hr hml hown hts hlocks hK A hA Q hQ ls hl hP hD hS => ?_)
  unfold X5_takeOut at hF
  have hl : lv_has ls 3 [(0, .ref (As 0)), (1, .int p1)] := hl
  have hown : s.vm.findClass RX5 = some m.cls := hown
  have hP : va_P Z.1 vwCl (l_Script Z.2.1 As S.1 S.2.1 S.2.2.1 S.2.2.2.1 S.2.2.2.2.1 S.2.2.2.2.2.1 S.2.2.2.2.2.2.1 S.2.2.2.2.2.2.2.1 S.2.2.2.2.2.2.2.2.1 S.2.2.2.2.2.2.2.2.2).flatten s.heap := hP
  have hD : va_D A (l_Script Z.2.1 As S.1 S.2.1 S.2.2.1 S.2.2.2.1 S.2.2.2.2.1 S.2.2.2.2.2.1 S.2.2.2.2.2.2.1 S.2.2.2.2.2.2.2.1 S.2.2.2.2.2.2.2.2.1 S.2.2.2.2.2.2.2.2.2).flatten := hD
  refine lv_aload_n hx hb (z_d hX5_takeOut_0 0 rfl) rfl (lv_at hl 0 rfl) ?_
  refine lv_iload_n hx hb (z_d hX5_takeOut_0 1 rfl) rfl (lv_at hl 1 rfl) ?_
  refine z_let hF (fun q1 hq1 hF => ?_)
  refine z_ro_i (z_rV (As := [.int p1]) (rest := []) hx hb hml hown hts vt_X5_has (c_X5_has l Z As S p1 _ hq1) rfl rfl ⟨Nat.le_of_ble_eq_true rfl, Nat.le_of_ble_eq_true rfl⟩ k_m_X5_68 zPro_blind (z_recv (q := (RX5, TX5, 10)) (ci := 5) (q0 := 0) hK (zP_reg hP 0 rfl) rfl rfl) (z_prec hK hP) rfl hl.1 (Nat.le_of_ble_eq_true rfl) (z_d hX5_takeOut_0 2 rfl) ⟨Nat.zero_le _, Nat.zero_le _⟩) hS hP (fun H locs hP hS => ?_)
  refine lv_if_ne (tgt := 9) hx hb (z_d hX5_takeOut_0 3 rfl) (by decide) (fun hc5 => ?_) (fun hc5 => ?_)
  · have hF := z_neg hc5 hF
    refine lv_aload_n hx hb (z_d hX5_takeOut_0 5 rfl) rfl (lv_at hl 0 rfl) ?_
    refine va_get (D := Z.1) (ci := 5) (v := .ref (As 7)) (C := RX5) (T := TX5) (N := 10) hx hb hts zinX5 hown hK.1 (zP_reg hP 0 rfl) 0 rfl rfl 5 (by decide) (hts _ k_f_X5_33) (fun _ h9 => h9) rfl (z_d hX5_takeOut_0 6 rfl) ?_
    refine lv_iload_n hx hb (z_d hX5_takeOut_0 7 rfl) rfl (lv_at hl 1 rfl) ?_
    refine z_let hF (fun q2 hq2 hF => ?_)
    refine z_ro_i (z_rV (As := [.int p1]) (rest := []) hx hb hml hown hts vt_X3_at (c_rAt l Z 60 (As 7) (As 8) (by decide) S.2.2.2.2.2.1 p1 _ hq2) rfl rfl ⟨Nat.le_of_ble_eq_true rfl, Nat.le_of_ble_eq_true rfl⟩ k_m_X5_52 zPro_blind (z_recv (q := (RX3, TX3, 1)) (ci := 3) (q0 := 0) hK (zP_reg hP 4 rfl) rfl rfl) (z_prec hK (zP_reg hP 4 rfl)) rfl hl.1 (Nat.le_of_ble_eq_true rfl) (z_d hX5_takeOut_0 8 rfl) ⟨Nat.zero_le _, Nat.zero_le _⟩) hS hP (fun H locs hP hS => ?_)
    refine lv_istore_n (lv' := [(2, .int q2), (0, .ref (As 0)), (1, .int p1)]) hx hb (z_d hX5_takeOut_0 9 rfl) rfl hl (by decide) rfl (fun ls hl => ?_)
    refine lv_aload_n hx hb (z_d hX5_takeOut_0 10 rfl) rfl (lv_at hl 1 rfl) ?_
    refine va_get (D := Z.1) (ci := 5) (v := .ref (As 1)) (C := RX5) (T := TX5) (N := 10) hx hb hts zinX5 hown hK.1 (zP_reg hP 0 rfl) 0 rfl rfl 2 (by decide) (hts _ k_f_X5_23) (fun _ h9 => h9) rfl (z_d hX5_takeOut_0 11 rfl) ?_
    refine lv_iload_n hx hb (z_d hX5_takeOut_0 12 rfl) rfl (lv_at hl 2 rfl) ?_
    refine z_bnd hF (fun q3 hq3 hF => ?_)
    refine z_mu1 (L := l_Script Z.2.1 As S.1 S.2.1 S.2.2.1 S.2.2.2.1 S.2.2.2.2.1 S.2.2.2.2.2.1 S.2.2.2.2.2.2.1 S.2.2.2.2.2.2.2.1 S.2.2.2.2.2.2.2.2.1 S.2.2.2.2.2.2.2.2.2) (L' := l_Script Z.2.1 As S.1 S.2.1 q3 S.2.2.2.1 S.2.2.2.2.1 S.2.2.2.2.2.1 S.2.2.2.2.2.2.1 S.2.2.2.2.2.2.2.1 S.2.2.2.2.2.2.2.2.1 S.2.2.2.2.2.2.2.2.2) (z_rV (As := [.int p1]) (rest := []) hx hb hml hown hts vt_X3_closeAt (c_X3_closeAt l Z 60 (As 1) (As 2) S.2.2.1 p1 _ hq3) rfl rfl ⟨Nat.le_of_ble_eq_true rfl, Nat.le_of_ble_eq_true rfl⟩ k_m_X5_71 zPmu_blind (z_recv (q := (RX3, TX3, 1)) (ci := 3) (q0 := 0) hK (zP_reg hP 1 rfl) rfl rfl) (z_prem hK (zP_reg hP 1 rfl) (zD_one hD 1 _ rfl)) rfl hl.1 (Nat.le_of_ble_eq_true rfl) (z_d hX5_takeOut_0 13 rfl) ⟨Nat.zero_le _, Nat.zero_le _⟩) hS hP hD 1 rfl rfl rfl (fun H locs hP hD hS => ?_)
    refine W.eq (g2 := F0 m 26 ls []) rfl ?_
    refine lv_aload_n hx hb (z_d hX5_takeOut_0 14 rfl) rfl (lv_at hl 1 rfl) ?_
    refine va_get (D := Z.1) (ci := 5) (v := .ref (As 3)) (C := RX5) (T := TX5) (N := 10) hx hb hts zinX5 hown hK.1 (zP_reg hP 0 rfl) 0 rfl rfl 3 (by decide) (hts _ k_f_X5_27) (fun _ h9 => h9) rfl (z_d hX5_takeOut_0 15 rfl) ?_
    refine lv_iload_n hx hb (z_d hX5_takeOut_0 16 rfl) rfl (lv_at hl 2 rfl) ?_
    refine z_bnd hF (fun q4 hq4 hF => ?_)
    refine z_mu1 (L := l_Script Z.2.1 As S.1 S.2.1 q3 S.2.2.2.1 S.2.2.2.2.1 S.2.2.2.2.2.1 S.2.2.2.2.2.2.1 S.2.2.2.2.2.2.2.1 S.2.2.2.2.2.2.2.2.1 S.2.2.2.2.2.2.2.2.2) (L' := l_Script Z.2.1 As S.1 S.2.1 q3 q4 S.2.2.2.2.1 S.2.2.2.2.2.1 S.2.2.2.2.2.2.1 S.2.2.2.2.2.2.2.1 S.2.2.2.2.2.2.2.2.1 S.2.2.2.2.2.2.2.2.2) (z_rV (As := [.int p1]) (rest := []) hx hb hml hown hts vt_X3_closeAt (c_X3_closeAt l Z 60 (As 3) (As 4) S.2.2.2.1 p1 _ hq4) rfl rfl ⟨Nat.le_of_ble_eq_true rfl, Nat.le_of_ble_eq_true rfl⟩ k_m_X5_71 zPmu_blind (z_recv (q := (RX3, TX3, 1)) (ci := 3) (q0 := 0) hK (zP_reg hP 2 rfl) rfl rfl) (z_prem hK (zP_reg hP 2 rfl) (zD_one hD 2 _ rfl)) rfl hl.1 (Nat.le_of_ble_eq_true rfl) (z_d hX5_takeOut_0 17 rfl) ⟨Nat.zero_le _, Nat.zero_le _⟩) hS hP hD 2 rfl rfl rfl (fun H locs hP hD hS => ?_)
    refine W.eq (g2 := F0 m 34 ls []) rfl ?_
    refine lv_aload_n hx hb (z_d hX5_takeOut_0 18 rfl) rfl (lv_at hl 1 rfl) ?_
    refine va_get (D := Z.1) (ci := 5) (v := .ref (As 5)) (C := RX5) (T := TX5) (N := 10) hx hb hts zinX5 hown hK.1 (zP_reg hP 0 rfl) 0 rfl rfl 4 (by decide) (hts _ k_f_X5_30) (fun _ h9 => h9) rfl (z_d hX5_takeOut_0 19 rfl) ?_
    refine lv_iload_n hx hb (z_d hX5_takeOut_0 20 rfl) rfl (lv_at hl 2 rfl) ?_
    refine z_bnd hF (fun q5 hq5 hF => ?_)
    refine z_mu1 (L := l_Script Z.2.1 As S.1 S.2.1 q3 q4 S.2.2.2.2.1 S.2.2.2.2.2.1 S.2.2.2.2.2.2.1 S.2.2.2.2.2.2.2.1 S.2.2.2.2.2.2.2.2.1 S.2.2.2.2.2.2.2.2.2) (L' := l_Script Z.2.1 As S.1 S.2.1 q3 q4 q5 S.2.2.2.2.2.1 S.2.2.2.2.2.2.1 S.2.2.2.2.2.2.2.1 S.2.2.2.2.2.2.2.2.1 S.2.2.2.2.2.2.2.2.2) (z_rV (As := [.int p1]) (rest := []) hx hb hml hown hts vt_X3_closeAt (c_X3_closeAt l Z 60 (As 5) (As 6) S.2.2.2.2.1 p1 _ hq5) rfl rfl ⟨Nat.le_of_ble_eq_true rfl, Nat.le_of_ble_eq_true rfl⟩ k_m_X5_71 zPmu_blind (z_recv (q := (RX3, TX3, 1)) (ci := 3) (q0 := 0) hK (zP_reg hP 3 rfl) rfl rfl) (z_prem hK (zP_reg hP 3 rfl) (zD_one hD 3 _ rfl)) rfl hl.1 (Nat.le_of_ble_eq_true rfl) (z_d hX5_takeOut_0 21 rfl) ⟨Nat.zero_le _, Nat.zero_le _⟩) hS hP hD 3 rfl rfl rfl (fun H locs hP hD hS => ?_)
    refine W.eq (g2 := F0 m 42 ls []) rfl ?_
    refine lv_aload_n hx hb (z_d hX5_takeOut_0 22 rfl) rfl (lv_at hl 1 rfl) ?_
    refine va_get (D := Z.1) (ci := 5) (v := .ref (As 7)) (C := RX5) (T := TX5) (N := 10) hx hb hts zinX5 hown hK.1 (zP_reg hP 0 rfl) 0 rfl rfl 5 (by decide) (hts _ k_f_X5_33) (fun _ h9 => h9) rfl (z_d hX5_takeOut_0 23 rfl) ?_
    refine lv_iload_n hx hb (z_d hX5_takeOut_0 24 rfl) rfl (lv_at hl 2 rfl) ?_
    refine z_bnd hF (fun q6 hq6 hF => ?_)
    refine z_mu1 (L := l_Script Z.2.1 As S.1 S.2.1 q3 q4 q5 S.2.2.2.2.2.1 S.2.2.2.2.2.2.1 S.2.2.2.2.2.2.2.1 S.2.2.2.2.2.2.2.2.1 S.2.2.2.2.2.2.2.2.2) (L' := l_Script Z.2.1 As S.1 S.2.1 q3 q4 q5 q6 S.2.2.2.2.2.2.1 S.2.2.2.2.2.2.2.1 S.2.2.2.2.2.2.2.2.1 S.2.2.2.2.2.2.2.2.2) (z_rV (As := [.int p1]) (rest := []) hx hb hml hown hts vt_X3_closeAt (c_X3_closeAt l Z 60 (As 7) (As 8) S.2.2.2.2.2.1 p1 _ hq6) rfl rfl ⟨Nat.le_of_ble_eq_true rfl, Nat.le_of_ble_eq_true rfl⟩ k_m_X5_71 zPmu_blind (z_recv (q := (RX3, TX3, 1)) (ci := 3) (q0 := 0) hK (zP_reg hP 4 rfl) rfl rfl) (z_prem hK (zP_reg hP 4 rfl) (zD_one hD 4 _ rfl)) rfl hl.1 (Nat.le_of_ble_eq_true rfl) (z_d hX5_takeOut_0 25 rfl) ⟨Nat.zero_le _, Nat.zero_le _⟩) hS hP hD 4 rfl rfl rfl (fun H locs hP hD hS => ?_)
    refine W.eq (g2 := F0 m 50 ls []) rfl ?_
    refine lv_aload_n hx hb (z_d hX5_takeOut_0 26 rfl) rfl (lv_at hl 1 rfl) ?_
    refine va_get (D := Z.1) (ci := 5) (v := .ref (As 9)) (C := RX5) (T := TX5) (N := 10) hx hb hts zinX5 hown hK.1 (zP_reg hP 0 rfl) 0 rfl rfl 6 (by decide) (hts _ k_f_X5_36) (fun _ h9 => h9) rfl (z_d hX5_takeOut_0 27 rfl) ?_
    refine lv_iload_n hx hb (z_d hX5_takeOut_0 28 rfl) rfl (lv_at hl 2 rfl) ?_
    refine z_bnd hF (fun q7 hq7 hF => ?_)
    refine z_mu1 (L := l_Script Z.2.1 As S.1 S.2.1 q3 q4 q5 q6 S.2.2.2.2.2.2.1 S.2.2.2.2.2.2.2.1 S.2.2.2.2.2.2.2.2.1 S.2.2.2.2.2.2.2.2.2) (L' := l_Script Z.2.1 As S.1 S.2.1 q3 q4 q5 q6 q7 S.2.2.2.2.2.2.2.1 S.2.2.2.2.2.2.2.2.1 S.2.2.2.2.2.2.2.2.2) (z_rV (As := [.int p1]) (rest := []) hx hb hml hown hts vt_X3_closeAt (c_X3_closeAt l Z 60 (As 9) (As 10) S.2.2.2.2.2.2.1 p1 _ hq7) rfl rfl ⟨Nat.le_of_ble_eq_true rfl, Nat.le_of_ble_eq_true rfl⟩ k_m_X5_71 zPmu_blind (z_recv (q := (RX3, TX3, 1)) (ci := 3) (q0 := 0) hK (zP_reg hP 5 rfl) rfl rfl) (z_prem hK (zP_reg hP 5 rfl) (zD_one hD 5 _ rfl)) rfl hl.1 (Nat.le_of_ble_eq_true rfl) (z_d hX5_takeOut_0 29 rfl) ⟨Nat.zero_le _, Nat.zero_le _⟩) hS hP hD 5 rfl rfl rfl (fun H locs hP hD hS => ?_)
    refine W.eq (g2 := F0 m 58 ls []) rfl ?_
    refine lv_aload_n hx hb (z_d hX5_takeOut_0 30 rfl) rfl (lv_at hl 1 rfl) ?_
    refine va_get (D := Z.1) (ci := 5) (v := .ref (As 11)) (C := RX5) (T := TX5) (N := 10) hx hb hts zinX5 hown hK.1 (zP_reg hP 0 rfl) 0 rfl rfl 7 (by decide) (hts _ k_f_X5_39) (fun _ h9 => h9) rfl (z_d hX5_takeOut_0 31 rfl) ?_
    refine lv_iload_n hx hb (z_d hX5_takeOut_0 32 rfl) rfl (lv_at hl 2 rfl) ?_
    refine z_bnd hF (fun q8 hq8 hF => ?_)
    refine z_mu1 (L := l_Script Z.2.1 As S.1 S.2.1 q3 q4 q5 q6 q7 S.2.2.2.2.2.2.2.1 S.2.2.2.2.2.2.2.2.1 S.2.2.2.2.2.2.2.2.2) (L' := l_Script Z.2.1 As S.1 S.2.1 q3 q4 q5 q6 q7 q8 S.2.2.2.2.2.2.2.2.1 S.2.2.2.2.2.2.2.2.2) (z_rV (As := [.int p1]) (rest := []) hx hb hml hown hts vt_X3_closeAt (c_X3_closeAt l Z 60 (As 11) (As 12) S.2.2.2.2.2.2.2.1 p1 _ hq8) rfl rfl ⟨Nat.le_of_ble_eq_true rfl, Nat.le_of_ble_eq_true rfl⟩ k_m_X5_71 zPmu_blind (z_recv (q := (RX3, TX3, 1)) (ci := 3) (q0 := 0) hK (zP_reg hP 6 rfl) rfl rfl) (z_prem hK (zP_reg hP 6 rfl) (zD_one hD 6 _ rfl)) rfl hl.1 (Nat.le_of_ble_eq_true rfl) (z_d hX5_takeOut_0 33 rfl) ⟨Nat.zero_le _, Nat.zero_le _⟩) hS hP hD 6 rfl rfl rfl (fun H locs hP hD hS => ?_)
    refine W.eq (g2 := F0 m 66 ls []) rfl ?_
    refine lv_aload_n hx hb (z_d hX5_takeOut_0 34 rfl) rfl (lv_at hl 1 rfl) ?_
    refine va_get (D := Z.1) (ci := 5) (v := .ref (As 13)) (C := RX5) (T := TX5) (N := 10) hx hb hts zinX5 hown hK.1 (zP_reg hP 0 rfl) 0 rfl rfl 8 (by decide) (hts _ k_f_X5_42) (fun _ h9 => h9) rfl (z_d hX5_takeOut_0 35 rfl) ?_
    refine lv_iload_n hx hb (z_d hX5_takeOut_0 36 rfl) rfl (lv_at hl 2 rfl) ?_
    refine z_bnd hF (fun q9 hq9 hF => ?_)
    refine z_mu1 (L := l_Script Z.2.1 As S.1 S.2.1 q3 q4 q5 q6 q7 q8 S.2.2.2.2.2.2.2.2.1 S.2.2.2.2.2.2.2.2.2) (L' := l_Script Z.2.1 As S.1 S.2.1 q3 q4 q5 q6 q7 q8 q9 S.2.2.2.2.2.2.2.2.2) (z_rV (As := [.int p1]) (rest := []) hx hb hml hown hts vt_X3_closeAt (c_X3_closeAt l Z 60 (As 13) (As 14) S.2.2.2.2.2.2.2.2.1 p1 _ hq9) rfl rfl ⟨Nat.le_of_ble_eq_true rfl, Nat.le_of_ble_eq_true rfl⟩ k_m_X5_71 zPmu_blind (z_recv (q := (RX3, TX3, 1)) (ci := 3) (q0 := 0) hK (zP_reg hP 7 rfl) rfl rfl) (z_prem hK (zP_reg hP 7 rfl) (zD_one hD 7 _ rfl)) rfl hl.1 (Nat.le_of_ble_eq_true rfl) (z_d hX5_takeOut_0 37 rfl) ⟨Nat.zero_le _, Nat.zero_le _⟩) hS hP hD 7 rfl rfl rfl (fun H locs hP hD hS => ?_)
    refine W.eq (g2 := F0 m 74 ls []) rfl ?_
    refine lv_aload_n hx hb (z_d hX5_takeOut_0 38 rfl) rfl (lv_at hl 1 rfl) ?_
    refine va_get (D := Z.1) (ci := 5) (v := .ref (As 15)) (C := RX5) (T := TX5) (N := 10) hx hb hts zinX5 hown hK.1 (zP_reg hP 0 rfl) 0 rfl rfl 9 (by decide) (hts _ k_f_X5_45) (fun _ h9 => h9) rfl (z_d hX5_takeOut_0 39 rfl) ?_
    refine lv_iload_n hx hb (z_d hX5_takeOut_0 40 rfl) rfl (lv_at hl 2 rfl) ?_
    refine z_bnd hF (fun q10 hq10 hF => ?_)
    refine z_mu1 (L := l_Script Z.2.1 As S.1 S.2.1 q3 q4 q5 q6 q7 q8 q9 S.2.2.2.2.2.2.2.2.2) (L' := l_Script Z.2.1 As S.1 S.2.1 q3 q4 q5 q6 q7 q8 q9 q10) (z_rV (As := [.int p1]) (rest := []) hx hb hml hown hts vt_X3_closeAt (c_X3_closeAt l Z 60 (As 15) (As 16) S.2.2.2.2.2.2.2.2.2 p1 _ hq10) rfl rfl ⟨Nat.le_of_ble_eq_true rfl, Nat.le_of_ble_eq_true rfl⟩ k_m_X5_71 zPmu_blind (z_recv (q := (RX3, TX3, 1)) (ci := 3) (q0 := 0) hK (zP_reg hP 8 rfl) rfl rfl) (z_prem hK (zP_reg hP 8 rfl) (zD_one hD 8 _ rfl)) rfl hl.1 (Nat.le_of_ble_eq_true rfl) (z_d hX5_takeOut_0 41 rfl) ⟨Nat.zero_le _, Nat.zero_le _⟩) hS hP hD 8 rfl rfl rfl (fun H locs hP hD hS => ?_)
    refine W.eq (g2 := F0 m 82 ls []) rfl ?_
    refine lv_aload_n hx hb (z_d hX5_takeOut_0 42 rfl) rfl (lv_at hl 1 rfl) ?_
    refine lv_dup hx hb (z_d hX5_takeOut_0 43 rfl) rfl ?_
    refine va_get (D := Z.1) (ci := 5) (v := .int S.1) (C := RX5) (T := TX5) (N := 10) hx hb hts zinX5 hown hK.1 (zP_reg hP 0 rfl) 0 rfl rfl 0 (by decide) (hts _ k_f_X5_9) (fun _ h9 => h9) rfl (z_d hX5_takeOut_0 44 rfl) ?_
    refine lv_iconst (v := 1) hx hb (z_d hX5_takeOut_0 45 rfl) (by decide) ?_
    refine lv_isub hx hb (z_d hX5_takeOut_0 46 rfl) ?_
    refine z_let hF (fun u11 hu11 hF => ?_)
    refine lv_topE hu11 ?_
    refine z_put (Z := Z) (ci := 5) (v := .int u11) (ty := .int) (L := l_Script Z.2.1 As S.1 S.2.1 q3 q4 q5 q6 q7 q8 q9 q10) (L' := l_Script Z.2.1 As u11 S.2.1 q3 q4 q5 q6 q7 q8 q9 q10) (C := RX5) (T := TX5) (N := 10) hx hb hts zinX5 tyX5 tyX5_ok nmX5 hown hK hP hD hS 0 rfl rfl 0 (by decide) (hts _ k_f_X5_9) (fun _ h9 => h9) rfl (tyX5_ok 0 (by decide)) rfl rfl (Nat.le_of_ble_eq_true rfl) rfl (z_d hX5_takeOut_0 47 rfl) (fun H locs hP hD hS => ?_)
    refine lv_aload_n hx hb (z_d hX5_takeOut_0 48 rfl) rfl (lv_at hl 1 rfl) ?_
    refine lv_iload_n hx hb (z_d hX5_takeOut_0 49 rfl) rfl (lv_at hl 2 rfl) ?_
    refine z_let hF (fun q12 hq12 hF => ?_)
    refine z_ro_i (z_rV (As := [.int p1]) (rest := []) hx hb hml hown hts vt_X5_has (c_X5_has l Z As (u11, S.2.1, q3, q4, q5, q6, q7, q8, q9, q10) p1 _ hq12) rfl rfl ⟨Nat.le_of_ble_eq_true rfl, Nat.le_of_ble_eq_true rfl⟩ k_m_X5_68 zPro_blind (z_recv (q := (RX5, TX5, 10)) (ci := 5) (q0 := 0) hK (zP_reg hP 0 rfl) rfl rfl) (z_prec hK hP) rfl hl.1 (Nat.le_of_ble_eq_true rfl) (z_d hX5_takeOut_0 50 rfl) ⟨Nat.zero_le _, Nat.zero_le _⟩) hS hP (fun H locs hP hS => ?_)
    refine lv_if_eq (tgt := 121) hx hb (z_d hX5_takeOut_0 51 rfl) (by decide) (fun hc97 => ?_) (fun hc97 => ?_)
    · have hF := z_pos hc97 hF
      obtain rfl := Option.some.inj hF
      subst hQ
      subst hA
      exact W.vret hx hb hr (fun t ht hW => zq_mu (by rw [ht]; exact hP) (hS.F ht)) hS.2.2 (z_d hX5_takeOut_1 3 rfl)
    · have hF := z_neg hc97 hF
      refine lv_aload_n hx hb (z_d hX5_takeOut_0 52 rfl) rfl (lv_at hl 1 rfl) ?_
      refine va_get (D := Z.1) (ci := 5) (v := .ref (As 7)) (C := RX5) (T := TX5) (N := 10) hx hb hts zinX5 hown hK.1 (zP_reg hP 0 rfl) 0 rfl rfl 5 (by decide) (hts _ k_f_X5_33) (fun _ h9 => h9) rfl (z_d hX5_takeOut_0 53 rfl) ?_
      refine lv_iload_n hx hb (z_d hX5_takeOut_0 54 rfl) rfl (lv_at hl 2 rfl) ?_
      refine z_let hF (fun q13 hq13 hF => ?_)
      refine z_ro_i (z_rV (As := [.int p1]) (rest := []) hx hb hml hown hts vt_X3_at (c_rAt l Z 60 (As 7) (As 8) (by decide) q6 p1 _ hq13) rfl rfl ⟨Nat.le_of_ble_eq_true rfl, Nat.le_of_ble_eq_true rfl⟩ k_m_X5_52 zPro_blind (z_recv (q := (RX3, TX3, 1)) (ci := 3) (q0 := 0) hK (zP_reg hP 4 rfl) rfl rfl) (z_prec hK (zP_reg hP 4 rfl)) rfl hl.1 (Nat.le_of_ble_eq_true rfl) (z_d hX5_takeOut_0 55 rfl) ⟨Nat.zero_le _, Nat.zero_le _⟩) hS hP (fun H locs hP hS => ?_)
      refine lv_iconst (v := (-1)) hx hb (z_d hX5_takeOut_0 56 rfl) (by decide) ?_
      refine lv_icmp_ne (tgt := 121) hx hb (z_d hX5_takeOut_0 57 rfl) (by decide) (fun hc109 => ?_) (fun hc109 => ?_)
      · have hF := z_neg hc109 hF
        obtain rfl := Option.some.inj hF
        subst hQ
        subst hA
        exact W.vret hx hb hr (fun t ht hW => zq_mu (by rw [ht]; exact hP) (hS.F ht)) hS.2.2 (z_d hX5_takeOut_1 3 rfl)
      · have hF := z_pos hc109 hF
        refine lv_aload_n hx hb (z_d hX5_takeOut_0 58 rfl) rfl (lv_at hl 1 rfl) ?_
        refine va_get (D := Z.1) (ci := 5) (v := .ref (As 7)) (C := RX5) (T := TX5) (N := 10) hx hb hts zinX5 hown hK.1 (zP_reg hP 0 rfl) 0 rfl rfl 5 (by decide) (hts _ k_f_X5_33) (fun _ h9 => h9) rfl (z_d hX5_takeOut_0 59 rfl) ?_
        refine lv_iload_n hx hb (z_d hX5_takeOut_1 0 rfl) rfl (lv_at hl 2 rfl) ?_
        refine lv_iload_n hx hb (z_d hX5_takeOut_1 1 rfl) rfl (lv_at hl 0 rfl) ?_
        refine z_let hF (fun q14 hq14 hF => ?_)
        refine z_mu1 (L := l_Script Z.2.1 As u11 S.2.1 q3 q4 q5 q6 q7 q8 q9 q10) (L' := l_Script Z.2.1 As u11 S.2.1 q3 q4 q5 q14 q7 q8 q9 q10) (z_rV (As := [.int p1, .int q2]) (rest := []) hx hb hml hown hts vt_X3_put (c_rPut l Z 60 (As 7) (As 8) (by decide) q6 p1 q2 _ hq14) rfl rfl ⟨Nat.le_of_ble_eq_true rfl, Nat.le_of_ble_eq_true rfl⟩ k_m_X5_74 zPmu_blind (z_recv (q := (RX3, TX3, 1)) (ci := 3) (q0 := 0) hK (zP_reg hP 4 rfl) rfl rfl) (z_prem hK (zP_reg hP 4 rfl) (zD_one hD 4 _ rfl)) rfl hl.1 (Nat.le_of_ble_eq_true rfl) (z_d hX5_takeOut_1 2 rfl) ⟨Nat.zero_le _, Nat.zero_le _⟩) hS hP hD 4 rfl rfl rfl (fun H locs hP hD hS => ?_)
        refine W.eq (g2 := F0 m 121 ls []) rfl ?_
        obtain rfl := Option.some.inj hF
        subst hQ
        subst hA
        exact W.vret hx hb hr (fun t ht hW => zq_mu (by rw [ht]; exact hP) (hS.F ht)) hS.2.2 (z_d hX5_takeOut_1 3 rfl)
  · have hF := z_pos hc5 hF
    obtain rfl := Option.some.inj hF
    subst hQ
    subst hA
    exact W.vret hx hb hr (fun t ht hW => zq_mu (by rw [ht]; exact hP) (hS.F ht)) hS.2.2 (z_d hX5_takeOut_0 4 rfl)
def rm_X5_lock : Room := { frames := 1, cells := 0, slots := 0, locals := 22 }
set_option maxRecDepth 100000 in
set_option maxHeartbeats 4000000 in
theorem c_X5_lock (l : Launch) (Z : zZ) (As : Nat → Nat) (S : t_Script) (p1 : Int32) (p2 : Int32) (p3 : Int32) (p4 : Int32) (R : t_Script) (hF : X5_lock S p1 p2 p3 p4 = R) : zMU l yX5_lock (zw yX5_lock cX5_lock 5 none) rm_X5_lock Z [.ref (As 0), .int p1, .int p2, .int p3, .int p4] (w_Script Z.2.1 As S) (w_Script Z.2.1 As R) none := by
  refine zMU_of (by decide) (Nat.le_of_ble_eq_true rfl) (fun p e s m below meth c hx hb hr hml hown hts hlocks hK A hA Q hQ ls hl hP hD hS => ?_)
  unfold X5_lock at hF
  have hl : lv_has ls 5 [(0, .ref (As 0)), (1, .int p1), (2, .int p2), (3, .int p3), (4, .int p4)] := hl
  have hown : s.vm.findClass RX5 = some m.cls := hown
  have hP : va_P Z.1 vwCl (l_Script Z.2.1 As S.1 S.2.1 S.2.2.1 S.2.2.2.1 S.2.2.2.2.1 S.2.2.2.2.2.1 S.2.2.2.2.2.2.1 S.2.2.2.2.2.2.2.1 S.2.2.2.2.2.2.2.2.1 S.2.2.2.2.2.2.2.2.2).flatten s.heap := hP
  have hD : va_D A (l_Script Z.2.1 As S.1 S.2.1 S.2.2.1 S.2.2.2.1 S.2.2.2.2.1 S.2.2.2.2.2.1 S.2.2.2.2.2.2.1 S.2.2.2.2.2.2.2.1 S.2.2.2.2.2.2.2.2.1 S.2.2.2.2.2.2.2.2.2).flatten := hD
  refine lv_aload_n hx hb (z_d hX5_lock_0 0 rfl) rfl (lv_at hl 0 rfl) ?_
  refine va_get (D := Z.1) (ci := 5) (v := .ref (As 9)) (C := RX5) (T := TX5) (N := 10) hx hb hts zinX5 hown hK.1 (zP_reg hP 0 rfl) 0 rfl rfl 6 (by decide) (hts _ k_f_X5_36) (fun _ h9 => h9) rfl (z_d hX5_lock_0 1 rfl) ?_
  refine lv_iload_n hx hb (z_d hX5_lock_0 2 rfl) rfl (lv_at hl 1 rfl) ?_
  refine lv_iconst (v := 1) hx hb (z_d hX5_lock_0 3 rfl) (by decide) ?_
  refine z_let hF (fun q1 hq1 hF => ?_)
  refine z_mu1 (L := l_Script Z.2.1 As S.1 S.2.1 S.2.2.1 S.2.2.2.1 S.2.2.2.2.1 S.2.2.2.2.2.1 S.2.2.2.2.2.2.1 S.2.2.2.2.2.2.2.1 S.2.2.2.2.2.2.2.2.1 S.2.2.2.2.2.2.2.2.2) (L' := l_Script Z.2.1 As S.1 S.2.1 S.2.2.1 S.2.2.2.1 S.2.2.2.2.1 S.2.2.2.2.2.1 q1 S.2.2.2.2.2.2.2.1 S.2.2.2.2.2.2.2.2.1 S.2.2.2.2.2.2.2.2.2) (z_rV (As := [.int p1, .int 1]) (rest := []) hx hb hml hown hts vt_X3_put (c_rPut l Z 60 (As 9) (As 10) (by decide) S.2.2.2.2.2.2.1 p1 1 _ hq1) rfl rfl ⟨Nat.le_of_ble_eq_true rfl, Nat.le_of_ble_eq_true rfl⟩ k_m_X5_74 zPmu_blind (z_recv (q := (RX3, TX3, 1)) (ci := 3) (q0 := 0) hK (zP_reg hP 5 rfl) rfl rfl) (z_prem hK (zP_reg hP 5 rfl) (zD_one hD 5 _ rfl)) rfl hl.1 (Nat.le_of_ble_eq_true rfl) (z_d hX5_lock_0 4 rfl) ⟨Nat.zero_le _, Nat.zero_le _⟩) hS hP hD 5 rfl rfl rfl (fun H locs hP hD hS => ?_)
  refine W.eq (g2 := F0 m 9 ls []) rfl ?_
  refine lv_aload_n hx hb (z_d hX5_lock_0 5 rfl) rfl (lv_at hl 0 rfl) ?_
  refine va_get (D := Z.1) (ci := 5) (v := .ref (As 11)) (C := RX5) (T := TX5) (N := 10) hx hb hts zinX5 hown hK.1 (zP_reg hP 0 rfl) 0 rfl rfl 7 (by decide) (hts _ k_f_X5_39) (fun _ h9 => h9) rfl (z_d hX5_lock_0 6 rfl) ?_
  refine lv_iload_n hx hb (z_d hX5_lock_0 7 rfl) rfl (lv_at hl 1 rfl) ?_
  refine lv_iload_n hx hb (z_d hX5_lock_0 8 rfl) rfl (lv_at hl 2 rfl) ?_
  refine z_let hF (fun q2 hq2 hF => ?_)
  refine z_mu1 (L := l_Script Z.2.1 As S.1 S.2.1 S.2.2.1 S.2.2.2.1 S.2.2.2.2.1 S.2.2.2.2.2.1 q1 S.2.2.2.2.2.2.2.1 S.2.2.2.2.2.2.2.2.1 S.2.2.2.2.2.2.2.2.2) (L' := l_Script Z.2.1 As S.1 S.2.1 S.2.2.1 S.2.2.2.1 S.2.2.2.2.1 S.2.2.2.2.2.1 q1 q2 S.2.2.2.2.2.2.2.2.1 S.2.2.2.2.2.2.2.2.2) (z_rV (As := [.int p1, .int p2]) (rest := []) hx hb hml hown hts vt_X3_put (c_rPut l Z 60 (As 11) (As 12) (by decide) S.2.2.2.2.2.2.2.1 p1 p2 _ hq2) rfl rfl ⟨Nat.le_of_ble_eq_true rfl, Nat.le_of_ble_eq_true rfl⟩ k_m_X5_74 zPmu_blind (z_recv (q := (RX3, TX3, 1)) (ci := 3) (q0 := 0) hK (zP_reg hP 6 rfl) rfl rfl) (z_prem hK (zP_reg hP 6 rfl) (zD_one hD 6 _ rfl)) rfl hl.1 (Nat.le_of_ble_eq_true rfl) (z_d hX5_lock_0 9 rfl) ⟨Nat.zero_le _, Nat.zero_le _⟩) hS hP hD 6 rfl rfl rfl (fun H locs hP hD hS => ?_)
  refine W.eq (g2 := F0 m 18 ls []) rfl ?_
  refine lv_aload_n hx hb (z_d hX5_lock_0 10 rfl) rfl (lv_at hl 0 rfl) ?_
  refine va_get (D := Z.1) (ci := 5) (v := .ref (As 13)) (C := RX5) (T := TX5) (N := 10) hx hb hts zinX5 hown hK.1 (zP_reg hP 0 rfl) 0 rfl rfl 8 (by decide) (hts _ k_f_X5_42) (fun _ h9 => h9) rfl (z_d hX5_lock_0 11 rfl) ?_
  refine lv_iload_n hx hb (z_d hX5_lock_0 12 rfl) rfl (lv_at hl 1 rfl) ?_
  refine lv_iload_n hx hb (z_d hX5_lock_0 13 rfl) rfl (lv_at hl 3 rfl) ?_
  refine z_let hF (fun q3 hq3 hF => ?_)
  refine z_mu1 (L := l_Script Z.2.1 As S.1 S.2.1 S.2.2.1 S.2.2.2.1 S.2.2.2.2.1 S.2.2.2.2.2.1 q1 q2 S.2.2.2.2.2.2.2.2.1 S.2.2.2.2.2.2.2.2.2) (L' := l_Script Z.2.1 As S.1 S.2.1 S.2.2.1 S.2.2.2.1 S.2.2.2.2.1 S.2.2.2.2.2.1 q1 q2 q3 S.2.2.2.2.2.2.2.2.2) (z_rV (As := [.int p1, .int p3]) (rest := []) hx hb hml hown hts vt_X3_put (c_rPut l Z 60 (As 13) (As 14) (by decide) S.2.2.2.2.2.2.2.2.1 p1 p3 _ hq3) rfl rfl ⟨Nat.le_of_ble_eq_true rfl, Nat.le_of_ble_eq_true rfl⟩ k_m_X5_74 zPmu_blind (z_recv (q := (RX3, TX3, 1)) (ci := 3) (q0 := 0) hK (zP_reg hP 7 rfl) rfl rfl) (z_prem hK (zP_reg hP 7 rfl) (zD_one hD 7 _ rfl)) rfl hl.1 (Nat.le_of_ble_eq_true rfl) (z_d hX5_lock_0 14 rfl) ⟨Nat.zero_le _, Nat.zero_le _⟩) hS hP hD 7 rfl rfl rfl (fun H locs hP hD hS => ?_)
  refine W.eq (g2 := F0 m 27 ls []) rfl ?_
  refine lv_aload_n hx hb (z_d hX5_lock_0 15 rfl) rfl (lv_at hl 0 rfl) ?_
  refine va_get (D := Z.1) (ci := 5) (v := .ref (As 15)) (C := RX5) (T := TX5) (N := 10) hx hb hts zinX5 hown hK.1 (zP_reg hP 0 rfl) 0 rfl rfl 9 (by decide) (hts _ k_f_X5_45) (fun _ h9 => h9) rfl (z_d hX5_lock_0 16 rfl) ?_
  refine lv_iload_n hx hb (z_d hX5_lock_0 17 rfl) rfl (lv_at hl 1 rfl) ?_
  refine lv_iload hx hb (z_d hX5_lock_0 18 rfl) (lv_at hl 4 rfl) ?_
  refine z_let hF (fun q4 hq4 hF => ?_)
  refine z_mu1 (L := l_Script Z.2.1 As S.1 S.2.1 S.2.2.1 S.2.2.2.1 S.2.2.2.2.1 S.2.2.2.2.2.1 q1 q2 q3 S.2.2.2.2.2.2.2.2.2) (L' := l_Script Z.2.1 As S.1 S.2.1 S.2.2.1 S.2.2.2.1 S.2.2.2.2.1 S.2.2.2.2.2.1 q1 q2 q3 q4) (z_rV (As := [.int p1, .int p4]) (rest := []) hx hb hml hown hts vt_X3_put (c_rPut l Z 60 (As 15) (As 16) (by decide) S.2.2.2.2.2.2.2.2.2 p1 p4 _ hq4) rfl rfl ⟨Nat.le_of_ble_eq_true rfl, Nat.le_of_ble_eq_true rfl⟩ k_m_X5_74 zPmu_blind (z_recv (q := (RX3, TX3, 1)) (ci := 3) (q0 := 0) hK (zP_reg hP 8 rfl) rfl rfl) (z_prem hK (zP_reg hP 8 rfl) (zD_one hD 8 _ rfl)) rfl hl.1 (Nat.le_of_ble_eq_true rfl) (z_d hX5_lock_0 19 rfl) ⟨Nat.zero_le _, Nat.zero_le _⟩) hS hP hD 8 rfl rfl rfl (fun H locs hP hD hS => ?_)
  refine W.eq (g2 := F0 m 37 ls []) rfl ?_
  obtain rfl := hF
  subst hQ
  subst hA
  exact W.vret hx hb hr (fun t ht hW => zq_mu (by rw [ht]; exact hP) (hS.F ht)) hS.2.2 (z_d hX5_lock_0 20 rfl)
def rm_X5_markOmitted : Room := { frames := 1, cells := 0, slots := 0, locals := 22 }
set_option maxRecDepth 100000 in
set_option maxHeartbeats 4000000 in
theorem c_X5_markOmitted (l : Launch) (Z : zZ) (As : Nat → Nat) (S : t_Script) (p1 : Int32) (R : t_Script) (hF : X5_markOmitted S p1 = R) : zMU l yX5_markOmitted (zw yX5_markOmitted cX5_markOmitted 2 none) rm_X5_markOmitted Z [.ref (As 0), .int p1] (w_Script Z.2.1 As S) (w_Script Z.2.1 As R) none := by
  refine zMU_of (by decide) (Nat.le_of_ble_eq_true rfl) (fun p e s m below meth c hx hb hr hml hown hts hlocks hK A hA Q hQ ls hl hP hD hS => ?_)
  unfold X5_markOmitted at hF
  have hl : lv_has ls 2 [(0, .ref (As 0)), (1, .int p1)] := hl
  have hown : s.vm.findClass RX5 = some m.cls := hown
  have hP : va_P Z.1 vwCl (l_Script Z.2.1 As S.1 S.2.1 S.2.2.1 S.2.2.2.1 S.2.2.2.2.1 S.2.2.2.2.2.1 S.2.2.2.2.2.2.1 S.2.2.2.2.2.2.2.1 S.2.2.2.2.2.2.2.2.1 S.2.2.2.2.2.2.2.2.2).flatten s.heap := hP
  have hD : va_D A (l_Script Z.2.1 As S.1 S.2.1 S.2.2.1 S.2.2.2.1 S.2.2.2.2.1 S.2.2.2.2.2.1 S.2.2.2.2.2.2.1 S.2.2.2.2.2.2.2.1 S.2.2.2.2.2.2.2.2.1 S.2.2.2.2.2.2.2.2.2).flatten := hD
  refine lv_aload_n hx hb (z_d hX5_markOmitted_0 0 rfl) rfl (lv_at hl 0 rfl) ?_
  refine va_get (D := Z.1) (ci := 5) (v := .ref (As 9)) (C := RX5) (T := TX5) (N := 10) hx hb hts zinX5 hown hK.1 (zP_reg hP 0 rfl) 0 rfl rfl 6 (by decide) (hts _ k_f_X5_36) (fun _ h9 => h9) rfl (z_d hX5_markOmitted_0 1 rfl) ?_
  refine lv_iload_n hx hb (z_d hX5_markOmitted_0 2 rfl) rfl (lv_at hl 1 rfl) ?_
  refine lv_iconst (v := 2) hx hb (z_d hX5_markOmitted_0 3 rfl) (by decide) ?_
  refine z_let hF (fun q1 hq1 hF => ?_)
  refine z_mu1 (L := l_Script Z.2.1 As S.1 S.2.1 S.2.2.1 S.2.2.2.1 S.2.2.2.2.1 S.2.2.2.2.2.1 S.2.2.2.2.2.2.1 S.2.2.2.2.2.2.2.1 S.2.2.2.2.2.2.2.2.1 S.2.2.2.2.2.2.2.2.2) (L' := l_Script Z.2.1 As S.1 S.2.1 S.2.2.1 S.2.2.2.1 S.2.2.2.2.1 S.2.2.2.2.2.1 q1 S.2.2.2.2.2.2.2.1 S.2.2.2.2.2.2.2.2.1 S.2.2.2.2.2.2.2.2.2) (z_rV (As := [.int p1, .int 2]) (rest := []) hx hb hml hown hts vt_X3_put (c_rPut l Z 60 (As 9) (As 10) (by decide) S.2.2.2.2.2.2.1 p1 2 _ hq1) rfl rfl ⟨Nat.le_of_ble_eq_true rfl, Nat.le_of_ble_eq_true rfl⟩ k_m_X5_74 zPmu_blind (z_recv (q := (RX3, TX3, 1)) (ci := 3) (q0 := 0) hK (zP_reg hP 5 rfl) rfl rfl) (z_prem hK (zP_reg hP 5 rfl) (zD_one hD 5 _ rfl)) rfl hl.1 (Nat.le_of_ble_eq_true rfl) (z_d hX5_markOmitted_0 4 rfl) ⟨Nat.zero_le _, Nat.zero_le _⟩) hS hP hD 5 rfl rfl rfl (fun H locs hP hD hS => ?_)
  refine W.eq (g2 := F0 m 9 ls []) rfl ?_
  obtain rfl := hF
  subst hQ
  subst hA
  exact W.vret hx hb hr (fun t ht hW => zq_mu (by rw [ht]; exact hP) (hS.F ht)) hS.2.2 (z_d hX5_markOmitted_0 5 rfl)
def rm_X5_copyFrom : Room := { frames := 1, cells := 0, slots := 0, locals := 22 }
set_option maxRecDepth 100000 in
set_option maxHeartbeats 4000000 in
theorem c_X5_copyFrom (l : Launch) (Z : zZ) (As : Nat → Nat) (As2 : Nat → Nat) (S : t_Script) (S2 : t_Script) (R : t_Script) (hF : X5_copyFrom S S2 = R) : zMU l yX5_copyFrom (zw yX5_copyFrom cX5_copyFrom 2 none) rm_X5_copyFrom Z [.ref (As 0), .ref (As2 0)] (List.flatten [w_Script Z.2.1 As S, w_Script Z.2.1 As2 S2]) (List.flatten [w_Script Z.2.1 As R, w_Script Z.2.1 As2 S2]) none := by
  refine zMU_of (by decide) (Nat.le_of_ble_eq_true rfl) (fun p e s m below meth c hx hb hr hml hown hts hlocks hK A hA Q hQ ls hl hP hD hS => ?_)
  unfold X5_copyFrom at hF
  have hl : lv_has ls 2 [(0, .ref (As 0)), (1, .ref (As2 0))] := hl
  have hown : s.vm.findClass RX5 = some m.cls := hown
  have hP : va_P Z.1 vwCl (l_Script Z.2.1 As S.1 S.2.1 S.2.2.1 S.2.2.2.1 S.2.2.2.2.1 S.2.2.2.2.2.1 S.2.2.2.2.2.2.1 S.2.2.2.2.2.2.2.1 S.2.2.2.2.2.2.2.2.1 S.2.2.2.2.2.2.2.2.2 ++ l_Script Z.2.1 As2 S2.1 S2.2.1 S2.2.2.1 S2.2.2.2.1 S2.2.2.2.2.1 S2.2.2.2.2.2.1 S2.2.2.2.2.2.2.1 S2.2.2.2.2.2.2.2.1 S2.2.2.2.2.2.2.2.2.1 S2.2.2.2.2.2.2.2.2.2).flatten s.heap := zfr2 hP
  have hD : va_D A (l_Script Z.2.1 As S.1 S.2.1 S.2.2.1 S.2.2.2.1 S.2.2.2.2.1 S.2.2.2.2.2.1 S.2.2.2.2.2.2.1 S.2.2.2.2.2.2.2.1 S.2.2.2.2.2.2.2.2.1 S.2.2.2.2.2.2.2.2.2 ++ l_Script Z.2.1 As2 S2.1 S2.2.1 S2.2.2.1 S2.2.2.2.1 S2.2.2.2.2.1 S2.2.2.2.2.2.1 S2.2.2.2.2.2.2.1 S2.2.2.2.2.2.2.2.1 S2.2.2.2.2.2.2.2.2.1 S2.2.2.2.2.2.2.2.2.2).flatten := zfr2D hD
  refine lv_aload_n hx hb (z_d hX5_copyFrom_0 0 rfl) rfl (lv_at hl 0 rfl) ?_
  refine lv_aload_n hx hb (z_d hX5_copyFrom_0 1 rfl) rfl (lv_at hl 1 rfl) ?_
  refine va_get (D := Z.1) (ci := 5) (v := .int S2.1) (C := RX5) (T := TX5) (N := 10) hx hb hts zinX5 hown hK.1 (zP_reg hP 9 rfl) 0 rfl rfl 0 (by decide) (hts _ k_f_X5_9) (fun _ h9 => h9) rfl (z_d hX5_copyFrom_0 2 rfl) ?_
  refine z_put (Z := Z) (ci := 5) (v := .int S2.1) (ty := .int) (L := l_Script Z.2.1 As S.1 S.2.1 S.2.2.1 S.2.2.2.1 S.2.2.2.2.1 S.2.2.2.2.2.1 S.2.2.2.2.2.2.1 S.2.2.2.2.2.2.2.1 S.2.2.2.2.2.2.2.2.1 S.2.2.2.2.2.2.2.2.2 ++ l_Script Z.2.1 As2 S2.1 S2.2.1 S2.2.2.1 S2.2.2.2.1 S2.2.2.2.2.1 S2.2.2.2.2.2.1 S2.2.2.2.2.2.2.1 S2.2.2.2.2.2.2.2.1 S2.2.2.2.2.2.2.2.2.1 S2.2.2.2.2.2.2.2.2.2) (L' := l_Script Z.2.1 As S2.1 S.2.1 S.2.2.1 S.2.2.2.1 S.2.2.2.2.1 S.2.2.2.2.2.1 S.2.2.2.2.2.2.1 S.2.2.2.2.2.2.2.1 S.2.2.2.2.2.2.2.2.1 S.2.2.2.2.2.2.2.2.2 ++ l_Script Z.2.1 As2 S2.1 S2.2.1 S2.2.2.1 S2.2.2.2.1 S2.2.2.2.2.1 S2.2.2.2.2.2.1 S2.2.2.2.2.2.2.1 S2.2.2.2.2.2.2.2.1 S2.2.2.2.2.2.2.2.2.1 S2.2.2.2.2.2.2.2.2.2) (C := RX5) (T := TX5) (N := 10) hx hb hts zinX5 tyX5 tyX5_ok nmX5 hown hK hP hD hS 0 rfl rfl 0 (by decide) (hts _ k_f_X5_9) (fun _ h9 => h9) rfl (tyX5_ok 0 (by decide)) rfl rfl (Nat.le_of_ble_eq_true rfl) rfl (z_d hX5_copyFrom_0 3 rfl) (fun H locs hP hD hS => ?_)
  refine lv_aload_n hx hb (z_d hX5_copyFrom_0 4 rfl) rfl (lv_at hl 0 rfl) ?_
  refine lv_aload_n hx hb (z_d hX5_copyFrom_0 5 rfl) rfl (lv_at hl 1 rfl) ?_
  refine va_get (D := Z.1) (ci := 5) (v := .int S2.2.1) (C := RX5) (T := TX5) (N := 10) hx hb hts zinX5 hown hK.1 (zP_reg hP 9 rfl) 0 rfl rfl 1 (by decide) (hts _ k_f_X5_15) (fun _ h9 => h9) rfl (z_d hX5_copyFrom_0 6 rfl) ?_
  refine z_put (Z := Z) (ci := 5) (v := .int S2.2.1) (ty := .int) (L := l_Script Z.2.1 As S2.1 S.2.1 S.2.2.1 S.2.2.2.1 S.2.2.2.2.1 S.2.2.2.2.2.1 S.2.2.2.2.2.2.1 S.2.2.2.2.2.2.2.1 S.2.2.2.2.2.2.2.2.1 S.2.2.2.2.2.2.2.2.2 ++ l_Script Z.2.1 As2 S2.1 S2.2.1 S2.2.2.1 S2.2.2.2.1 S2.2.2.2.2.1 S2.2.2.2.2.2.1 S2.2.2.2.2.2.2.1 S2.2.2.2.2.2.2.2.1 S2.2.2.2.2.2.2.2.2.1 S2.2.2.2.2.2.2.2.2.2) (L' := l_Script Z.2.1 As S2.1 S2.2.1 S.2.2.1 S.2.2.2.1 S.2.2.2.2.1 S.2.2.2.2.2.1 S.2.2.2.2.2.2.1 S.2.2.2.2.2.2.2.1 S.2.2.2.2.2.2.2.2.1 S.2.2.2.2.2.2.2.2.2 ++ l_Script Z.2.1 As2 S2.1 S2.2.1 S2.2.2.1 S2.2.2.2.1 S2.2.2.2.2.1 S2.2.2.2.2.2.1 S2.2.2.2.2.2.2.1 S2.2.2.2.2.2.2.2.1 S2.2.2.2.2.2.2.2.2.1 S2.2.2.2.2.2.2.2.2.2) (C := RX5) (T := TX5) (N := 10) hx hb hts zinX5 tyX5 tyX5_ok nmX5 hown hK hP hD hS 0 rfl rfl 1 (by decide) (hts _ k_f_X5_15) (fun _ h9 => h9) rfl (tyX5_ok 1 (by decide)) rfl rfl (Nat.le_of_ble_eq_true rfl) rfl (z_d hX5_copyFrom_0 7 rfl) (fun H locs hP hD hS => ?_)
  refine lv_aload_n hx hb (z_d hX5_copyFrom_0 8 rfl) rfl (lv_at hl 0 rfl) ?_
  refine va_get (D := Z.1) (ci := 5) (v := .ref (As 1)) (C := RX5) (T := TX5) (N := 10) hx hb hts zinX5 hown hK.1 (zP_reg hP 0 rfl) 0 rfl rfl 2 (by decide) (hts _ k_f_X5_23) (fun _ h9 => h9) rfl (z_d hX5_copyFrom_0 9 rfl) ?_
  refine lv_aload_n hx hb (z_d hX5_copyFrom_0 10 rfl) rfl (lv_at hl 1 rfl) ?_
  refine va_get (D := Z.1) (ci := 5) (v := .ref (As2 1)) (C := RX5) (T := TX5) (N := 10) hx hb hts zinX5 hown hK.1 (zP_reg hP 9 rfl) 0 rfl rfl 2 (by decide) (hts _ k_f_X5_23) (fun _ h9 => h9) rfl (z_d hX5_copyFrom_0 11 rfl) ?_
  refine z_let hF (fun q1 hq1 hF => ?_)
  refine z_mu2 (L := l_Script Z.2.1 As S2.1 S2.2.1 S.2.2.1 S.2.2.2.1 S.2.2.2.2.1 S.2.2.2.2.2.1 S.2.2.2.2.2.2.1 S.2.2.2.2.2.2.2.1 S.2.2.2.2.2.2.2.2.1 S.2.2.2.2.2.2.2.2.2 ++ l_Script Z.2.1 As2 S2.1 S2.2.1 S2.2.2.1 S2.2.2.2.1 S2.2.2.2.2.1 S2.2.2.2.2.2.1 S2.2.2.2.2.2.2.1 S2.2.2.2.2.2.2.2.1 S2.2.2.2.2.2.2.2.2.1 S2.2.2.2.2.2.2.2.2.2) (L' := l_Script Z.2.1 As S2.1 S2.2.1 q1 S.2.2.2.1 S.2.2.2.2.1 S.2.2.2.2.2.1 S.2.2.2.2.2.2.1 S.2.2.2.2.2.2.2.1 S.2.2.2.2.2.2.2.2.1 S.2.2.2.2.2.2.2.2.2 ++ l_Script Z.2.1 As2 S2.1 S2.2.1 S2.2.2.1 S2.2.2.2.1 S2.2.2.2.2.1 S2.2.2.2.2.2.1 S2.2.2.2.2.2.2.1 S2.2.2.2.2.2.2.2.1 S2.2.2.2.2.2.2.2.2.1 S2.2.2.2.2.2.2.2.2.2) (z_rV (As := [.ref (As2 1)]) (rest := []) hx hb hml hown hts vt_X3_copyFrom (c_rCopy l Z 60 (As 1) (As 2) 60 (As2 1) (As2 2) (by decide) S.2.2.1 S2.2.2.1 _ hq1) rfl rfl ⟨Nat.le_of_ble_eq_true rfl, Nat.le_of_ble_eq_true rfl⟩ k_m_X5_77 zPmu_blind (z_recv (q := (RX3, TX3, 1)) (ci := 3) (q0 := 0) hK (zP_reg hP 1 rfl) rfl rfl) (z_prem hK (zP_r2 hP 1 10 rfl rfl) (zD_r2 hD 1 10 rfl rfl (by decide))) rfl hl.1 (Nat.le_of_ble_eq_true rfl) (z_d hX5_copyFrom_0 12 rfl) ⟨Nat.zero_le _, Nat.zero_le _⟩) hS hP hD 1 10 rfl rfl (by decide) rfl rfl rfl (fun H locs hP hD hS => ?_)
  refine W.eq (g2 := F0 m 27 ls []) rfl ?_
  refine lv_aload_n hx hb (z_d hX5_copyFrom_0 13 rfl) rfl (lv_at hl 0 rfl) ?_
  refine va_get (D := Z.1) (ci := 5) (v := .ref (As 3)) (C := RX5) (T := TX5) (N := 10) hx hb hts zinX5 hown hK.1 (zP_reg hP 0 rfl) 0 rfl rfl 3 (by decide) (hts _ k_f_X5_27) (fun _ h9 => h9) rfl (z_d hX5_copyFrom_0 14 rfl) ?_
  refine lv_aload_n hx hb (z_d hX5_copyFrom_0 15 rfl) rfl (lv_at hl 1 rfl) ?_
  refine va_get (D := Z.1) (ci := 5) (v := .ref (As2 3)) (C := RX5) (T := TX5) (N := 10) hx hb hts zinX5 hown hK.1 (zP_reg hP 9 rfl) 0 rfl rfl 3 (by decide) (hts _ k_f_X5_27) (fun _ h9 => h9) rfl (z_d hX5_copyFrom_0 16 rfl) ?_
  refine z_let hF (fun q2 hq2 hF => ?_)
  refine z_mu2 (L := l_Script Z.2.1 As S2.1 S2.2.1 q1 S.2.2.2.1 S.2.2.2.2.1 S.2.2.2.2.2.1 S.2.2.2.2.2.2.1 S.2.2.2.2.2.2.2.1 S.2.2.2.2.2.2.2.2.1 S.2.2.2.2.2.2.2.2.2 ++ l_Script Z.2.1 As2 S2.1 S2.2.1 S2.2.2.1 S2.2.2.2.1 S2.2.2.2.2.1 S2.2.2.2.2.2.1 S2.2.2.2.2.2.2.1 S2.2.2.2.2.2.2.2.1 S2.2.2.2.2.2.2.2.2.1 S2.2.2.2.2.2.2.2.2.2) (L' := l_Script Z.2.1 As S2.1 S2.2.1 q1 q2 S.2.2.2.2.1 S.2.2.2.2.2.1 S.2.2.2.2.2.2.1 S.2.2.2.2.2.2.2.1 S.2.2.2.2.2.2.2.2.1 S.2.2.2.2.2.2.2.2.2 ++ l_Script Z.2.1 As2 S2.1 S2.2.1 S2.2.2.1 S2.2.2.2.1 S2.2.2.2.2.1 S2.2.2.2.2.2.1 S2.2.2.2.2.2.2.1 S2.2.2.2.2.2.2.2.1 S2.2.2.2.2.2.2.2.2.1 S2.2.2.2.2.2.2.2.2.2) (z_rV (As := [.ref (As2 3)]) (rest := []) hx hb hml hown hts vt_X3_copyFrom (c_rCopy l Z 60 (As 3) (As 4) 60 (As2 3) (As2 4) (by decide) S.2.2.2.1 S2.2.2.2.1 _ hq2) rfl rfl ⟨Nat.le_of_ble_eq_true rfl, Nat.le_of_ble_eq_true rfl⟩ k_m_X5_77 zPmu_blind (z_recv (q := (RX3, TX3, 1)) (ci := 3) (q0 := 0) hK (zP_reg hP 2 rfl) rfl rfl) (z_prem hK (zP_r2 hP 2 11 rfl rfl) (zD_r2 hD 2 11 rfl rfl (by decide))) rfl hl.1 (Nat.le_of_ble_eq_true rfl) (z_d hX5_copyFrom_0 17 rfl) ⟨Nat.zero_le _, Nat.zero_le _⟩) hS hP hD 2 11 rfl rfl (by decide) rfl rfl rfl (fun H locs hP hD hS => ?_)
  refine W.eq (g2 := F0 m 38 ls []) rfl ?_
  refine lv_aload_n hx hb (z_d hX5_copyFrom_0 18 rfl) rfl (lv_at hl 0 rfl) ?_
  refine va_get (D := Z.1) (ci := 5) (v := .ref (As 5)) (C := RX5) (T := TX5) (N := 10) hx hb hts zinX5 hown hK.1 (zP_reg hP 0 rfl) 0 rfl rfl 4 (by decide) (hts _ k_f_X5_30) (fun _ h9 => h9) rfl (z_d hX5_copyFrom_0 19 rfl) ?_
  refine lv_aload_n hx hb (z_d hX5_copyFrom_0 20 rfl) rfl (lv_at hl 1 rfl) ?_
  refine va_get (D := Z.1) (ci := 5) (v := .ref (As2 5)) (C := RX5) (T := TX5) (N := 10) hx hb hts zinX5 hown hK.1 (zP_reg hP 9 rfl) 0 rfl rfl 4 (by decide) (hts _ k_f_X5_30) (fun _ h9 => h9) rfl (z_d hX5_copyFrom_0 21 rfl) ?_
  refine z_let hF (fun q3 hq3 hF => ?_)
  refine z_mu2 (L := l_Script Z.2.1 As S2.1 S2.2.1 q1 q2 S.2.2.2.2.1 S.2.2.2.2.2.1 S.2.2.2.2.2.2.1 S.2.2.2.2.2.2.2.1 S.2.2.2.2.2.2.2.2.1 S.2.2.2.2.2.2.2.2.2 ++ l_Script Z.2.1 As2 S2.1 S2.2.1 S2.2.2.1 S2.2.2.2.1 S2.2.2.2.2.1 S2.2.2.2.2.2.1 S2.2.2.2.2.2.2.1 S2.2.2.2.2.2.2.2.1 S2.2.2.2.2.2.2.2.2.1 S2.2.2.2.2.2.2.2.2.2) (L' := l_Script Z.2.1 As S2.1 S2.2.1 q1 q2 q3 S.2.2.2.2.2.1 S.2.2.2.2.2.2.1 S.2.2.2.2.2.2.2.1 S.2.2.2.2.2.2.2.2.1 S.2.2.2.2.2.2.2.2.2 ++ l_Script Z.2.1 As2 S2.1 S2.2.1 S2.2.2.1 S2.2.2.2.1 S2.2.2.2.2.1 S2.2.2.2.2.2.1 S2.2.2.2.2.2.2.1 S2.2.2.2.2.2.2.2.1 S2.2.2.2.2.2.2.2.2.1 S2.2.2.2.2.2.2.2.2.2) (z_rV (As := [.ref (As2 5)]) (rest := []) hx hb hml hown hts vt_X3_copyFrom (c_rCopy l Z 60 (As 5) (As 6) 60 (As2 5) (As2 6) (by decide) S.2.2.2.2.1 S2.2.2.2.2.1 _ hq3) rfl rfl ⟨Nat.le_of_ble_eq_true rfl, Nat.le_of_ble_eq_true rfl⟩ k_m_X5_77 zPmu_blind (z_recv (q := (RX3, TX3, 1)) (ci := 3) (q0 := 0) hK (zP_reg hP 3 rfl) rfl rfl) (z_prem hK (zP_r2 hP 3 12 rfl rfl) (zD_r2 hD 3 12 rfl rfl (by decide))) rfl hl.1 (Nat.le_of_ble_eq_true rfl) (z_d hX5_copyFrom_0 22 rfl) ⟨Nat.zero_le _, Nat.zero_le _⟩) hS hP hD 3 12 rfl rfl (by decide) rfl rfl rfl (fun H locs hP hD hS => ?_)
  refine W.eq (g2 := F0 m 49 ls []) rfl ?_
  refine lv_aload_n hx hb (z_d hX5_copyFrom_0 23 rfl) rfl (lv_at hl 0 rfl) ?_
  refine va_get (D := Z.1) (ci := 5) (v := .ref (As 7)) (C := RX5) (T := TX5) (N := 10) hx hb hts zinX5 hown hK.1 (zP_reg hP 0 rfl) 0 rfl rfl 5 (by decide) (hts _ k_f_X5_33) (fun _ h9 => h9) rfl (z_d hX5_copyFrom_0 24 rfl) ?_
  refine lv_aload_n hx hb (z_d hX5_copyFrom_0 25 rfl) rfl (lv_at hl 1 rfl) ?_
  refine va_get (D := Z.1) (ci := 5) (v := .ref (As2 7)) (C := RX5) (T := TX5) (N := 10) hx hb hts zinX5 hown hK.1 (zP_reg hP 9 rfl) 0 rfl rfl 5 (by decide) (hts _ k_f_X5_33) (fun _ h9 => h9) rfl (z_d hX5_copyFrom_0 26 rfl) ?_
  refine z_let hF (fun q4 hq4 hF => ?_)
  refine z_mu2 (L := l_Script Z.2.1 As S2.1 S2.2.1 q1 q2 q3 S.2.2.2.2.2.1 S.2.2.2.2.2.2.1 S.2.2.2.2.2.2.2.1 S.2.2.2.2.2.2.2.2.1 S.2.2.2.2.2.2.2.2.2 ++ l_Script Z.2.1 As2 S2.1 S2.2.1 S2.2.2.1 S2.2.2.2.1 S2.2.2.2.2.1 S2.2.2.2.2.2.1 S2.2.2.2.2.2.2.1 S2.2.2.2.2.2.2.2.1 S2.2.2.2.2.2.2.2.2.1 S2.2.2.2.2.2.2.2.2.2) (L' := l_Script Z.2.1 As S2.1 S2.2.1 q1 q2 q3 q4 S.2.2.2.2.2.2.1 S.2.2.2.2.2.2.2.1 S.2.2.2.2.2.2.2.2.1 S.2.2.2.2.2.2.2.2.2 ++ l_Script Z.2.1 As2 S2.1 S2.2.1 S2.2.2.1 S2.2.2.2.1 S2.2.2.2.2.1 S2.2.2.2.2.2.1 S2.2.2.2.2.2.2.1 S2.2.2.2.2.2.2.2.1 S2.2.2.2.2.2.2.2.2.1 S2.2.2.2.2.2.2.2.2.2) (z_rV (As := [.ref (As2 7)]) (rest := []) hx hb hml hown hts vt_X3_copyFrom (c_rCopy l Z 60 (As 7) (As 8) 60 (As2 7) (As2 8) (by decide) S.2.2.2.2.2.1 S2.2.2.2.2.2.1 _ hq4) rfl rfl ⟨Nat.le_of_ble_eq_true rfl, Nat.le_of_ble_eq_true rfl⟩ k_m_X5_77 zPmu_blind (z_recv (q := (RX3, TX3, 1)) (ci := 3) (q0 := 0) hK (zP_reg hP 4 rfl) rfl rfl) (z_prem hK (zP_r2 hP 4 13 rfl rfl) (zD_r2 hD 4 13 rfl rfl (by decide))) rfl hl.1 (Nat.le_of_ble_eq_true rfl) (z_d hX5_copyFrom_0 27 rfl) ⟨Nat.zero_le _, Nat.zero_le _⟩) hS hP hD 4 13 rfl rfl (by decide) rfl rfl rfl (fun H locs hP hD hS => ?_)
  refine W.eq (g2 := F0 m 60 ls []) rfl ?_
  refine lv_aload_n hx hb (z_d hX5_copyFrom_0 28 rfl) rfl (lv_at hl 0 rfl) ?_
  refine va_get (D := Z.1) (ci := 5) (v := .ref (As 9)) (C := RX5) (T := TX5) (N := 10) hx hb hts zinX5 hown hK.1 (zP_reg hP 0 rfl) 0 rfl rfl 6 (by decide) (hts _ k_f_X5_36) (fun _ h9 => h9) rfl (z_d hX5_copyFrom_0 29 rfl) ?_
  refine lv_aload_n hx hb (z_d hX5_copyFrom_0 30 rfl) rfl (lv_at hl 1 rfl) ?_
  refine va_get (D := Z.1) (ci := 5) (v := .ref (As2 9)) (C := RX5) (T := TX5) (N := 10) hx hb hts zinX5 hown hK.1 (zP_reg hP 9 rfl) 0 rfl rfl 6 (by decide) (hts _ k_f_X5_36) (fun _ h9 => h9) rfl (z_d hX5_copyFrom_0 31 rfl) ?_
  refine z_let hF (fun q5 hq5 hF => ?_)
  refine z_mu2 (L := l_Script Z.2.1 As S2.1 S2.2.1 q1 q2 q3 q4 S.2.2.2.2.2.2.1 S.2.2.2.2.2.2.2.1 S.2.2.2.2.2.2.2.2.1 S.2.2.2.2.2.2.2.2.2 ++ l_Script Z.2.1 As2 S2.1 S2.2.1 S2.2.2.1 S2.2.2.2.1 S2.2.2.2.2.1 S2.2.2.2.2.2.1 S2.2.2.2.2.2.2.1 S2.2.2.2.2.2.2.2.1 S2.2.2.2.2.2.2.2.2.1 S2.2.2.2.2.2.2.2.2.2) (L' := l_Script Z.2.1 As S2.1 S2.2.1 q1 q2 q3 q4 q5 S.2.2.2.2.2.2.2.1 S.2.2.2.2.2.2.2.2.1 S.2.2.2.2.2.2.2.2.2 ++ l_Script Z.2.1 As2 S2.1 S2.2.1 S2.2.2.1 S2.2.2.2.1 S2.2.2.2.2.1 S2.2.2.2.2.2.1 S2.2.2.2.2.2.2.1 S2.2.2.2.2.2.2.2.1 S2.2.2.2.2.2.2.2.2.1 S2.2.2.2.2.2.2.2.2.2) (z_rV (As := [.ref (As2 9)]) (rest := []) hx hb hml hown hts vt_X3_copyFrom (c_rCopy l Z 60 (As 9) (As 10) 60 (As2 9) (As2 10) (by decide) S.2.2.2.2.2.2.1 S2.2.2.2.2.2.2.1 _ hq5) rfl rfl ⟨Nat.le_of_ble_eq_true rfl, Nat.le_of_ble_eq_true rfl⟩ k_m_X5_77 zPmu_blind (z_recv (q := (RX3, TX3, 1)) (ci := 3) (q0 := 0) hK (zP_reg hP 5 rfl) rfl rfl) (z_prem hK (zP_r2 hP 5 14 rfl rfl) (zD_r2 hD 5 14 rfl rfl (by decide))) rfl hl.1 (Nat.le_of_ble_eq_true rfl) (z_d hX5_copyFrom_0 32 rfl) ⟨Nat.zero_le _, Nat.zero_le _⟩) hS hP hD 5 14 rfl rfl (by decide) rfl rfl rfl (fun H locs hP hD hS => ?_)
  refine W.eq (g2 := F0 m 71 ls []) rfl ?_
  refine lv_aload_n hx hb (z_d hX5_copyFrom_0 33 rfl) rfl (lv_at hl 0 rfl) ?_
  refine va_get (D := Z.1) (ci := 5) (v := .ref (As 11)) (C := RX5) (T := TX5) (N := 10) hx hb hts zinX5 hown hK.1 (zP_reg hP 0 rfl) 0 rfl rfl 7 (by decide) (hts _ k_f_X5_39) (fun _ h9 => h9) rfl (z_d hX5_copyFrom_0 34 rfl) ?_
  refine lv_aload_n hx hb (z_d hX5_copyFrom_0 35 rfl) rfl (lv_at hl 1 rfl) ?_
  refine va_get (D := Z.1) (ci := 5) (v := .ref (As2 11)) (C := RX5) (T := TX5) (N := 10) hx hb hts zinX5 hown hK.1 (zP_reg hP 9 rfl) 0 rfl rfl 7 (by decide) (hts _ k_f_X5_39) (fun _ h9 => h9) rfl (z_d hX5_copyFrom_0 36 rfl) ?_
  refine z_let hF (fun q6 hq6 hF => ?_)
  refine z_mu2 (L := l_Script Z.2.1 As S2.1 S2.2.1 q1 q2 q3 q4 q5 S.2.2.2.2.2.2.2.1 S.2.2.2.2.2.2.2.2.1 S.2.2.2.2.2.2.2.2.2 ++ l_Script Z.2.1 As2 S2.1 S2.2.1 S2.2.2.1 S2.2.2.2.1 S2.2.2.2.2.1 S2.2.2.2.2.2.1 S2.2.2.2.2.2.2.1 S2.2.2.2.2.2.2.2.1 S2.2.2.2.2.2.2.2.2.1 S2.2.2.2.2.2.2.2.2.2) (L' := l_Script Z.2.1 As S2.1 S2.2.1 q1 q2 q3 q4 q5 q6 S.2.2.2.2.2.2.2.2.1 S.2.2.2.2.2.2.2.2.2 ++ l_Script Z.2.1 As2 S2.1 S2.2.1 S2.2.2.1 S2.2.2.2.1 S2.2.2.2.2.1 S2.2.2.2.2.2.1 S2.2.2.2.2.2.2.1 S2.2.2.2.2.2.2.2.1 S2.2.2.2.2.2.2.2.2.1 S2.2.2.2.2.2.2.2.2.2) (z_rV (As := [.ref (As2 11)]) (rest := []) hx hb hml hown hts vt_X3_copyFrom (c_rCopy l Z 60 (As 11) (As 12) 60 (As2 11) (As2 12) (by decide) S.2.2.2.2.2.2.2.1 S2.2.2.2.2.2.2.2.1 _ hq6) rfl rfl ⟨Nat.le_of_ble_eq_true rfl, Nat.le_of_ble_eq_true rfl⟩ k_m_X5_77 zPmu_blind (z_recv (q := (RX3, TX3, 1)) (ci := 3) (q0 := 0) hK (zP_reg hP 6 rfl) rfl rfl) (z_prem hK (zP_r2 hP 6 15 rfl rfl) (zD_r2 hD 6 15 rfl rfl (by decide))) rfl hl.1 (Nat.le_of_ble_eq_true rfl) (z_d hX5_copyFrom_0 37 rfl) ⟨Nat.zero_le _, Nat.zero_le _⟩) hS hP hD 6 15 rfl rfl (by decide) rfl rfl rfl (fun H locs hP hD hS => ?_)
  refine W.eq (g2 := F0 m 82 ls []) rfl ?_
  refine lv_aload_n hx hb (z_d hX5_copyFrom_0 38 rfl) rfl (lv_at hl 0 rfl) ?_
  refine va_get (D := Z.1) (ci := 5) (v := .ref (As 13)) (C := RX5) (T := TX5) (N := 10) hx hb hts zinX5 hown hK.1 (zP_reg hP 0 rfl) 0 rfl rfl 8 (by decide) (hts _ k_f_X5_42) (fun _ h9 => h9) rfl (z_d hX5_copyFrom_0 39 rfl) ?_
  refine lv_aload_n hx hb (z_d hX5_copyFrom_0 40 rfl) rfl (lv_at hl 1 rfl) ?_
  refine va_get (D := Z.1) (ci := 5) (v := .ref (As2 13)) (C := RX5) (T := TX5) (N := 10) hx hb hts zinX5 hown hK.1 (zP_reg hP 9 rfl) 0 rfl rfl 8 (by decide) (hts _ k_f_X5_42) (fun _ h9 => h9) rfl (z_d hX5_copyFrom_0 41 rfl) ?_
  refine z_let hF (fun q7 hq7 hF => ?_)
  refine z_mu2 (L := l_Script Z.2.1 As S2.1 S2.2.1 q1 q2 q3 q4 q5 q6 S.2.2.2.2.2.2.2.2.1 S.2.2.2.2.2.2.2.2.2 ++ l_Script Z.2.1 As2 S2.1 S2.2.1 S2.2.2.1 S2.2.2.2.1 S2.2.2.2.2.1 S2.2.2.2.2.2.1 S2.2.2.2.2.2.2.1 S2.2.2.2.2.2.2.2.1 S2.2.2.2.2.2.2.2.2.1 S2.2.2.2.2.2.2.2.2.2) (L' := l_Script Z.2.1 As S2.1 S2.2.1 q1 q2 q3 q4 q5 q6 q7 S.2.2.2.2.2.2.2.2.2 ++ l_Script Z.2.1 As2 S2.1 S2.2.1 S2.2.2.1 S2.2.2.2.1 S2.2.2.2.2.1 S2.2.2.2.2.2.1 S2.2.2.2.2.2.2.1 S2.2.2.2.2.2.2.2.1 S2.2.2.2.2.2.2.2.2.1 S2.2.2.2.2.2.2.2.2.2) (z_rV (As := [.ref (As2 13)]) (rest := []) hx hb hml hown hts vt_X3_copyFrom (c_rCopy l Z 60 (As 13) (As 14) 60 (As2 13) (As2 14) (by decide) S.2.2.2.2.2.2.2.2.1 S2.2.2.2.2.2.2.2.2.1 _ hq7) rfl rfl ⟨Nat.le_of_ble_eq_true rfl, Nat.le_of_ble_eq_true rfl⟩ k_m_X5_77 zPmu_blind (z_recv (q := (RX3, TX3, 1)) (ci := 3) (q0 := 0) hK (zP_reg hP 7 rfl) rfl rfl) (z_prem hK (zP_r2 hP 7 16 rfl rfl) (zD_r2 hD 7 16 rfl rfl (by decide))) rfl hl.1 (Nat.le_of_ble_eq_true rfl) (z_d hX5_copyFrom_0 42 rfl) ⟨Nat.zero_le _, Nat.zero_le _⟩) hS hP hD 7 16 rfl rfl (by decide) rfl rfl rfl (fun H locs hP hD hS => ?_)
  refine W.eq (g2 := F0 m 93 ls []) rfl ?_
  refine lv_aload_n hx hb (z_d hX5_copyFrom_0 43 rfl) rfl (lv_at hl 0 rfl) ?_
  refine va_get (D := Z.1) (ci := 5) (v := .ref (As 15)) (C := RX5) (T := TX5) (N := 10) hx hb hts zinX5 hown hK.1 (zP_reg hP 0 rfl) 0 rfl rfl 9 (by decide) (hts _ k_f_X5_45) (fun _ h9 => h9) rfl (z_d hX5_copyFrom_0 44 rfl) ?_
  refine lv_aload_n hx hb (z_d hX5_copyFrom_0 45 rfl) rfl (lv_at hl 1 rfl) ?_
  refine va_get (D := Z.1) (ci := 5) (v := .ref (As2 15)) (C := RX5) (T := TX5) (N := 10) hx hb hts zinX5 hown hK.1 (zP_reg hP 9 rfl) 0 rfl rfl 9 (by decide) (hts _ k_f_X5_45) (fun _ h9 => h9) rfl (z_d hX5_copyFrom_0 46 rfl) ?_
  refine z_let hF (fun q8 hq8 hF => ?_)
  refine z_mu2 (L := l_Script Z.2.1 As S2.1 S2.2.1 q1 q2 q3 q4 q5 q6 q7 S.2.2.2.2.2.2.2.2.2 ++ l_Script Z.2.1 As2 S2.1 S2.2.1 S2.2.2.1 S2.2.2.2.1 S2.2.2.2.2.1 S2.2.2.2.2.2.1 S2.2.2.2.2.2.2.1 S2.2.2.2.2.2.2.2.1 S2.2.2.2.2.2.2.2.2.1 S2.2.2.2.2.2.2.2.2.2) (L' := l_Script Z.2.1 As S2.1 S2.2.1 q1 q2 q3 q4 q5 q6 q7 q8 ++ l_Script Z.2.1 As2 S2.1 S2.2.1 S2.2.2.1 S2.2.2.2.1 S2.2.2.2.2.1 S2.2.2.2.2.2.1 S2.2.2.2.2.2.2.1 S2.2.2.2.2.2.2.2.1 S2.2.2.2.2.2.2.2.2.1 S2.2.2.2.2.2.2.2.2.2) (z_rV (As := [.ref (As2 15)]) (rest := []) hx hb hml hown hts vt_X3_copyFrom (c_rCopy l Z 60 (As 15) (As 16) 60 (As2 15) (As2 16) (by decide) S.2.2.2.2.2.2.2.2.2 S2.2.2.2.2.2.2.2.2.2 _ hq8) rfl rfl ⟨Nat.le_of_ble_eq_true rfl, Nat.le_of_ble_eq_true rfl⟩ k_m_X5_77 zPmu_blind (z_recv (q := (RX3, TX3, 1)) (ci := 3) (q0 := 0) hK (zP_reg hP 8 rfl) rfl rfl) (z_prem hK (zP_r2 hP 8 17 rfl rfl) (zD_r2 hD 8 17 rfl rfl (by decide))) rfl hl.1 (Nat.le_of_ble_eq_true rfl) (z_d hX5_copyFrom_0 47 rfl) ⟨Nat.zero_le _, Nat.zero_le _⟩) hS hP hD 8 17 rfl rfl (by decide) rfl rfl rfl (fun H locs hP hD hS => ?_)
  refine W.eq (g2 := F0 m 104 ls []) rfl ?_
  obtain rfl := hF
  subst hQ
  subst hA
  exact W.vret hx hb hr (fun t ht hW => zq_mu (by rw [ht]; exact zfl2 hP) (hS.F ht)) hS.2.2 (z_d hX5_copyFrom_0 48 rfl)

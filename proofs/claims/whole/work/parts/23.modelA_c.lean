theorem vt_X7_of : zVt yX7_of cX7_of 3 (some .int) 2 := ⟨zG_at 995 (by decide +kernel) (by decide +kernel), zG_at 38 (by decide +kernel) (by decide +kernel), zG_at 81 (by decide +kernel) (by decide +kernel), zG_at 996 (by decide +kernel) (by decide +kernel), by decide +kernel⟩
theorem vs_X7_wide : zSt yX7_wide cX7_wide 1 (some .int) 1 := ⟨zG_at 1038 (by decide +kernel) (by decide +kernel), zG_at 81 (by decide +kernel) (by decide +kernel), zG_at 1039 (by decide +kernel) (by decide +kernel), by decide +kernel⟩
theorem vt_X7_lines : zVt yX7_lines cX7_lines 3 (some .int) 1 := ⟨zG_at 1035 (by decide +kernel) (by decide +kernel), zG_at 46 (by decide +kernel) (by decide +kernel), zG_at 81 (by decide +kernel) (by decide +kernel), zG_at 1036 (by decide +kernel) (by decide +kernel), by decide +kernel⟩
theorem vt_X7_isText : zVt yX7_isText cX7_isText 2 (some .boolean) 1 := ⟨zG_at 1093 (by decide +kernel) (by decide +kernel), zG_at 55 (by decide +kernel) (by decide +kernel), zG_at 81 (by decide +kernel) (by decide +kernel), zG_at 1094 (by decide +kernel) (by decide +kernel), by decide +kernel⟩
theorem vt_X7_isHeading : zVt yX7_isHeading cX7_isHeading 2 (some .boolean) 1 := ⟨zG_at 991 (by decide +kernel) (by decide +kernel), zG_at 37 (by decide +kernel) (by decide +kernel), zG_at 81 (by decide +kernel) (by decide +kernel), zG_at 992 (by decide +kernel) (by decide +kernel), by decide +kernel⟩
theorem vt_X7_wantsNext : zVt yX7_wantsNext cX7_wantsNext 2 (some .boolean) 1 := ⟨zG_at 1089 (by decide +kernel) (by decide +kernel), zG_at 54 (by decide +kernel) (by decide +kernel), zG_at 81 (by decide +kernel) (by decide +kernel), zG_at 1090 (by decide +kernel) (by decide +kernel), by decide +kernel⟩
theorem vt_X7_blanks : zVt yX7_blanks cX7_blanks 3 (some .int) 1 := ⟨zG_at 1081 (by decide +kernel) (by decide +kernel), zG_at 52 (by decide +kernel) (by decide +kernel), zG_at 81 (by decide +kernel) (by decide +kernel), zG_at 1082 (by decide +kernel) (by decide +kernel), by decide +kernel⟩
theorem vt_X7_least : zVt yX7_least cX7_least 3 (some .int) 1 := ⟨zG_at 1097 (by decide +kernel) (by decide +kernel), zG_at 56 (by decide +kernel) (by decide +kernel), zG_at 81 (by decide +kernel) (by decide +kernel), zG_at 1098 (by decide +kernel) (by decide +kernel), by decide +kernel⟩
theorem vt_X7_isLocked : zVt yX7_isLocked cX7_isLocked 2 (some .boolean) 1 := ⟨zG_at 1007 (by decide +kernel) (by decide +kernel), zG_at 41 (by decide +kernel) (by decide +kernel), zG_at 81 (by decide +kernel) (by decide +kernel), zG_at 1008 (by decide +kernel) (by decide +kernel), by decide +kernel⟩
theorem vt_X7_label : zVt yX7_label cX7_label 11 (some .int) 2 := ⟨zG_at 1003 (by decide +kernel) (by decide +kernel), zG_at 40 (by decide +kernel) (by decide +kernel), zG_at 81 (by decide +kernel) (by decide +kernel), zG_at 1004 (by decide +kernel) (by decide +kernel), by decide +kernel⟩
theorem vt_X7_areTwo : zVt yX7_areTwo cX7_areTwo 3 (some .boolean) 2 := ⟨zG_at 999 (by decide +kernel) (by decide +kernel), zG_at 39 (by decide +kernel) (by decide +kernel), zG_at 81 (by decide +kernel) (by decide +kernel), zG_at 1000 (by decide +kernel) (by decide +kernel), by decide +kernel⟩
theorem vt_X7_sceneOf : zVt yX7_sceneOf cX7_sceneOf 4 (some .int) 1 := ⟨zG_at 1125 (by decide +kernel) (by decide +kernel), zG_at 62 (by decide +kernel) (by decide +kernel), zG_at 81 (by decide +kernel) (by decide +kernel), zG_at 1126 (by decide +kernel) (by decide +kernel), by decide +kernel⟩
theorem k_f_X7_43 : Cond.fieldLink RX7 43 "ScriptPagesModel" "thrown" "I" ∈ zG := zG_at 900 (by decide +kernel) (by decide +kernel)
theorem k_f_X7_7 : Cond.fieldLink RX7 7 "ScriptPagesModel" "s" "[I" ∈ zG := zG_at 894 (by decide +kernel) (by decide +kernel)
theorem k_m_X7_62 : Cond.methodLink RX7 62 yX7_of ∈ zG := zG_at 993 (by decide +kernel) (by decide +kernel)
theorem k_m_X7_66 : Cond.methodLink RX7 66 yX7_wide ∈ zG := zG_at 1037 (by decide +kernel) (by decide +kernel)
theorem k_m_X7_69 : Cond.methodLink RX7 69 yX7_lines ∈ zG := zG_at 1033 (by decide +kernel) (by decide +kernel)
theorem k_m_X7_72 : Cond.methodLink RX7 72 yX7_isText ∈ zG := zG_at 1091 (by decide +kernel) (by decide +kernel)
theorem k_m_X7_76 : Cond.methodLink RX7 76 yX7_isHeading ∈ zG := zG_at 989 (by decide +kernel) (by decide +kernel)
theorem k_m_X7_79 : Cond.methodLink RX7 79 yX7_wantsNext ∈ zG := zG_at 1087 (by decide +kernel) (by decide +kernel)
theorem k_m_X7_82 : Cond.methodLink RX7 82 yX7_blanks ∈ zG := zG_at 1079 (by decide +kernel) (by decide +kernel)
theorem k_m_X7_85 : Cond.methodLink RX7 85 yX7_least ∈ zG := zG_at 1095 (by decide +kernel) (by decide +kernel)
theorem k_m_X7_88 : Cond.methodLink RX7 88 yX7_isLocked ∈ zG := zG_at 1005 (by decide +kernel) (by decide +kernel)
theorem k_m_X7_91 : Cond.methodLink RX7 91 yX7_label ∈ zG := zG_at 1001 (by decide +kernel) (by decide +kernel)
theorem k_m_X7_94 : Cond.methodLink RX7 94 yX7_areTwo ∈ zG := zG_at 997 (by decide +kernel) (by decide +kernel)
theorem k_m_X7_98 : Cond.methodLink RX7 98 yX7_sceneOf ∈ zG := zG_at 1123 (by decide +kernel) (by decide +kernel)
def rm_X7_thrown : Room := { frames := 0, cells := 0, slots := 0, locals := 0 }
set_option maxRecDepth 100000 in
set_option maxHeartbeats 4000000 in
theorem c_X7_thrown (l : Launch) (Z : zZ) (Am : Nat → Nat) (M : t_Model) (R : Int32) (hF : X7_thrown M = R) : zRO l yX7_thrown (zw yX7_thrown cX7_thrown 1 (some .int)) rm_X7_thrown Z [.ref (Am 0)] (w_Model Z.2.1 Am M) (some (.int R)) := by
  refine zRO_of (by decide) (Nat.le_of_ble_eq_true rfl) (fun p e s m below meth c hx hb hr hml hown hts hlocks hK Q hQ ls hl hP hS => ?_)
  unfold X7_thrown at hF
  have hl : lv_has ls 1 [(0, .ref (Am 0))] := hl
  have hown : s.vm.findClass RX7 = some m.cls := hown
  have hP : va_P Z.1 vwCl (l_Model Z.2.1 Am M.1 M.2.1 M.2.2.1 M.2.2.2.1 M.2.2.2.2.1 M.2.2.2.2.2.1 M.2.2.2.2.2.2.1 M.2.2.2.2.2.2.2.1 M.2.2.2.2.2.2.2.2.1 M.2.2.2.2.2.2.2.2.2.1 M.2.2.2.2.2.2.2.2.2.2.1 M.2.2.2.2.2.2.2.2.2.2.2.1 M.2.2.2.2.2.2.2.2.2.2.2.2.1 M.2.2.2.2.2.2.2.2.2.2.2.2.2.1 M.2.2.2.2.2.2.2.2.2.2.2.2.2.2.1 M.2.2.2.2.2.2.2.2.2.2.2.2.2.2.2.1 M.2.2.2.2.2.2.2.2.2.2.2.2.2.2.2.2.1 M.2.2.2.2.2.2.2.2.2.2.2.2.2.2.2.2.2.1 M.2.2.2.2.2.2.2.2.2.2.2.2.2.2.2.2.2.2).flatten s.heap := hP
  refine lv_aload_n hx hb (z_d hX7_thrown_0 0 rfl) rfl (lv_at hl 0 rfl) ?_
  refine va_get (D := Z.1) (ci := 7) (v := .int M.2.2.2.2.2.2.1) (C := RX7) (T := TX7) (N := 19) hx hb hts zinX7 hown hK.1 (zP_reg hP 0 rfl) 0 rfl rfl 6 (by decide) (hts _ k_f_X7_43) (fun _ h9 => h9) rfl (z_d hX7_thrown_0 1 rfl) ?_
  obtain rfl := hF
  subst hQ
  exact W.iret hx hb hr (fun t ht hW => zq_ro (hS.F ht)) hS.2.2 (z_d hX7_thrown_0 2 rfl)
def rm_X7_of : Room := { frames := 0, cells := 0, slots := 0, locals := 0 }
set_option maxRecDepth 100000 in
set_option maxHeartbeats 4000000 in
theorem c_X7_of (l : Launch) (Z : zZ) (Am : Nat → Nat) (M : t_Model) (p1 : Int32) (p2 : Int32) (R : Int32) (hF : X7_of M p1 p2 = some R) : zRO l yX7_of (zw yX7_of cX7_of 3 (some .int)) rm_X7_of Z [.ref (Am 0), .int p1, .int p2] (w_Model Z.2.1 Am M) (some (.int R)) := by
  refine zRO_of (by decide) (Nat.le_of_ble_eq_true rfl) (fun p e s m below meth c hx hb hr hml hown hts hlocks hK Q hQ ls hl hP hS => ?_)
  unfold X7_of at hF
  have hl : lv_has ls 3 [(0, .ref (Am 0)), (1, .int p1), (2, .int p2)] := hl
  have hown : s.vm.findClass RX7 = some m.cls := hown
  have hP : va_P Z.1 vwCl (l_Model Z.2.1 Am M.1 M.2.1 M.2.2.1 M.2.2.2.1 M.2.2.2.2.1 M.2.2.2.2.2.1 M.2.2.2.2.2.2.1 M.2.2.2.2.2.2.2.1 M.2.2.2.2.2.2.2.2.1 M.2.2.2.2.2.2.2.2.2.1 M.2.2.2.2.2.2.2.2.2.2.1 M.2.2.2.2.2.2.2.2.2.2.2.1 M.2.2.2.2.2.2.2.2.2.2.2.2.1 M.2.2.2.2.2.2.2.2.2.2.2.2.2.1 M.2.2.2.2.2.2.2.2.2.2.2.2.2.2.1 M.2.2.2.2.2.2.2.2.2.2.2.2.2.2.2.1 M.2.2.2.2.2.2.2.2.2.2.2.2.2.2.2.2.1 M.2.2.2.2.2.2.2.2.2.2.2.2.2.2.2.2.2.1 M.2.2.2.2.2.2.2.2.2.2.2.2.2.2.2.2.2.2).flatten s.heap := hP
  refine lv_aload_n hx hb (z_d hX7_of_0 0 rfl) rfl (lv_at hl 0 rfl) ?_
  refine va_get (D := Z.1) (ci := 7) (v := .ref (Am 1)) (C := RX7) (T := TX7) (N := 19) hx hb hts zinX7 hown hK.1 (zP_reg hP 0 rfl) 0 rfl rfl 0 (by decide) (hts _ k_f_X7_7) (fun _ h9 => h9) rfl (z_d hX7_of_0 1 rfl) ?_
  refine lv_iconst (v := 2) hx hb (z_d hX7_of_0 2 rfl) (by decide) ?_
  refine lv_bipush (v := 9) hx hb (z_d hX7_of_0 3 rfl) (by decide) ?_
  refine lv_iload_n hx hb (z_d hX7_of_0 4 rfl) rfl (lv_at hl 1 rfl) ?_
  refine lv_imul hx hb (z_d hX7_of_0 5 rfl) ?_
  refine z_let hF (fun u1 hu1 hF => ?_)
  refine lv_topE hu1 ?_
  refine lv_iadd hx hb (z_d hX7_of_0 6 rfl) ?_
  refine z_let hF (fun u2 hu2 hF => ?_)
  refine lv_topE hu2 ?_
  refine lv_iload_n hx hb (z_d hX7_of_0 7 rfl) rfl (lv_at hl 2 rfl) ?_
  refine lv_iadd hx hb (z_d hX7_of_0 8 rfl) ?_
  refine z_let hF (fun u3 hu3 hF => ?_)
  refine lv_topE hu3 ?_
  refine z_ix hF (fun hin hF => ?_)
  refine va_iald (D := Z.1) (f := M.1) hx hb hK.1 (zP_reg hP 1 rfl) 0 0 rfl rfl hin (z_d hX7_of_0 9 rfl) ?_
  refine z_let hF (fun u4 hu4 hF => ?_)
  refine lv_topE hu4 ?_
  obtain rfl := Option.some.inj hF
  subst hQ
  exact W.iret hx hb hr (fun t ht hW => zq_ro (hS.F ht)) hS.2.2 (z_d hX7_of_0 10 rfl)
def rm_X7_isElement : Room := { frames := 1, cells := 0, slots := 0, locals := 22 }
set_option maxRecDepth 100000 in
set_option maxHeartbeats 4000000 in
theorem c_X7_isElement (l : Launch) (Z : zZ) (Am : Nat → Nat) (M : t_Model) (p1 : Int32) (R : Int32) (hF : X7_isElement M p1 = some R) : zRO l yX7_isElement (zw yX7_isElement cX7_isElement 2 (some .boolean)) rm_X7_isElement Z [.ref (Am 0), .int p1] (w_Model Z.2.1 Am M) (some (.int R)) := by
  refine zRO_of (by decide) (Nat.le_of_ble_eq_true rfl) (fun p e s m below meth c hx hb hr hml hown hts hlocks hK Q hQ ls hl hP hS => ?_)
  unfold X7_isElement at hF
  have hl : lv_has ls 2 [(0, .ref (Am 0)), (1, .int p1)] := hl
  have hown : s.vm.findClass RX7 = some m.cls := hown
  have hP : va_P Z.1 vwCl (l_Model Z.2.1 Am M.1 M.2.1 M.2.2.1 M.2.2.2.1 M.2.2.2.2.1 M.2.2.2.2.2.1 M.2.2.2.2.2.2.1 M.2.2.2.2.2.2.2.1 M.2.2.2.2.2.2.2.2.1 M.2.2.2.2.2.2.2.2.2.1 M.2.2.2.2.2.2.2.2.2.2.1 M.2.2.2.2.2.2.2.2.2.2.2.1 M.2.2.2.2.2.2.2.2.2.2.2.2.1 M.2.2.2.2.2.2.2.2.2.2.2.2.2.1 M.2.2.2.2.2.2.2.2.2.2.2.2.2.2.1 M.2.2.2.2.2.2.2.2.2.2.2.2.2.2.2.1 M.2.2.2.2.2.2.2.2.2.2.2.2.2.2.2.2.1 M.2.2.2.2.2.2.2.2.2.2.2.2.2.2.2.2.2.1 M.2.2.2.2.2.2.2.2.2.2.2.2.2.2.2.2.2.2).flatten s.heap := hP
  refine lv_iload_n hx hb (z_d hX7_isElement_0 0 rfl) rfl (lv_at hl 1 rfl) ?_
  refine lv_iconst (v := 0) hx hb (z_d hX7_isElement_0 1 rfl) (by decide) ?_
  refine lv_aload_n hx hb (z_d hX7_isElement_0 2 rfl) rfl (lv_at hl 0 rfl) ?_
  refine va_get (D := Z.1) (ci := 7) (v := .ref (Am 1)) (C := RX7) (T := TX7) (N := 19) hx hb hts zinX7 hown hK.1 (zP_reg hP 0 rfl) 0 rfl rfl 0 (by decide) (hts _ k_f_X7_7) (fun _ h9 => h9) rfl (z_d hX7_isElement_0 3 rfl) ?_
  refine lv_iconst (v := 1) hx hb (z_d hX7_isElement_0 4 rfl) (by decide) ?_
  refine z_ix hF (fun hin hF => ?_)
  refine va_iald (D := Z.1) (f := M.1) hx hb hK.1 (zP_reg hP 1 rfl) 0 0 rfl rfl hin (z_d hX7_isElement_0 5 rfl) ?_
  refine z_let hF (fun u1 hu1 hF => ?_)
  refine lv_topE hu1 ?_
  refine lv_iconst (v := 1) hx hb (z_d hX7_isElement_0 6 rfl) (by decide) ?_
  refine lv_isub hx hb (z_d hX7_isElement_0 7 rfl) ?_
  refine z_let hF (fun u2 hu2 hF => ?_)
  refine lv_topE hu2 ?_
  refine z_let hF (fun q3 hq3 hF => ?_)
  refine z_ro_i (z_rS (As := [.int p1, .int 0, .int u2]) (rest := []) hx hb hml hown hts vs_X7_in (c_X7_in l Z p1 0 u2 _ hq3) rfl rfl ⟨Nat.le_of_ble_eq_true rfl, Nat.le_of_ble_eq_true rfl⟩ k_m_X7_58 zPro_blind (z_prec hK zP_nil) rfl hl.1 (Nat.le_of_ble_eq_true rfl) (z_d hX7_isElement_0 8 rfl) ⟨Nat.zero_le _, Nat.zero_le _⟩) hS hP (fun H locs hP hS => ?_)
  have hz9 := z_bool (hq3 ▸ X7_in_b p1 0 u2)
  obtain rfl := Option.some.inj hF
  subst hQ
  exact W.zret hx hb hr hz9 (fun t ht hW => zq_ro (hS.F ht)) hS.2.2 (z_d hX7_isElement_0 9 rfl)
def rm_X7_isHeading : Room := { frames := 1, cells := 0, slots := 0, locals := 22 }
set_option maxRecDepth 100000 in
set_option maxHeartbeats 4000000 in
theorem c_X7_isHeading (l : Launch) (Z : zZ) (Am : Nat → Nat) (M : t_Model) (p1 : Int32) (R : Int32) (hF : X7_isHeading M p1 = some R) : zRO l yX7_isHeading (zw yX7_isHeading cX7_isHeading 2 (some .boolean)) rm_X7_isHeading Z [.ref (Am 0), .int p1] (w_Model Z.2.1 Am M) (some (.int R)) := by
  refine zRO_of (by decide) (Nat.le_of_ble_eq_true rfl) (fun p e s m below meth c hx hb hr hml hown hts hlocks hK Q hQ ls hl hP hS => ?_)
  unfold X7_isHeading at hF
  have hl : lv_has ls 2 [(0, .ref (Am 0)), (1, .int p1)] := hl
  have hown : s.vm.findClass RX7 = some m.cls := hown
  have hP : va_P Z.1 vwCl (l_Model Z.2.1 Am M.1 M.2.1 M.2.2.1 M.2.2.2.1 M.2.2.2.2.1 M.2.2.2.2.2.1 M.2.2.2.2.2.2.1 M.2.2.2.2.2.2.2.1 M.2.2.2.2.2.2.2.2.1 M.2.2.2.2.2.2.2.2.2.1 M.2.2.2.2.2.2.2.2.2.2.1 M.2.2.2.2.2.2.2.2.2.2.2.1 M.2.2.2.2.2.2.2.2.2.2.2.2.1 M.2.2.2.2.2.2.2.2.2.2.2.2.2.1 M.2.2.2.2.2.2.2.2.2.2.2.2.2.2.1 M.2.2.2.2.2.2.2.2.2.2.2.2.2.2.2.1 M.2.2.2.2.2.2.2.2.2.2.2.2.2.2.2.2.1 M.2.2.2.2.2.2.2.2.2.2.2.2.2.2.2.2.2.1 M.2.2.2.2.2.2.2.2.2.2.2.2.2.2.2.2.2.2).flatten s.heap := hP
  refine lv_aload_n hx hb (z_d hX7_isHeading_0 0 rfl) rfl (lv_at hl 0 rfl) ?_
  refine lv_iload_n hx hb (z_d hX7_isHeading_0 1 rfl) rfl (lv_at hl 1 rfl) ?_
  refine lv_iconst (v := 0) hx hb (z_d hX7_isHeading_0 2 rfl) (by decide) ?_
  refine z_bnd hF (fun q1 hq1 hF => ?_)
  refine z_ro_i (z_rV (As := [.int p1, .int 0]) (rest := []) hx hb hml hown hts vt_X7_of (c_X7_of l Z Am M p1 0 _ hq1) rfl rfl ⟨Nat.le_of_ble_eq_true rfl, Nat.le_of_ble_eq_true rfl⟩ k_m_X7_62 zPro_blind (z_recv (q := (RX7, TX7, 19)) (ci := 7) (q0 := 0) hK (zP_reg hP 0 rfl) rfl rfl) (z_prec hK hP) rfl hl.1 (Nat.le_of_ble_eq_true rfl) (z_d hX7_isHeading_0 3 rfl) ⟨Nat.zero_le _, Nat.zero_le _⟩) hS hP (fun H locs hP hS => ?_)
  refine lv_if_ne (tgt := 13) hx hb (z_d hX7_isHeading_0 4 rfl) (by decide) (fun hc6 => ?_) (fun hc6 => ?_)
  · have hF := z_neg hc6 hF
    refine lv_iconst (v := 0) hx hb (z_d hX7_isHeading_0 7 rfl) (by decide) ?_
    have hz9 : narrow .boolean (.int 0) = .int 0 := rfl
    obtain rfl := Option.some.inj hF
    subst hQ
    exact W.zret hx hb hr hz9 (fun t ht hW => zq_ro (hS.F ht)) hS.2.2 (z_d hX7_isHeading_0 8 rfl)
  · have hF := z_pos hc6 hF
    refine lv_iconst (v := 1) hx hb (z_d hX7_isHeading_0 5 rfl) (by decide) ?_
    refine lv_goto (tgt := 14) hx hb (z_d hX7_isHeading_0 6 rfl) (by decide) ?_
    have hz9 : narrow .boolean (.int 1) = .int 1 := rfl
    obtain rfl := Option.some.inj hF
    subst hQ
    exact W.zret hx hb hr hz9 (fun t ht hW => zq_ro (hS.F ht)) hS.2.2 (z_d hX7_isHeading_0 8 rfl)
def rm_X7_lines : Room := { frames := 1, cells := 0, slots := 0, locals := 22 }
set_option maxRecDepth 100000 in
set_option maxHeartbeats 4000000 in
theorem c_X7_lines (l : Launch) (Z : zZ) (Am : Nat → Nat) (M : t_Model) (p1 : Int32) (R : Int32) (hF : X7_lines M p1 = some R) : zRO l yX7_lines (zw yX7_lines cX7_lines 3 (some .int)) rm_X7_lines Z [.ref (Am 0), .int p1] (w_Model Z.2.1 Am M) (some (.int R)) := by
  refine zRO_of (by decide) (Nat.le_of_ble_eq_true rfl) (fun p e s m below meth c hx hb hr hml hown hts hlocks hK Q hQ ls hl hP hS => ?_)
  unfold X7_lines at hF
  have hl : lv_has ls 3 [(0, .ref (Am 0)), (1, .int p1)] := hl
  have hown : s.vm.findClass RX7 = some m.cls := hown
  have hP : va_P Z.1 vwCl (l_Model Z.2.1 Am M.1 M.2.1 M.2.2.1 M.2.2.2.1 M.2.2.2.2.1 M.2.2.2.2.2.1 M.2.2.2.2.2.2.1 M.2.2.2.2.2.2.2.1 M.2.2.2.2.2.2.2.2.1 M.2.2.2.2.2.2.2.2.2.1 M.2.2.2.2.2.2.2.2.2.2.1 M.2.2.2.2.2.2.2.2.2.2.2.1 M.2.2.2.2.2.2.2.2.2.2.2.2.1 M.2.2.2.2.2.2.2.2.2.2.2.2.2.1 M.2.2.2.2.2.2.2.2.2.2.2.2.2.2.1 M.2.2.2.2.2.2.2.2.2.2.2.2.2.2.2.1 M.2.2.2.2.2.2.2.2.2.2.2.2.2.2.2.2.1 M.2.2.2.2.2.2.2.2.2.2.2.2.2.2.2.2.2.1 M.2.2.2.2.2.2.2.2.2.2.2.2.2.2.2.2.2.2).flatten s.heap := hP
  refine lv_aload_n hx hb (z_d hX7_lines_0 0 rfl) rfl (lv_at hl 0 rfl) ?_
  refine lv_iload_n hx hb (z_d hX7_lines_0 1 rfl) rfl (lv_at hl 1 rfl) ?_
  refine lv_iconst (v := 0) hx hb (z_d hX7_lines_0 2 rfl) (by decide) ?_
  refine z_bnd hF (fun q1 hq1 hF => ?_)
  refine z_ro_i (z_rV (As := [.int p1, .int 0]) (rest := []) hx hb hml hown hts vt_X7_of (c_X7_of l Z Am M p1 0 _ hq1) rfl rfl ⟨Nat.le_of_ble_eq_true rfl, Nat.le_of_ble_eq_true rfl⟩ k_m_X7_62 zPro_blind (z_recv (q := (RX7, TX7, 19)) (ci := 7) (q0 := 0) hK (zP_reg hP 0 rfl) rfl rfl) (z_prec hK hP) rfl hl.1 (Nat.le_of_ble_eq_true rfl) (z_d hX7_lines_0 3 rfl) ⟨Nat.zero_le _, Nat.zero_le _⟩) hS hP (fun H locs hP hS => ?_)
  refine lv_istore_n (lv' := [(2, .int q1), (0, .ref (Am 0)), (1, .int p1)]) hx hb (z_d hX7_lines_0 4 rfl) rfl hl (by decide) rfl (fun ls hl => ?_)
  refine lv_iload_n hx hb (z_d hX7_lines_0 5 rfl) rfl (lv_at hl 0 rfl) ?_
  refine lv_iconst (v := 2) hx hb (z_d hX7_lines_0 6 rfl) (by decide) ?_
  refine lv_icmp_eq (tgt := 22) hx hb (z_d hX7_lines_0 7 rfl) (by decide) (fun hc9 => ?_) (fun hc9 => ?_)
  · have hF := z_pos hc9 hF
    refine lv_iconst (v := 1) hx hb (z_d hX7_lines_0 14 rfl) (by decide) ?_
    refine lv_goto (tgt := 44) hx hb (z_d hX7_lines_0 15 rfl) (by decide) ?_
    obtain rfl := Option.some.inj hF
    subst hQ
    exact W.iret hx hb hr (fun t ht hW => zq_ro (hS.F ht)) hS.2.2 (z_d hX7_lines_0 28 rfl)
  · have hF := z_neg hc9 hF
    refine lv_aload_n hx hb (z_d hX7_lines_0 8 rfl) rfl (lv_at hl 1 rfl) ?_
    refine lv_iload_n hx hb (z_d hX7_lines_0 9 rfl) rfl (lv_at hl 2 rfl) ?_
    refine lv_iconst (v := 3) hx hb (z_d hX7_lines_0 10 rfl) (by decide) ?_
    refine z_bnd hF (fun q2 hq2 hF => ?_)
    refine z_ro_i (z_rV (As := [.int p1, .int 3]) (rest := []) hx hb hml hown hts vt_X7_of (c_X7_of l Z Am M p1 3 _ hq2) rfl rfl ⟨Nat.le_of_ble_eq_true rfl, Nat.le_of_ble_eq_true rfl⟩ k_m_X7_62 zPro_blind (z_recv (q := (RX7, TX7, 19)) (ci := 7) (q0 := 0) hK (zP_reg hP 0 rfl) rfl rfl) (z_prec hK hP) rfl hl.1 (Nat.le_of_ble_eq_true rfl) (z_d hX7_lines_0 11 rfl) ⟨Nat.zero_le _, Nat.zero_le _⟩) hS hP (fun H locs hP hS => ?_)
    refine lv_iconst (v := 1) hx hb (z_d hX7_lines_0 12 rfl) (by decide) ?_
    refine lv_icmp_ne (tgt := 26) hx hb (z_d hX7_lines_0 13 rfl) (by decide) (fun hc19 => ?_) (fun hc19 => ?_)
    · have hF := z_neg hc19 hF
      refine lv_aload_n hx hb (z_d hX7_lines_0 16 rfl) rfl (lv_at hl 1 rfl) ?_
      refine lv_iload_n hx hb (z_d hX7_lines_0 17 rfl) rfl (lv_at hl 2 rfl) ?_
      refine lv_iconst (v := 1) hx hb (z_d hX7_lines_0 18 rfl) (by decide) ?_
      refine z_bnd hF (fun q3 hq3 hF => ?_)
      refine z_ro_i (z_rV (As := [.int p1, .int 1]) (rest := []) hx hb hml hown hts vt_X7_of (c_X7_of l Z Am M p1 1 _ hq3) rfl rfl ⟨Nat.le_of_ble_eq_true rfl, Nat.le_of_ble_eq_true rfl⟩ k_m_X7_62 zPro_blind (z_recv (q := (RX7, TX7, 19)) (ci := 7) (q0 := 0) hK (zP_reg hP 0 rfl) rfl rfl) (z_prec hK hP) rfl hl.1 (Nat.le_of_ble_eq_true rfl) (z_d hX7_lines_0 19 rfl) ⟨Nat.zero_le _, Nat.zero_le _⟩) hS hP (fun H locs hP hS => ?_)
      refine lv_iload_n hx hb (z_d hX7_lines_0 20 rfl) rfl (lv_at hl 0 rfl) ?_
      refine z_let hF (fun q4 hq4 hF => ?_)
      refine z_ro_i (z_rS (As := [.int q1]) (rest := [.int q3]) hx hb hml hown hts vs_X7_wide (c_X7_wide l Z q1 _ hq4) rfl rfl ⟨Nat.le_of_ble_eq_true rfl, Nat.le_of_ble_eq_true rfl⟩ k_m_X7_66 zPro_blind (z_prec hK zP_nil) rfl hl.1 (Nat.le_of_ble_eq_true rfl) (z_d hX7_lines_0 21 rfl) ⟨Nat.zero_le _, Nat.zero_le _⟩) hS hP (fun H locs hP hS => ?_)
      refine lv_iadd hx hb (z_d hX7_lines_0 22 rfl) ?_
      refine z_let hF (fun u5 hu5 hF => ?_)
      refine lv_topE hu5 ?_
      refine lv_iconst (v := 1) hx hb (z_d hX7_lines_0 23 rfl) (by decide) ?_
      refine lv_isub hx hb (z_d hX7_lines_0 24 rfl) ?_
      refine z_let hF (fun u6 hu6 hF => ?_)
      refine lv_topE hu6 ?_
      refine lv_iload_n hx hb (z_d hX7_lines_0 25 rfl) rfl (lv_at hl 0 rfl) ?_
      refine z_let hF (fun q7 hq7 hF => ?_)
      refine z_ro_i (z_rS (As := [.int q1]) (rest := [.int u6]) hx hb hml hown hts vs_X7_wide (c_X7_wide l Z q1 _ hq7) rfl rfl ⟨Nat.le_of_ble_eq_true rfl, Nat.le_of_ble_eq_true rfl⟩ k_m_X7_66 zPro_blind (z_prec hK zP_nil) rfl hl.1 (Nat.le_of_ble_eq_true rfl) (z_d hX7_lines_0 26 rfl) ⟨Nat.zero_le _, Nat.zero_le _⟩) hS hP (fun H locs hP hS => ?_)
      refine z_dv hF (fun hne hF => ?_)
      refine lv_idiv hx hb (z_d hX7_lines_0 27 rfl) hne ?_
      refine z_let hF (fun u8 hu8 hF => ?_)
      refine lv_topE hu8 ?_
      obtain rfl := Option.some.inj hF
      subst hQ
      exact W.iret hx hb hr (fun t ht hW => zq_ro (hS.F ht)) hS.2.2 (z_d hX7_lines_0 28 rfl)
    · have hF := z_pos hc19 hF
      refine lv_iconst (v := 1) hx hb (z_d hX7_lines_0 14 rfl) (by decide) ?_
      refine lv_goto (tgt := 44) hx hb (z_d hX7_lines_0 15 rfl) (by decide) ?_
      obtain rfl := Option.some.inj hF
      subst hQ
      exact W.iret hx hb hr (fun t ht hW => zq_ro (hS.F ht)) hS.2.2 (z_d hX7_lines_0 28 rfl)
def rm_X7_blanks : Room := { frames := 1, cells := 0, slots := 0, locals := 22 }
set_option maxRecDepth 100000 in
set_option maxHeartbeats 4000000 in
theorem c_X7_blanks (l : Launch) (Z : zZ) (Am : Nat → Nat) (M : t_Model) (p1 : Int32) (R : Int32) (hF : X7_blanks M p1 = some R) : zRO l yX7_blanks (zw yX7_blanks cX7_blanks 3 (some .int)) rm_X7_blanks Z [.ref (Am 0), .int p1] (w_Model Z.2.1 Am M) (some (.int R)) := by
  refine zRO_of (by decide) (Nat.le_of_ble_eq_true rfl) (fun p e s m below meth c hx hb hr hml hown hts hlocks hK Q hQ ls hl hP hS => ?_)
  unfold X7_blanks at hF
  have hl : lv_has ls 3 [(0, .ref (Am 0)), (1, .int p1)] := hl
  have hown : s.vm.findClass RX7 = some m.cls := hown
  have hP : va_P Z.1 vwCl (l_Model Z.2.1 Am M.1 M.2.1 M.2.2.1 M.2.2.2.1 M.2.2.2.2.1 M.2.2.2.2.2.1 M.2.2.2.2.2.2.1 M.2.2.2.2.2.2.2.1 M.2.2.2.2.2.2.2.2.1 M.2.2.2.2.2.2.2.2.2.1 M.2.2.2.2.2.2.2.2.2.2.1 M.2.2.2.2.2.2.2.2.2.2.2.1 M.2.2.2.2.2.2.2.2.2.2.2.2.1 M.2.2.2.2.2.2.2.2.2.2.2.2.2.1 M.2.2.2.2.2.2.2.2.2.2.2.2.2.2.1 M.2.2.2.2.2.2.2.2.2.2.2.2.2.2.2.1 M.2.2.2.2.2.2.2.2.2.2.2.2.2.2.2.2.1 M.2.2.2.2.2.2.2.2.2.2.2.2.2.2.2.2.2.1 M.2.2.2.2.2.2.2.2.2.2.2.2.2.2.2.2.2.2).flatten s.heap := hP
  refine lv_aload_n hx hb (z_d hX7_blanks_0 0 rfl) rfl (lv_at hl 0 rfl) ?_
  refine lv_iload_n hx hb (z_d hX7_blanks_0 1 rfl) rfl (lv_at hl 1 rfl) ?_
  refine lv_iconst (v := 0) hx hb (z_d hX7_blanks_0 2 rfl) (by decide) ?_
  refine z_bnd hF (fun q1 hq1 hF => ?_)
  refine z_ro_i (z_rV (As := [.int p1, .int 0]) (rest := []) hx hb hml hown hts vt_X7_of (c_X7_of l Z Am M p1 0 _ hq1) rfl rfl ⟨Nat.le_of_ble_eq_true rfl, Nat.le_of_ble_eq_true rfl⟩ k_m_X7_62 zPro_blind (z_recv (q := (RX7, TX7, 19)) (ci := 7) (q0 := 0) hK (zP_reg hP 0 rfl) rfl rfl) (z_prec hK hP) rfl hl.1 (Nat.le_of_ble_eq_true rfl) (z_d hX7_blanks_0 3 rfl) ⟨Nat.zero_le _, Nat.zero_le _⟩) hS hP (fun H locs hP hS => ?_)
  refine lv_istore_n (lv' := [(2, .int q1), (0, .ref (Am 0)), (1, .int p1)]) hx hb (z_d hX7_blanks_0 4 rfl) rfl hl (by decide) rfl (fun ls hl => ?_)
  refine lv_iload_n hx hb (z_d hX7_blanks_0 5 rfl) rfl (lv_at hl 0 rfl) ?_
  refine lv_if_ne (tgt := 15) hx hb (z_d hX7_blanks_0 6 rfl) (by decide) (fun hc8 => ?_) (fun hc8 => ?_)
  · have hF := z_neg hc8 hF
    refine lv_iload_n hx hb (z_d hX7_blanks_0 9 rfl) rfl (lv_at hl 0 rfl) ?_
    refine lv_iconst (v := 1) hx hb (z_d hX7_blanks_0 10 rfl) (by decide) ?_
    refine lv_icmp_eq (tgt := 25) hx hb (z_d hX7_blanks_0 11 rfl) (by decide) (fun hc17 => ?_) (fun hc17 => ?_)
    · have hF := z_pos hc17 hF
      refine lv_iconst (v := 1) hx hb (z_d hX7_blanks_0 15 rfl) (by decide) ?_
      refine lv_goto (tgt := 30) hx hb (z_d hX7_blanks_0 16 rfl) (by decide) ?_
      obtain rfl := Option.some.inj hF
      subst hQ
      exact W.iret hx hb hr (fun t ht hW => zq_ro (hS.F ht)) hS.2.2 (z_d hX7_blanks_0 18 rfl)
    · have hF := z_neg hc17 hF
      refine lv_iload_n hx hb (z_d hX7_blanks_0 12 rfl) rfl (lv_at hl 0 rfl) ?_
      refine lv_iconst (v := 2) hx hb (z_d hX7_blanks_0 13 rfl) (by decide) ?_
      refine lv_icmp_ne (tgt := 29) hx hb (z_d hX7_blanks_0 14 rfl) (by decide) (fun hc22 => ?_) (fun hc22 => ?_)
      · have hF := z_neg hc22 hF
        refine lv_iconst (v := 0) hx hb (z_d hX7_blanks_0 17 rfl) (by decide) ?_
        obtain rfl := Option.some.inj hF
        subst hQ
        exact W.iret hx hb hr (fun t ht hW => zq_ro (hS.F ht)) hS.2.2 (z_d hX7_blanks_0 18 rfl)
      · have hF := z_pos hc22 hF
        refine lv_iconst (v := 1) hx hb (z_d hX7_blanks_0 15 rfl) (by decide) ?_
        refine lv_goto (tgt := 30) hx hb (z_d hX7_blanks_0 16 rfl) (by decide) ?_
        obtain rfl := Option.some.inj hF
        subst hQ
        exact W.iret hx hb hr (fun t ht hW => zq_ro (hS.F ht)) hS.2.2 (z_d hX7_blanks_0 18 rfl)
  · have hF := z_pos hc8 hF
    refine lv_iconst (v := 2) hx hb (z_d hX7_blanks_0 7 rfl) (by decide) ?_
    refine lv_goto (tgt := 30) hx hb (z_d hX7_blanks_0 8 rfl) (by decide) ?_
    obtain rfl := Option.some.inj hF
    subst hQ
    exact W.iret hx hb hr (fun t ht hW => zq_ro (hS.F ht)) hS.2.2 (z_d hX7_blanks_0 18 rfl)
def rm_X7_least : Room := { frames := 2, cells := 0, slots := 0, locals := 44 }
set_option maxRecDepth 100000 in
set_option maxHeartbeats 4000000 in
theorem c_X7_least (l : Launch) (Z : zZ) (Am : Nat → Nat) (M : t_Model) (p1 : Int32) (R : Int32) (hF : X7_least M p1 = some R) : zRO l yX7_least (zw yX7_least cX7_least 3 (some .int)) rm_X7_least Z [.ref (Am 0), .int p1] (w_Model Z.2.1 Am M) (some (.int R)) := by
  refine zRO_of (by decide) (Nat.le_of_ble_eq_true rfl) (fun p e s m below meth c hx hb hr hml hown hts hlocks hK Q hQ ls hl hP hS => ?_)
  unfold X7_least at hF
  have hl : lv_has ls 3 [(0, .ref (Am 0)), (1, .int p1)] := hl
  have hown : s.vm.findClass RX7 = some m.cls := hown
  have hP : va_P Z.1 vwCl (l_Model Z.2.1 Am M.1 M.2.1 M.2.2.1 M.2.2.2.1 M.2.2.2.2.1 M.2.2.2.2.2.1 M.2.2.2.2.2.2.1 M.2.2.2.2.2.2.2.1 M.2.2.2.2.2.2.2.2.1 M.2.2.2.2.2.2.2.2.2.1 M.2.2.2.2.2.2.2.2.2.2.1 M.2.2.2.2.2.2.2.2.2.2.2.1 M.2.2.2.2.2.2.2.2.2.2.2.2.1 M.2.2.2.2.2.2.2.2.2.2.2.2.2.1 M.2.2.2.2.2.2.2.2.2.2.2.2.2.2.1 M.2.2.2.2.2.2.2.2.2.2.2.2.2.2.2.1 M.2.2.2.2.2.2.2.2.2.2.2.2.2.2.2.2.1 M.2.2.2.2.2.2.2.2.2.2.2.2.2.2.2.2.2.1 M.2.2.2.2.2.2.2.2.2.2.2.2.2.2.2.2.2.2).flatten s.heap := hP
  refine lv_aload_n hx hb (z_d hX7_least_0 0 rfl) rfl (lv_at hl 0 rfl) ?_
  refine lv_iload_n hx hb (z_d hX7_least_0 1 rfl) rfl (lv_at hl 1 rfl) ?_
  refine z_bnd hF (fun q1 hq1 hF => ?_)
  refine z_ro_i (z_rV (As := [.int p1]) (rest := []) hx hb hml hown hts vt_X7_lines (c_X7_lines l Z Am M p1 _ hq1) rfl rfl ⟨Nat.le_of_ble_eq_true rfl, Nat.le_of_ble_eq_true rfl⟩ k_m_X7_69 zPro_blind (z_recv (q := (RX7, TX7, 19)) (ci := 7) (q0 := 0) hK (zP_reg hP 0 rfl) rfl rfl) (z_prec hK hP) rfl hl.1 (Nat.le_of_ble_eq_true rfl) (z_d hX7_least_0 2 rfl) ⟨Nat.zero_le _, Nat.zero_le _⟩) hS hP (fun H locs hP hS => ?_)
  refine lv_istore_n (lv' := [(2, .int q1), (0, .ref (Am 0)), (1, .int p1)]) hx hb (z_d hX7_least_0 3 rfl) rfl hl (by decide) rfl (fun ls hl => ?_)
  refine lv_iload_n hx hb (z_d hX7_least_0 4 rfl) rfl (lv_at hl 0 rfl) ?_
  refine lv_iconst (v := 4) hx hb (z_d hX7_least_0 5 rfl) (by decide) ?_
  refine lv_icmp_ge (tgt := 15) hx hb (z_d hX7_least_0 6 rfl) (by decide) (fun hc8 => ?_) (fun hc8 => ?_)
  · have hF := z_pos hc8 hF
    refine lv_aload_n hx hb (z_d hX7_least_0 9 rfl) rfl (lv_at hl 1 rfl) ?_
    refine lv_iload_n hx hb (z_d hX7_least_0 10 rfl) rfl (lv_at hl 2 rfl) ?_
    refine lv_iconst (v := 0) hx hb (z_d hX7_least_0 11 rfl) (by decide) ?_
    refine z_bnd hF (fun q2 hq2 hF => ?_)
    refine z_ro_i (z_rV (As := [.int p1, .int 0]) (rest := []) hx hb hml hown hts vt_X7_of (c_X7_of l Z Am M p1 0 _ hq2) rfl rfl ⟨Nat.le_of_ble_eq_true rfl, Nat.le_of_ble_eq_true rfl⟩ k_m_X7_62 zPro_blind (z_recv (q := (RX7, TX7, 19)) (ci := 7) (q0 := 0) hK (zP_reg hP 0 rfl) rfl rfl) (z_prec hK hP) rfl hl.1 (Nat.le_of_ble_eq_true rfl) (z_d hX7_least_0 12 rfl) ⟨Nat.zero_le _, Nat.zero_le _⟩) hS hP (fun H locs hP hS => ?_)
    refine lv_iconst (v := 1) hx hb (z_d hX7_least_0 13 rfl) (by decide) ?_
    refine lv_icmp_ne (tgt := 29) hx hb (z_d hX7_least_0 14 rfl) (by decide) (fun hc22 => ?_) (fun hc22 => ?_)
    · have hF := z_neg hc22 hF
      refine lv_aload_n hx hb (z_d hX7_least_0 17 rfl) rfl (lv_at hl 1 rfl) ?_
      refine lv_iload_n hx hb (z_d hX7_least_0 18 rfl) rfl (lv_at hl 2 rfl) ?_
      refine lv_iconst (v := 0) hx hb (z_d hX7_least_0 19 rfl) (by decide) ?_
      refine z_bnd hF (fun q3 hq3 hF => ?_)
      refine z_ro_i (z_rV (As := [.int p1, .int 0]) (rest := []) hx hb hml hown hts vt_X7_of (c_X7_of l Z Am M p1 0 _ hq3) rfl rfl ⟨Nat.le_of_ble_eq_true rfl, Nat.le_of_ble_eq_true rfl⟩ k_m_X7_62 zPro_blind (z_recv (q := (RX7, TX7, 19)) (ci := 7) (q0 := 0) hK (zP_reg hP 0 rfl) rfl rfl) (z_prec hK hP) rfl hl.1 (Nat.le_of_ble_eq_true rfl) (z_d hX7_least_0 20 rfl) ⟨Nat.zero_le _, Nat.zero_le _⟩) hS hP (fun H locs hP hS => ?_)
      refine lv_iconst (v := 3) hx hb (z_d hX7_least_0 21 rfl) (by decide) ?_
      refine lv_icmp_ne (tgt := 43) hx hb (z_d hX7_least_0 22 rfl) (by decide) (fun hc36 => ?_) (fun hc36 => ?_)
      · have hF := z_neg hc36 hF
        refine lv_iload_n hx hb (z_d hX7_least_0 25 rfl) rfl (lv_at hl 0 rfl) ?_
        obtain rfl := Option.some.inj hF
        subst hQ
        exact W.iret hx hb hr (fun t ht hW => zq_ro (hS.F ht)) hS.2.2 (z_d hX7_least_0 26 rfl)
      · have hF := z_pos hc36 hF
        refine lv_iconst (v := 3) hx hb (z_d hX7_least_0 23 rfl) (by decide) ?_
        refine lv_goto (tgt := 44) hx hb (z_d hX7_least_0 24 rfl) (by decide) ?_
        obtain rfl := Option.some.inj hF
        subst hQ
        exact W.iret hx hb hr (fun t ht hW => zq_ro (hS.F ht)) hS.2.2 (z_d hX7_least_0 26 rfl)
    · have hF := z_pos hc22 hF
      refine lv_iconst (v := 2) hx hb (z_d hX7_least_0 15 rfl) (by decide) ?_
      refine lv_goto (tgt := 44) hx hb (z_d hX7_least_0 16 rfl) (by decide) ?_
      obtain rfl := Option.some.inj hF
      subst hQ
      exact W.iret hx hb hr (fun t ht hW => zq_ro (hS.F ht)) hS.2.2 (z_d hX7_least_0 26 rfl)
  · have hF := z_neg hc8 hF
    refine lv_iload_n hx hb (z_d hX7_least_0 7 rfl) rfl (lv_at hl 0 rfl) ?_
    refine lv_goto (tgt := 44) hx hb (z_d hX7_least_0 8 rfl) (by decide) ?_
    obtain rfl := Option.some.inj hF
    subst hQ
    exact W.iret hx hb hr (fun t ht hW => zq_ro (hS.F ht)) hS.2.2 (z_d hX7_least_0 26 rfl)
def rm_X7_isText : Room := { frames := 1, cells := 0, slots := 0, locals := 22 }
set_option maxRecDepth 100000 in
set_option maxHeartbeats 4000000 in
theorem c_X7_isText (l : Launch) (Z : zZ) (Am : Nat → Nat) (M : t_Model) (p1 : Int32) (R : Int32) (hF : X7_isText M p1 = some R) : zRO l yX7_isText (zw yX7_isText cX7_isText 2 (some .boolean)) rm_X7_isText Z [.ref (Am 0), .int p1] (w_Model Z.2.1 Am M) (some (.int R)) := by
  refine zRO_of (by decide) (Nat.le_of_ble_eq_true rfl) (fun p e s m below meth c hx hb hr hml hown hts hlocks hK Q hQ ls hl hP hS => ?_)
  unfold X7_isText at hF
  have hl : lv_has ls 2 [(0, .ref (Am 0)), (1, .int p1)] := hl
  have hown : s.vm.findClass RX7 = some m.cls := hown
  have hP : va_P Z.1 vwCl (l_Model Z.2.1 Am M.1 M.2.1 M.2.2.1 M.2.2.2.1 M.2.2.2.2.1 M.2.2.2.2.2.1 M.2.2.2.2.2.2.1 M.2.2.2.2.2.2.2.1 M.2.2.2.2.2.2.2.2.1 M.2.2.2.2.2.2.2.2.2.1 M.2.2.2.2.2.2.2.2.2.2.1 M.2.2.2.2.2.2.2.2.2.2.2.1 M.2.2.2.2.2.2.2.2.2.2.2.2.1 M.2.2.2.2.2.2.2.2.2.2.2.2.2.1 M.2.2.2.2.2.2.2.2.2.2.2.2.2.2.1 M.2.2.2.2.2.2.2.2.2.2.2.2.2.2.2.1 M.2.2.2.2.2.2.2.2.2.2.2.2.2.2.2.2.1 M.2.2.2.2.2.2.2.2.2.2.2.2.2.2.2.2.2.1 M.2.2.2.2.2.2.2.2.2.2.2.2.2.2.2.2.2.2).flatten s.heap := hP
  refine lv_aload_n hx hb (z_d hX7_isText_0 0 rfl) rfl (lv_at hl 0 rfl) ?_
  refine lv_iload_n hx hb (z_d hX7_isText_0 1 rfl) rfl (lv_at hl 1 rfl) ?_
  refine lv_iconst (v := 0) hx hb (z_d hX7_isText_0 2 rfl) (by decide) ?_
  refine z_bnd hF (fun q1 hq1 hF => ?_)
  refine z_ro_i (z_rV (As := [.int p1, .int 0]) (rest := []) hx hb hml hown hts vt_X7_of (c_X7_of l Z Am M p1 0 _ hq1) rfl rfl ⟨Nat.le_of_ble_eq_true rfl, Nat.le_of_ble_eq_true rfl⟩ k_m_X7_62 zPro_blind (z_recv (q := (RX7, TX7, 19)) (ci := 7) (q0 := 0) hK (zP_reg hP 0 rfl) rfl rfl) (z_prec hK hP) rfl hl.1 (Nat.le_of_ble_eq_true rfl) (z_d hX7_isText_0 3 rfl) ⟨Nat.zero_le _, Nat.zero_le _⟩) hS hP (fun H locs hP hS => ?_)
  refine lv_iconst (v := 1) hx hb (z_d hX7_isText_0 4 rfl) (by decide) ?_
  refine lv_icmp_eq (tgt := 20) hx hb (z_d hX7_isText_0 5 rfl) (by decide) (fun hc7 => ?_) (fun hc7 => ?_)
  · have hF := z_pos hc7 hF
    refine lv_iconst (v := 1) hx hb (z_d hX7_isText_0 12 rfl) (by decide) ?_
    refine lv_goto (tgt := 25) hx hb (z_d hX7_isText_0 13 rfl) (by decide) ?_
    have hz9 : narrow .boolean (.int 1) = .int 1 := rfl
    obtain rfl := Option.some.inj hF
    subst hQ
    exact W.zret hx hb hr hz9 (fun t ht hW => zq_ro (hS.F ht)) hS.2.2 (z_d hX7_isText_0 15 rfl)
  · have hF := z_neg hc7 hF
    refine lv_aload_n hx hb (z_d hX7_isText_0 6 rfl) rfl (lv_at hl 0 rfl) ?_
    refine lv_iload_n hx hb (z_d hX7_isText_0 7 rfl) rfl (lv_at hl 1 rfl) ?_
    refine lv_iconst (v := 0) hx hb (z_d hX7_isText_0 8 rfl) (by decide) ?_
    refine z_bnd hF (fun q2 hq2 hF => ?_)
    refine z_ro_i (z_rV (As := [.int p1, .int 0]) (rest := []) hx hb hml hown hts vt_X7_of (c_X7_of l Z Am M p1 0 _ hq2) rfl rfl ⟨Nat.le_of_ble_eq_true rfl, Nat.le_of_ble_eq_true rfl⟩ k_m_X7_62 zPro_blind (z_recv (q := (RX7, TX7, 19)) (ci := 7) (q0 := 0) hK (zP_reg hP 0 rfl) rfl rfl) (z_prec hK hP) rfl hl.1 (Nat.le_of_ble_eq_true rfl) (z_d hX7_isText_0 9 rfl) ⟨Nat.zero_le _, Nat.zero_le _⟩) hS hP (fun H locs hP hS => ?_)
    refine lv_iconst (v := 3) hx hb (z_d hX7_isText_0 10 rfl) (by decide) ?_
    refine lv_icmp_ne (tgt := 24) hx hb (z_d hX7_isText_0 11 rfl) (by decide) (fun hc17 => ?_) (fun hc17 => ?_)
    · have hF := z_neg hc17 hF
      refine lv_iconst (v := 0) hx hb (z_d hX7_isText_0 14 rfl) (by decide) ?_
      have hz9 : narrow .boolean (.int 0) = .int 0 := rfl
      obtain rfl := Option.some.inj hF
      subst hQ
      exact W.zret hx hb hr hz9 (fun t ht hW => zq_ro (hS.F ht)) hS.2.2 (z_d hX7_isText_0 15 rfl)
    · have hF := z_pos hc17 hF
      refine lv_iconst (v := 1) hx hb (z_d hX7_isText_0 12 rfl) (by decide) ?_
      refine lv_goto (tgt := 25) hx hb (z_d hX7_isText_0 13 rfl) (by decide) ?_
      have hz9 : narrow .boolean (.int 1) = .int 1 := rfl
      obtain rfl := Option.some.inj hF
      subst hQ
      exact W.zret hx hb hr hz9 (fun t ht hW => zq_ro (hS.F ht)) hS.2.2 (z_d hX7_isText_0 15 rfl)
def rm_X7_wantsNext : Room := { frames := 2, cells := 0, slots := 0, locals := 43 }
set_option maxRecDepth 100000 in
set_option maxHeartbeats 4000000 in
theorem c_X7_wantsNext (l : Launch) (Z : zZ) (Am : Nat → Nat) (M : t_Model) (p1 : Int32) (R : Int32) (hF : X7_wantsNext M p1 = some R) : zRO l yX7_wantsNext (zw yX7_wantsNext cX7_wantsNext 2 (some .boolean)) rm_X7_wantsNext Z [.ref (Am 0), .int p1] (w_Model Z.2.1 Am M) (some (.int R)) := by
  refine zRO_of (by decide) (Nat.le_of_ble_eq_true rfl) (fun p e s m below meth c hx hb hr hml hown hts hlocks hK Q hQ ls hl hP hS => ?_)
  unfold X7_wantsNext at hF
  have hl : lv_has ls 2 [(0, .ref (Am 0)), (1, .int p1)] := hl
  have hown : s.vm.findClass RX7 = some m.cls := hown
  have hP : va_P Z.1 vwCl (l_Model Z.2.1 Am M.1 M.2.1 M.2.2.1 M.2.2.2.1 M.2.2.2.2.1 M.2.2.2.2.2.1 M.2.2.2.2.2.2.1 M.2.2.2.2.2.2.2.1 M.2.2.2.2.2.2.2.2.1 M.2.2.2.2.2.2.2.2.2.1 M.2.2.2.2.2.2.2.2.2.2.1 M.2.2.2.2.2.2.2.2.2.2.2.1 M.2.2.2.2.2.2.2.2.2.2.2.2.1 M.2.2.2.2.2.2.2.2.2.2.2.2.2.1 M.2.2.2.2.2.2.2.2.2.2.2.2.2.2.1 M.2.2.2.2.2.2.2.2.2.2.2.2.2.2.2.1 M.2.2.2.2.2.2.2.2.2.2.2.2.2.2.2.2.1 M.2.2.2.2.2.2.2.2.2.2.2.2.2.2.2.2.2.1 M.2.2.2.2.2.2.2.2.2.2.2.2.2.2.2.2.2.2).flatten s.heap := hP
  refine lv_aload_n hx hb (z_d hX7_wantsNext_0 0 rfl) rfl (lv_at hl 0 rfl) ?_
  refine lv_iload_n hx hb (z_d hX7_wantsNext_0 1 rfl) rfl (lv_at hl 1 rfl) ?_
  refine z_bnd hF (fun q1 hq1 hF => ?_)
  refine z_ro_i (z_rV (As := [.int p1]) (rest := []) hx hb hml hown hts vt_X7_isText (c_X7_isText l Z Am M p1 _ hq1) rfl rfl ⟨Nat.le_of_ble_eq_true rfl, Nat.le_of_ble_eq_true rfl⟩ k_m_X7_72 zPro_blind (z_recv (q := (RX7, TX7, 19)) (ci := 7) (q0 := 0) hK (zP_reg hP 0 rfl) rfl rfl) (z_prec hK hP) rfl hl.1 (Nat.le_of_ble_eq_true rfl) (z_d hX7_wantsNext_0 2 rfl) ⟨Nat.zero_le _, Nat.zero_le _⟩) hS hP (fun H locs hP hS => ?_)
  refine lv_if_ne (tgt := 43) hx hb (z_d hX7_wantsNext_0 3 rfl) (by decide) (fun hc5 => ?_) (fun hc5 => ?_)
  · have hF := z_neg hc5 hF
    refine lv_iconst (v := 0) hx hb (z_d hX7_wantsNext_0 26 rfl) (by decide) ?_
    have hz9 : narrow .boolean (.int 0) = .int 0 := rfl
    obtain rfl := Option.some.inj hF
    subst hQ
    exact W.zret hx hb hr hz9 (fun t ht hW => zq_ro (hS.F ht)) hS.2.2 (z_d hX7_wantsNext_0 27 rfl)
  · have hF := z_pos hc5 hF
    refine lv_iload_n hx hb (z_d hX7_wantsNext_0 4 rfl) rfl (lv_at hl 1 rfl) ?_
    refine lv_iconst (v := 1) hx hb (z_d hX7_wantsNext_0 5 rfl) (by decide) ?_
    refine lv_iadd hx hb (z_d hX7_wantsNext_0 6 rfl) ?_
    refine z_let hF (fun u2 hu2 hF => ?_)
    refine lv_topE hu2 ?_
    refine lv_aload_n hx hb (z_d hX7_wantsNext_0 7 rfl) rfl (lv_at hl 0 rfl) ?_
    refine va_get (D := Z.1) (ci := 7) (v := .ref (Am 1)) (C := RX7) (T := TX7) (N := 19) hx hb hts zinX7 hown hK.1 (zP_reg hP 0 rfl) 0 rfl rfl 0 (by decide) (hts _ k_f_X7_7) (fun _ h9 => h9) rfl (z_d hX7_wantsNext_0 8 rfl) ?_
    refine lv_iconst (v := 1) hx hb (z_d hX7_wantsNext_0 9 rfl) (by decide) ?_
    refine z_ix hF (fun hin hF => ?_)
    refine va_iald (D := Z.1) (f := M.1) hx hb hK.1 (zP_reg hP 1 rfl) 0 0 rfl rfl hin (z_d hX7_wantsNext_0 10 rfl) ?_
    refine z_let hF (fun u3 hu3 hF => ?_)
    refine lv_topE hu3 ?_
    refine lv_icmp_eq (tgt := 43) hx hb (z_d hX7_wantsNext_0 11 rfl) (by decide) (fun hc17 => ?_) (fun hc17 => ?_)
    · have hF := z_pos hc17 hF
      refine lv_iconst (v := 0) hx hb (z_d hX7_wantsNext_0 26 rfl) (by decide) ?_
      have hz9 : narrow .boolean (.int 0) = .int 0 := rfl
      obtain rfl := Option.some.inj hF
      subst hQ
      exact W.zret hx hb hr hz9 (fun t ht hW => zq_ro (hS.F ht)) hS.2.2 (z_d hX7_wantsNext_0 27 rfl)
    · have hF := z_neg hc17 hF
      refine lv_aload_n hx hb (z_d hX7_wantsNext_0 12 rfl) rfl (lv_at hl 0 rfl) ?_
      refine lv_iload_n hx hb (z_d hX7_wantsNext_0 13 rfl) rfl (lv_at hl 1 rfl) ?_
      refine lv_iconst (v := 1) hx hb (z_d hX7_wantsNext_0 14 rfl) (by decide) ?_
      refine lv_iadd hx hb (z_d hX7_wantsNext_0 15 rfl) ?_
      refine z_let hF (fun u4 hu4 hF => ?_)
      refine lv_topE hu4 ?_
      refine lv_bipush (v := 8) hx hb (z_d hX7_wantsNext_0 16 rfl) (by decide) ?_
      refine z_bnd hF (fun q5 hq5 hF => ?_)
      refine z_ro_i (z_rV (As := [.int u4, .int 8]) (rest := []) hx hb hml hown hts vt_X7_of (c_X7_of l Z Am M u4 8 _ hq5) rfl rfl ⟨Nat.le_of_ble_eq_true rfl, Nat.le_of_ble_eq_true rfl⟩ k_m_X7_62 zPro_blind (z_recv (q := (RX7, TX7, 19)) (ci := 7) (q0 := 0) hK (zP_reg hP 0 rfl) rfl rfl) (z_prec hK hP) rfl hl.1 (Nat.le_of_ble_eq_true rfl) (z_d hX7_wantsNext_0 17 rfl) ⟨Nat.zero_le _, Nat.zero_le _⟩) hS hP (fun H locs hP hS => ?_)
      refine lv_iconst (v := (-1)) hx hb (z_d hX7_wantsNext_0 18 rfl) (by decide) ?_
      refine lv_icmp_ne (tgt := 43) hx hb (z_d hX7_wantsNext_0 19 rfl) (by decide) (fun hc30 => ?_) (fun hc30 => ?_)
      · have hF := z_neg hc30 hF
        refine lv_iconst (v := 0) hx hb (z_d hX7_wantsNext_0 26 rfl) (by decide) ?_
        have hz9 : narrow .boolean (.int 0) = .int 0 := rfl
        obtain rfl := Option.some.inj hF
        subst hQ
        exact W.zret hx hb hr hz9 (fun t ht hW => zq_ro (hS.F ht)) hS.2.2 (z_d hX7_wantsNext_0 27 rfl)
      · have hF := z_pos hc30 hF
        refine lv_aload_n hx hb (z_d hX7_wantsNext_0 20 rfl) rfl (lv_at hl 0 rfl) ?_
        refine lv_iload_n hx hb (z_d hX7_wantsNext_0 21 rfl) rfl (lv_at hl 1 rfl) ?_
        refine lv_iconst (v := 1) hx hb (z_d hX7_wantsNext_0 22 rfl) (by decide) ?_
        refine lv_iadd hx hb (z_d hX7_wantsNext_0 23 rfl) ?_
        refine z_let hF (fun u6 hu6 hF => ?_)
        refine lv_topE hu6 ?_
        refine z_bnd hF (fun q7 hq7 hF => ?_)
        refine z_ro_i (z_rV (As := [.int u6]) (rest := []) hx hb hml hown hts vt_X7_isHeading (c_X7_isHeading l Z Am M u6 _ hq7) rfl rfl ⟨Nat.le_of_ble_eq_true rfl, Nat.le_of_ble_eq_true rfl⟩ k_m_X7_76 zPro_blind (z_recv (q := (RX7, TX7, 19)) (ci := 7) (q0 := 0) hK (zP_reg hP 0 rfl) rfl rfl) (z_prec hK hP) rfl hl.1 (Nat.le_of_ble_eq_true rfl) (z_d hX7_wantsNext_0 24 rfl) ⟨Nat.zero_le _, Nat.zero_le _⟩) hS hP (fun H locs hP hS => ?_)
        refine lv_if_eq (tgt := 45) hx hb (z_d hX7_wantsNext_0 25 rfl) (by decide) (fun hc40 => ?_) (fun hc40 => ?_)
        · have hF := z_pos hc40 hF
          refine lv_aload_n hx hb (z_d hX7_wantsNext_0 28 rfl) rfl (lv_at hl 0 rfl) ?_
          refine lv_iload_n hx hb (z_d hX7_wantsNext_0 29 rfl) rfl (lv_at hl 1 rfl) ?_
          refine z_bnd hF (fun q8 hq8 hF => ?_)
          refine z_ro_i (z_rV (As := [.int p1]) (rest := []) hx hb hml hown hts vt_X7_isHeading (c_X7_isHeading l Z Am M p1 _ hq8) rfl rfl ⟨Nat.le_of_ble_eq_true rfl, Nat.le_of_ble_eq_true rfl⟩ k_m_X7_76 zPro_blind (z_recv (q := (RX7, TX7, 19)) (ci := 7) (q0 := 0) hK (zP_reg hP 0 rfl) rfl rfl) (z_prec hK hP) rfl hl.1 (Nat.le_of_ble_eq_true rfl) (z_d hX7_wantsNext_0 30 rfl) ⟨Nat.zero_le _, Nat.zero_le _⟩) hS hP (fun H locs hP hS => ?_)
          refine lv_if_ne (tgt := 77) hx hb (z_d hX7_wantsNext_0 31 rfl) (by decide) (fun hc50 => ?_) (fun hc50 => ?_)
          · have hF := z_neg hc50 hF
            refine lv_iconst (v := 1) hx hb (z_d hX7_wantsNext_0 48 rfl) (by decide) ?_
            refine lv_goto (tgt := 82) hx hb (z_d hX7_wantsNext_0 49 rfl) (by decide) ?_
            have hz9 : narrow .boolean (.int 1) = .int 1 := rfl
            obtain rfl := Option.some.inj hF
            subst hQ
            exact W.zret hx hb hr hz9 (fun t ht hW => zq_ro (hS.F ht)) hS.2.2 (z_d hX7_wantsNext_0 51 rfl)
          · have hF := z_pos hc50 hF
            refine lv_aload_n hx hb (z_d hX7_wantsNext_0 32 rfl) rfl (lv_at hl 0 rfl) ?_
            refine lv_iload_n hx hb (z_d hX7_wantsNext_0 33 rfl) rfl (lv_at hl 1 rfl) ?_
            refine lv_iconst (v := 1) hx hb (z_d hX7_wantsNext_0 34 rfl) (by decide) ?_
            refine lv_iadd hx hb (z_d hX7_wantsNext_0 35 rfl) ?_
            refine z_let hF (fun u9 hu9 hF => ?_)
            refine lv_topE hu9 ?_
            refine lv_iconst (v := 0) hx hb (z_d hX7_wantsNext_0 36 rfl) (by decide) ?_
            refine z_bnd hF (fun q10 hq10 hF => ?_)
            refine z_ro_i (z_rV (As := [.int u9, .int 0]) (rest := []) hx hb hml hown hts vt_X7_of (c_X7_of l Z Am M u9 0 _ hq10) rfl rfl ⟨Nat.le_of_ble_eq_true rfl, Nat.le_of_ble_eq_true rfl⟩ k_m_X7_62 zPro_blind (z_recv (q := (RX7, TX7, 19)) (ci := 7) (q0 := 0) hK (zP_reg hP 0 rfl) rfl rfl) (z_prec hK hP) rfl hl.1 (Nat.le_of_ble_eq_true rfl) (z_d hX7_wantsNext_0 37 rfl) ⟨Nat.zero_le _, Nat.zero_le _⟩) hS hP (fun H locs hP hS => ?_)
            refine lv_iconst (v := 4) hx hb (z_d hX7_wantsNext_0 38 rfl) (by decide) ?_
            refine lv_icmp_eq (tgt := 77) hx hb (z_d hX7_wantsNext_0 39 rfl) (by decide) (fun hc62 => ?_) (fun hc62 => ?_)
            · have hF := z_pos hc62 hF
              refine lv_iconst (v := 1) hx hb (z_d hX7_wantsNext_0 48 rfl) (by decide) ?_
              refine lv_goto (tgt := 82) hx hb (z_d hX7_wantsNext_0 49 rfl) (by decide) ?_
              have hz9 : narrow .boolean (.int 1) = .int 1 := rfl
              obtain rfl := Option.some.inj hF
              subst hQ
              exact W.zret hx hb hr hz9 (fun t ht hW => zq_ro (hS.F ht)) hS.2.2 (z_d hX7_wantsNext_0 51 rfl)
            · have hF := z_neg hc62 hF
              refine lv_aload_n hx hb (z_d hX7_wantsNext_0 40 rfl) rfl (lv_at hl 0 rfl) ?_
              refine lv_iload_n hx hb (z_d hX7_wantsNext_0 41 rfl) rfl (lv_at hl 1 rfl) ?_
              refine lv_iconst (v := 1) hx hb (z_d hX7_wantsNext_0 42 rfl) (by decide) ?_
              refine lv_iadd hx hb (z_d hX7_wantsNext_0 43 rfl) ?_
              refine z_let hF (fun u11 hu11 hF => ?_)
              refine lv_topE hu11 ?_
              refine lv_iconst (v := 0) hx hb (z_d hX7_wantsNext_0 44 rfl) (by decide) ?_
              refine z_bnd hF (fun q12 hq12 hF => ?_)
              refine z_ro_i (z_rV (As := [.int u11, .int 0]) (rest := []) hx hb hml hown hts vt_X7_of (c_X7_of l Z Am M u11 0 _ hq12) rfl rfl ⟨Nat.le_of_ble_eq_true rfl, Nat.le_of_ble_eq_true rfl⟩ k_m_X7_62 zPro_blind (z_recv (q := (RX7, TX7, 19)) (ci := 7) (q0 := 0) hK (zP_reg hP 0 rfl) rfl rfl) (z_prec hK hP) rfl hl.1 (Nat.le_of_ble_eq_true rfl) (z_d hX7_wantsNext_0 45 rfl) ⟨Nat.zero_le _, Nat.zero_le _⟩) hS hP (fun H locs hP hS => ?_)
              refine lv_iconst (v := 3) hx hb (z_d hX7_wantsNext_0 46 rfl) (by decide) ?_
              refine lv_icmp_ne (tgt := 81) hx hb (z_d hX7_wantsNext_0 47 rfl) (by decide) (fun hc74 => ?_) (fun hc74 => ?_)
              · have hF := z_neg hc74 hF
                refine lv_iconst (v := 0) hx hb (z_d hX7_wantsNext_0 50 rfl) (by decide) ?_
                have hz9 : narrow .boolean (.int 0) = .int 0 := rfl
                obtain rfl := Option.some.inj hF
                subst hQ
                exact W.zret hx hb hr hz9 (fun t ht hW => zq_ro (hS.F ht)) hS.2.2 (z_d hX7_wantsNext_0 51 rfl)
              · have hF := z_pos hc74 hF
                refine lv_iconst (v := 1) hx hb (z_d hX7_wantsNext_0 48 rfl) (by decide) ?_
                refine lv_goto (tgt := 82) hx hb (z_d hX7_wantsNext_0 49 rfl) (by decide) ?_
                have hz9 : narrow .boolean (.int 1) = .int 1 := rfl
                obtain rfl := Option.some.inj hF
                subst hQ
                exact W.zret hx hb hr hz9 (fun t ht hW => zq_ro (hS.F ht)) hS.2.2 (z_d hX7_wantsNext_0 51 rfl)
        · have hF := z_neg hc40 hF
          refine lv_iconst (v := 0) hx hb (z_d hX7_wantsNext_0 26 rfl) (by decide) ?_
          have hz9 : narrow .boolean (.int 0) = .int 0 := rfl
          obtain rfl := Option.some.inj hF
          subst hQ
          exact W.zret hx hb hr hz9 (fun t ht hW => zq_ro (hS.F ht)) hS.2.2 (z_d hX7_wantsNext_0 27 rfl)
def rm_X7_need : Room := { frames := 3, cells := 0, slots := 0, locals := 66 }
set_option maxRecDepth 100000 in
set_option maxHeartbeats 4000000 in
theorem c_X7_need (l : Launch) (Z : zZ) (Am : Nat → Nat) (M : t_Model) (p1 : Int32) (R : Int32) (hF : X7_need M p1 = some R) : zRO l yX7_need (zw yX7_need cX7_need 4 (some .int)) rm_X7_need Z [.ref (Am 0), .int p1] (w_Model Z.2.1 Am M) (some (.int R)) := by
  refine zRO_of (by decide) (Nat.le_of_ble_eq_true rfl) (fun p e s m below meth c hx hb hr hml hown hts hlocks hK Q hQ ls hl hP hS => ?_)
  unfold X7_need at hF
  have hl : lv_has ls 4 [(0, .ref (Am 0)), (1, .int p1)] := hl
  have hown : s.vm.findClass RX7 = some m.cls := hown
  have hP : va_P Z.1 vwCl (l_Model Z.2.1 Am M.1 M.2.1 M.2.2.1 M.2.2.2.1 M.2.2.2.2.1 M.2.2.2.2.2.1 M.2.2.2.2.2.2.1 M.2.2.2.2.2.2.2.1 M.2.2.2.2.2.2.2.2.1 M.2.2.2.2.2.2.2.2.2.1 M.2.2.2.2.2.2.2.2.2.2.1 M.2.2.2.2.2.2.2.2.2.2.2.1 M.2.2.2.2.2.2.2.2.2.2.2.2.1 M.2.2.2.2.2.2.2.2.2.2.2.2.2.1 M.2.2.2.2.2.2.2.2.2.2.2.2.2.2.1 M.2.2.2.2.2.2.2.2.2.2.2.2.2.2.2.1 M.2.2.2.2.2.2.2.2.2.2.2.2.2.2.2.2.1 M.2.2.2.2.2.2.2.2.2.2.2.2.2.2.2.2.2.1 M.2.2.2.2.2.2.2.2.2.2.2.2.2.2.2.2.2.2).flatten s.heap := hP
  have L4 : ∀  (n : Nat) (v : Int32 × Int32) (X : Int32 × Int32) (hF : zloop (b_X7_need_4 M p1 ) n v = some X) (H : Heap) (locs : List Loc) (ls : Array Slot) (hP : va_P Z.1 vwCl (l_Model Z.2.1 Am M.1 M.2.1 M.2.2.1 M.2.2.2.1 M.2.2.2.2.1 M.2.2.2.2.2.1 M.2.2.2.2.2.2.1 M.2.2.2.2.2.2.2.1 M.2.2.2.2.2.2.2.2.1 M.2.2.2.2.2.2.2.2.2.1 M.2.2.2.2.2.2.2.2.2.2.1 M.2.2.2.2.2.2.2.2.2.2.2.1 M.2.2.2.2.2.2.2.2.2.2.2.2.1 M.2.2.2.2.2.2.2.2.2.2.2.2.2.1 M.2.2.2.2.2.2.2.2.2.2.2.2.2.2.1 M.2.2.2.2.2.2.2.2.2.2.2.2.2.2.2.1 M.2.2.2.2.2.2.2.2.2.2.2.2.2.2.2.2.1 M.2.2.2.2.2.2.2.2.2.2.2.2.2.2.2.2.2.1 M.2.2.2.2.2.2.2.2.2.2.2.2.2.2.2.2.2.2).flatten H) (hS : va_S (fun _ => False) s.heap H locs) (hl : lv_has ls 4 [(0, .ref (Am 0)), (1, .int p1), (2, .int v.1), (3, .int v.2)]) (K1 : ∀ (H : Heap) (locs : List Loc) (ls : Array Slot) (hP : va_P Z.1 vwCl (l_Model Z.2.1 Am M.1 M.2.1 M.2.2.1 M.2.2.2.1 M.2.2.2.2.1 M.2.2.2.2.2.1 M.2.2.2.2.2.2.1 M.2.2.2.2.2.2.2.1 M.2.2.2.2.2.2.2.2.1 M.2.2.2.2.2.2.2.2.2.1 M.2.2.2.2.2.2.2.2.2.2.1 M.2.2.2.2.2.2.2.2.2.2.2.1 M.2.2.2.2.2.2.2.2.2.2.2.2.1 M.2.2.2.2.2.2.2.2.2.2.2.2.2.1 M.2.2.2.2.2.2.2.2.2.2.2.2.2.2.1 M.2.2.2.2.2.2.2.2.2.2.2.2.2.2.2.1 M.2.2.2.2.2.2.2.2.2.2.2.2.2.2.2.2.1 M.2.2.2.2.2.2.2.2.2.2.2.2.2.2.2.2.2.1 M.2.2.2.2.2.2.2.2.2.2.2.2.2.2.2.2.2.2).flatten H) (hS : va_S (fun _ => False) s.heap H locs) (hl : lv_has ls 4 [(0, .ref (Am 0)), (1, .int p1), (2, .int X.1), (3, .int X.2)]), W p l e rm_X7_need s m ([.ref (Am 0), .int p1] : List Value).toArray below meth c H locs 0 0 Q (F0 m 34 ls [])), W p l e rm_X7_need s m ([.ref (Am 0), .int p1] : List Value).toArray below meth c H locs 0 0 Q (F0 m 4 ls []) := by
    skip
    refine z_loopE (fun rec ih v X hF H locs ls hP hS hl K1 => ?_)
    unfold b_X7_need_4 at hF
    refine lv_aload_n hx hb (z_d hX7_need_0 4 rfl) rfl (lv_at hl 0 rfl) ?_
    refine lv_iload_n hx hb (z_d hX7_need_0 5 rfl) rfl (lv_at hl 2 rfl) ?_
    refine z_bnd hF (fun q1 hq1 hF => ?_)
    refine z_ro_i (z_rV (As := [.int v.1]) (rest := []) hx hb hml hown hts vt_X7_wantsNext (c_X7_wantsNext l Z Am M v.1 _ hq1) rfl rfl ⟨Nat.le_of_ble_eq_true rfl, Nat.le_of_ble_eq_true rfl⟩ k_m_X7_79 zPro_blind (z_recv (q := (RX7, TX7, 19)) (ci := 7) (q0 := 0) hK (zP_reg hP 0 rfl) rfl rfl) (z_prec hK hP) rfl hl.1 (Nat.le_of_ble_eq_true rfl) (z_d hX7_need_0 6 rfl) ⟨Nat.zero_le _, Nat.zero_le _⟩) hS hP (fun H locs hP hS => ?_)
    refine lv_if_eq (tgt := 34) hx hb (z_d hX7_need_0 7 rfl) (by decide) (fun hc9 => ?_) (fun hc9 => ?_)
    · have hF := z_pos hc9 hF
      obtain rfl := Option.some.inj hF
      exact K1 _ _ ls hP hS (lv_sub hl [0, 1, 2, 3] rfl)
    · have hF := z_neg hc9 hF
      refine lv_iload_n hx hb (z_d hX7_need_0 8 rfl) rfl (lv_at hl 3 rfl) ?_
      refine lv_aload_n hx hb (z_d hX7_need_0 9 rfl) rfl (lv_at hl 0 rfl) ?_
      refine lv_iload_n hx hb (z_d hX7_need_0 10 rfl) rfl (lv_at hl 2 rfl) ?_
      refine z_bnd hF (fun q2 hq2 hF => ?_)
      refine z_ro_i (z_rV (As := [.int v.1]) (rest := [.int v.2]) hx hb hml hown hts vt_X7_lines (c_X7_lines l Z Am M v.1 _ hq2) rfl rfl ⟨Nat.le_of_ble_eq_true rfl, Nat.le_of_ble_eq_true rfl⟩ k_m_X7_69 zPro_blind (z_recv (q := (RX7, TX7, 19)) (ci := 7) (q0 := 0) hK (zP_reg hP 0 rfl) rfl rfl) (z_prec hK hP) rfl hl.1 (Nat.le_of_ble_eq_true rfl) (z_d hX7_need_0 11 rfl) ⟨Nat.zero_le _, Nat.zero_le _⟩) hS hP (fun H locs hP hS => ?_)
      refine lv_aload_n hx hb (z_d hX7_need_0 12 rfl) rfl (lv_at hl 0 rfl) ?_
      refine lv_iload_n hx hb (z_d hX7_need_0 13 rfl) rfl (lv_at hl 2 rfl) ?_
      refine lv_iconst (v := 1) hx hb (z_d hX7_need_0 14 rfl) (by decide) ?_
      refine lv_iadd hx hb (z_d hX7_need_0 15 rfl) ?_
      refine z_let hF (fun u3 hu3 hF => ?_)
      refine lv_topE hu3 ?_
      refine z_bnd hF (fun q4 hq4 hF => ?_)
      refine z_ro_i (z_rV (As := [.int u3]) (rest := [.int q2, .int v.2]) hx hb hml hown hts vt_X7_blanks (c_X7_blanks l Z Am M u3 _ hq4) rfl rfl ⟨Nat.le_of_ble_eq_true rfl, Nat.le_of_ble_eq_true rfl⟩ k_m_X7_82 zPro_blind (z_recv (q := (RX7, TX7, 19)) (ci := 7) (q0 := 0) hK (zP_reg hP 0 rfl) rfl rfl) (z_prec hK hP) rfl hl.1 (Nat.le_of_ble_eq_true rfl) (z_d hX7_need_0 16 rfl) ⟨Nat.zero_le _, Nat.zero_le _⟩) hS hP (fun H locs hP hS => ?_)
      refine lv_iadd hx hb (z_d hX7_need_0 17 rfl) ?_
      refine z_let hF (fun u5 hu5 hF => ?_)
      refine lv_topE hu5 ?_
      refine lv_iadd hx hb (z_d hX7_need_0 18 rfl) ?_
      refine z_let hF (fun u6 hu6 hF => ?_)
      refine lv_topE hu6 ?_
      refine lv_istore_n (lv' := [(3, .int u6), (0, .ref (Am 0)), (1, .int p1), (2, .int v.1)]) hx hb (z_d hX7_need_0 19 rfl) rfl hl (by decide) rfl (fun ls hl => ?_)
      refine z_let hF (fun u7 hu7 hF => ?_)
      refine lv_iinc (v := u7) (lv' := [(2, .int u7), (3, .int u6), (0, .ref (Am 0)), (1, .int p1)]) hx hb (z_d hX7_need_0 20 rfl) hl (k := 3) rfl (z_inc1 hu7) (by decide) rfl (fun ls hl => ?_)
      refine lv_goto (tgt := 4) hx hb (z_d hX7_need_0 21 rfl) (by decide) ?_
      exact ih _ _ hF _ _ ls hP hS (lv_sub hl [2, 3, 0, 1] rfl) K1
  refine lv_iload_n hx hb (z_d hX7_need_0 0 rfl) rfl (lv_at hl 1 rfl) ?_
  refine lv_istore_n (lv' := [(2, .int p1), (0, .ref (Am 0)), (1, .int p1)]) hx hb (z_d hX7_need_0 1 rfl) rfl hl (by decide) rfl (fun ls hl => ?_)
  refine lv_iconst (v := 0) hx hb (z_d hX7_need_0 2 rfl) (by decide) ?_
  refine lv_istore_n (lv' := [(3, .int 0), (2, .int p1), (0, .ref (Am 0)), (1, .int p1)]) hx hb (z_d hX7_need_0 3 rfl) rfl hl (by decide) rfl (fun ls hl => ?_)
  refine z_bnd hF (fun q8 hq8 hF => ?_)
  refine L4  _ _ _ hq8 _ _ ls hP hS (lv_sub hl [2, 3, 1, 0] rfl) (fun H locs ls hP hS hl => ?_)
  refine lv_iload_n hx hb (z_d hX7_need_0 22 rfl) rfl (lv_at hl 3 rfl) ?_
  refine lv_aload_n hx hb (z_d hX7_need_0 23 rfl) rfl (lv_at hl 0 rfl) ?_
  refine lv_iload_n hx hb (z_d hX7_need_0 24 rfl) rfl (lv_at hl 2 rfl) ?_
  refine z_bnd hF (fun q9 hq9 hF => ?_)
  refine z_ro_i (z_rV (As := [.int q8.1]) (rest := [.int q8.2]) hx hb hml hown hts vt_X7_least (c_X7_least l Z Am M q8.1 _ hq9) rfl rfl ⟨Nat.le_of_ble_eq_true rfl, Nat.le_of_ble_eq_true rfl⟩ k_m_X7_85 zPro_blind (z_recv (q := (RX7, TX7, 19)) (ci := 7) (q0 := 0) hK (zP_reg hP 0 rfl) rfl rfl) (z_prec hK hP) rfl hl.1 (Nat.le_of_ble_eq_true rfl) (z_d hX7_need_0 25 rfl) ⟨Nat.zero_le _, Nat.zero_le _⟩) hS hP (fun H locs hP hS => ?_)
  refine lv_iadd hx hb (z_d hX7_need_0 26 rfl) ?_
  refine z_let hF (fun u10 hu10 hF => ?_)
  refine lv_topE hu10 ?_
  obtain rfl := Option.some.inj hF
  subst hQ
  exact W.iret hx hb hr (fun t ht hW => zq_ro (hS.F ht)) hS.2.2 (z_d hX7_need_0 27 rfl)
def rm_X7_sceneMany : Room := { frames := 2, cells := 0, slots := 0, locals := 43 }
set_option maxRecDepth 100000 in
set_option maxHeartbeats 4000000 in
theorem c_X7_sceneMany (l : Launch) (Z : zZ) (Am : Nat → Nat) (M : t_Model) (R : Int32) (hF : X7_sceneMany M = some R) : zRO l yX7_sceneMany (zw yX7_sceneMany cX7_sceneMany 3 (some .int)) rm_X7_sceneMany Z [.ref (Am 0)] (w_Model Z.2.1 Am M) (some (.int R)) := by
  refine zRO_of (by decide) (Nat.le_of_ble_eq_true rfl) (fun p e s m below meth c hx hb hr hml hown hts hlocks hK Q hQ ls hl hP hS => ?_)
  unfold X7_sceneMany at hF
  have hl : lv_has ls 3 [(0, .ref (Am 0))] := hl
  have hown : s.vm.findClass RX7 = some m.cls := hown
  have hP : va_P Z.1 vwCl (l_Model Z.2.1 Am M.1 M.2.1 M.2.2.1 M.2.2.2.1 M.2.2.2.2.1 M.2.2.2.2.2.1 M.2.2.2.2.2.2.1 M.2.2.2.2.2.2.2.1 M.2.2.2.2.2.2.2.2.1 M.2.2.2.2.2.2.2.2.2.1 M.2.2.2.2.2.2.2.2.2.2.1 M.2.2.2.2.2.2.2.2.2.2.2.1 M.2.2.2.2.2.2.2.2.2.2.2.2.1 M.2.2.2.2.2.2.2.2.2.2.2.2.2.1 M.2.2.2.2.2.2.2.2.2.2.2.2.2.2.1 M.2.2.2.2.2.2.2.2.2.2.2.2.2.2.2.1 M.2.2.2.2.2.2.2.2.2.2.2.2.2.2.2.2.1 M.2.2.2.2.2.2.2.2.2.2.2.2.2.2.2.2.2.1 M.2.2.2.2.2.2.2.2.2.2.2.2.2.2.2.2.2.2).flatten s.heap := hP
  have L4 : ∀  (n : Nat) (v : Int32 × Int32) (X : Int32) (hF : zloop (b_X7_sceneMany_4 M ) n v = some X) (H : Heap) (locs : List Loc) (ls : Array Slot) (hP : va_P Z.1 vwCl (l_Model Z.2.1 Am M.1 M.2.1 M.2.2.1 M.2.2.2.1 M.2.2.2.2.1 M.2.2.2.2.2.1 M.2.2.2.2.2.2.1 M.2.2.2.2.2.2.2.1 M.2.2.2.2.2.2.2.2.1 M.2.2.2.2.2.2.2.2.2.1 M.2.2.2.2.2.2.2.2.2.2.1 M.2.2.2.2.2.2.2.2.2.2.2.1 M.2.2.2.2.2.2.2.2.2.2.2.2.1 M.2.2.2.2.2.2.2.2.2.2.2.2.2.1 M.2.2.2.2.2.2.2.2.2.2.2.2.2.2.1 M.2.2.2.2.2.2.2.2.2.2.2.2.2.2.2.1 M.2.2.2.2.2.2.2.2.2.2.2.2.2.2.2.2.1 M.2.2.2.2.2.2.2.2.2.2.2.2.2.2.2.2.2.1 M.2.2.2.2.2.2.2.2.2.2.2.2.2.2.2.2.2.2).flatten H) (hS : va_S (fun _ => False) s.heap H locs) (hl : lv_has ls 3 [(0, .ref (Am 0)), (1, .int v.1), (2, .int v.2)]) (K1 : ∀ (H : Heap) (locs : List Loc) (ls : Array Slot) (hP : va_P Z.1 vwCl (l_Model Z.2.1 Am M.1 M.2.1 M.2.2.1 M.2.2.2.1 M.2.2.2.2.1 M.2.2.2.2.2.1 M.2.2.2.2.2.2.1 M.2.2.2.2.2.2.2.1 M.2.2.2.2.2.2.2.2.1 M.2.2.2.2.2.2.2.2.2.1 M.2.2.2.2.2.2.2.2.2.2.1 M.2.2.2.2.2.2.2.2.2.2.2.1 M.2.2.2.2.2.2.2.2.2.2.2.2.1 M.2.2.2.2.2.2.2.2.2.2.2.2.2.1 M.2.2.2.2.2.2.2.2.2.2.2.2.2.2.1 M.2.2.2.2.2.2.2.2.2.2.2.2.2.2.2.1 M.2.2.2.2.2.2.2.2.2.2.2.2.2.2.2.2.1 M.2.2.2.2.2.2.2.2.2.2.2.2.2.2.2.2.2.1 M.2.2.2.2.2.2.2.2.2.2.2.2.2.2.2.2.2.2).flatten H) (hS : va_S (fun _ => False) s.heap H locs) (hl : lv_has ls 3 [(0, .ref (Am 0)), (1, .int X)]), W p l e rm_X7_sceneMany s m ([.ref (Am 0)] : List Value).toArray below meth c H locs 0 0 Q (F0 m 36 ls [])), W p l e rm_X7_sceneMany s m ([.ref (Am 0)] : List Value).toArray below meth c H locs 0 0 Q (F0 m 4 ls []) := by
    skip
    refine z_loopE (fun rec ih v X hF H locs ls hP hS hl K1 => ?_)
    unfold b_X7_sceneMany_4 at hF
    refine lv_iload_n hx hb (z_d hX7_sceneMany_0 4 rfl) rfl (lv_at hl 2 rfl) ?_
    refine lv_aload_n hx hb (z_d hX7_sceneMany_0 5 rfl) rfl (lv_at hl 0 rfl) ?_
    refine va_get (D := Z.1) (ci := 7) (v := .ref (Am 1)) (C := RX7) (T := TX7) (N := 19) hx hb hts zinX7 hown hK.1 (zP_reg hP 0 rfl) 0 rfl rfl 0 (by decide) (hts _ k_f_X7_7) (fun _ h9 => h9) rfl (z_d hX7_sceneMany_0 6 rfl) ?_
    refine lv_iconst (v := 1) hx hb (z_d hX7_sceneMany_0 7 rfl) (by decide) ?_
    refine z_ix hF (fun hin hF => ?_)
    refine va_iald (D := Z.1) (f := M.1) hx hb hK.1 (zP_reg hP 1 rfl) 0 0 rfl rfl hin (z_d hX7_sceneMany_0 8 rfl) ?_
    refine z_let hF (fun u1 hu1 hF => ?_)
    refine lv_topE hu1 ?_
    refine lv_icmp_ge (tgt := 36) hx hb (z_d hX7_sceneMany_0 9 rfl) (by decide) (fun hc11 => ?_) (fun hc11 => ?_)
    · have hF := z_pos hc11 hF
      obtain rfl := Option.some.inj hF
      exact K1 _ _ ls hP hS (lv_sub hl [0, 1] rfl)
    · have hF := z_neg hc11 hF
      refine lv_iload_n hx hb (z_d hX7_sceneMany_0 10 rfl) rfl (lv_at hl 1 rfl) ?_
      refine lv_aload_n hx hb (z_d hX7_sceneMany_0 11 rfl) rfl (lv_at hl 0 rfl) ?_
      refine lv_iload_n hx hb (z_d hX7_sceneMany_0 12 rfl) rfl (lv_at hl 2 rfl) ?_
      refine z_bnd hF (fun q2 hq2 hF => ?_)
      refine z_ro_i (z_rV (As := [.int v.2]) (rest := [.int v.1]) hx hb hml hown hts vt_X7_isHeading (c_X7_isHeading l Z Am M v.2 _ hq2) rfl rfl ⟨Nat.le_of_ble_eq_true rfl, Nat.le_of_ble_eq_true rfl⟩ k_m_X7_76 zPro_blind (z_recv (q := (RX7, TX7, 19)) (ci := 7) (q0 := 0) hK (zP_reg hP 0 rfl) rfl rfl) (z_prec hK hP) rfl hl.1 (Nat.le_of_ble_eq_true rfl) (z_d hX7_sceneMany_0 13 rfl) ⟨Nat.zero_le _, Nat.zero_le _⟩) hS hP (fun H locs hP hS => ?_)
      refine lv_if_eq (tgt := 27) hx hb (z_d hX7_sceneMany_0 14 rfl) (by decide) (fun hc20 => ?_) (fun hc20 => ?_)
      · have hF := z_pos hc20 hF
        refine lv_iconst (v := 0) hx hb (z_d hX7_sceneMany_0 17 rfl) (by decide) ?_
        refine lv_iadd hx hb (z_d hX7_sceneMany_0 18 rfl) ?_
        refine z_let hF (fun u3 hu3 hF => ?_)
        refine lv_topE hu3 ?_
        refine lv_istore_n (lv' := [(1, .int u3), (0, .ref (Am 0)), (2, .int v.2)]) hx hb (z_d hX7_sceneMany_0 19 rfl) rfl hl (by decide) rfl (fun ls hl => ?_)
        refine z_let hF (fun u4 hu4 hF => ?_)
        refine lv_iinc (v := u4) (lv' := [(2, .int u4), (1, .int u3), (0, .ref (Am 0))]) hx hb (z_d hX7_sceneMany_0 20 rfl) hl (k := 2) rfl (z_inc1 hu4) (by decide) rfl (fun ls hl => ?_)
        refine lv_goto (tgt := 4) hx hb (z_d hX7_sceneMany_0 21 rfl) (by decide) ?_
        exact ih _ _ hF _ _ ls hP hS (lv_sub hl [2, 1, 0] rfl) K1
      · have hF := z_neg hc20 hF
        refine lv_iconst (v := 1) hx hb (z_d hX7_sceneMany_0 15 rfl) (by decide) ?_
        refine lv_goto (tgt := 28) hx hb (z_d hX7_sceneMany_0 16 rfl) (by decide) ?_
        refine lv_iadd hx hb (z_d hX7_sceneMany_0 18 rfl) ?_
        refine z_let hF (fun u5 hu5 hF => ?_)
        refine lv_topE hu5 ?_
        refine lv_istore_n (lv' := [(1, .int u5), (0, .ref (Am 0)), (2, .int v.2)]) hx hb (z_d hX7_sceneMany_0 19 rfl) rfl hl (by decide) rfl (fun ls hl => ?_)
        refine z_let hF (fun u6 hu6 hF => ?_)
        refine lv_iinc (v := u6) (lv' := [(2, .int u6), (1, .int u5), (0, .ref (Am 0))]) hx hb (z_d hX7_sceneMany_0 20 rfl) hl (k := 2) rfl (z_inc1 hu6) (by decide) rfl (fun ls hl => ?_)
        refine lv_goto (tgt := 4) hx hb (z_d hX7_sceneMany_0 21 rfl) (by decide) ?_
        exact ih _ _ hF _ _ ls hP hS (lv_sub hl [2, 1, 0] rfl) K1
  refine lv_iconst (v := 0) hx hb (z_d hX7_sceneMany_0 0 rfl) (by decide) ?_
  refine lv_istore_n (lv' := [(1, .int 0), (0, .ref (Am 0))]) hx hb (z_d hX7_sceneMany_0 1 rfl) rfl hl (by decide) rfl (fun ls hl => ?_)
  refine lv_iconst (v := 0) hx hb (z_d hX7_sceneMany_0 2 rfl) (by decide) ?_
  refine lv_istore_n (lv' := [(2, .int 0), (1, .int 0), (0, .ref (Am 0))]) hx hb (z_d hX7_sceneMany_0 3 rfl) rfl hl (by decide) rfl (fun ls hl => ?_)
  refine z_bnd hF (fun q7 hq7 hF => ?_)
  refine L4  _ _ _ hq7 _ _ ls hP hS (lv_sub hl [2, 1, 0] rfl) (fun H locs ls hP hS hl => ?_)
  refine lv_iload_n hx hb (z_d hX7_sceneMany_0 22 rfl) rfl (lv_at hl 1 rfl) ?_
  obtain rfl := Option.some.inj hF
  subst hQ
  exact W.iret hx hb hr (fun t ht hW => zq_ro (hS.F ht)) hS.2.2 (z_d hX7_sceneMany_0 23 rfl)
def rm_X7_headingOf : Room := { frames := 2, cells := 0, slots := 0, locals := 43 }
set_option maxRecDepth 100000 in
set_option maxHeartbeats 4000000 in
theorem c_X7_headingOf (l : Launch) (Z : zZ) (Am : Nat → Nat) (M : t_Model) (p1 : Int32) (R : Int32) (hF : X7_headingOf M p1 = some R) : zRO l yX7_headingOf (zw yX7_headingOf cX7_headingOf 4 (some .int)) rm_X7_headingOf Z [.ref (Am 0), .int p1] (w_Model Z.2.1 Am M) (some (.int R)) := by
  refine zRO_of (by decide) (Nat.le_of_ble_eq_true rfl) (fun p e s m below meth c hx hb hr hml hown hts hlocks hK Q hQ ls hl hP hS => ?_)
  unfold X7_headingOf at hF
  have hl : lv_has ls 4 [(0, .ref (Am 0)), (1, .int p1)] := hl
  have hown : s.vm.findClass RX7 = some m.cls := hown
  have hP : va_P Z.1 vwCl (l_Model Z.2.1 Am M.1 M.2.1 M.2.2.1 M.2.2.2.1 M.2.2.2.2.1 M.2.2.2.2.2.1 M.2.2.2.2.2.2.1 M.2.2.2.2.2.2.2.1 M.2.2.2.2.2.2.2.2.1 M.2.2.2.2.2.2.2.2.2.1 M.2.2.2.2.2.2.2.2.2.2.1 M.2.2.2.2.2.2.2.2.2.2.2.1 M.2.2.2.2.2.2.2.2.2.2.2.2.1 M.2.2.2.2.2.2.2.2.2.2.2.2.2.1 M.2.2.2.2.2.2.2.2.2.2.2.2.2.2.1 M.2.2.2.2.2.2.2.2.2.2.2.2.2.2.2.1 M.2.2.2.2.2.2.2.2.2.2.2.2.2.2.2.2.1 M.2.2.2.2.2.2.2.2.2.2.2.2.2.2.2.2.2.1 M.2.2.2.2.2.2.2.2.2.2.2.2.2.2.2.2.2.2).flatten s.heap := hP
  have L4 : ∀  (n : Nat) (v : Int32 × Int32) (X : (Unit) ⊕ (Int32)) (hF : zloop (b_X7_headingOf_4 M p1 ) n v = some X) (H : Heap) (locs : List Loc) (ls : Array Slot) (hP : va_P Z.1 vwCl (l_Model Z.2.1 Am M.1 M.2.1 M.2.2.1 M.2.2.2.1 M.2.2.2.2.1 M.2.2.2.2.2.1 M.2.2.2.2.2.2.1 M.2.2.2.2.2.2.2.1 M.2.2.2.2.2.2.2.2.1 M.2.2.2.2.2.2.2.2.2.1 M.2.2.2.2.2.2.2.2.2.2.1 M.2.2.2.2.2.2.2.2.2.2.2.1 M.2.2.2.2.2.2.2.2.2.2.2.2.1 M.2.2.2.2.2.2.2.2.2.2.2.2.2.1 M.2.2.2.2.2.2.2.2.2.2.2.2.2.2.1 M.2.2.2.2.2.2.2.2.2.2.2.2.2.2.2.1 M.2.2.2.2.2.2.2.2.2.2.2.2.2.2.2.2.1 M.2.2.2.2.2.2.2.2.2.2.2.2.2.2.2.2.2.1 M.2.2.2.2.2.2.2.2.2.2.2.2.2.2.2.2.2.2).flatten H) (hS : va_S (fun _ => False) s.heap H locs) (hl : lv_has ls 4 [(0, .ref (Am 0)), (1, .int p1), (2, .int v.1), (3, .int v.2)]) (K1 : ∀ Y, X = .inl Y → ∀ (H : Heap) (locs : List Loc) (ls : Array Slot) (hP : va_P Z.1 vwCl (l_Model Z.2.1 Am M.1 M.2.1 M.2.2.1 M.2.2.2.1 M.2.2.2.2.1 M.2.2.2.2.2.1 M.2.2.2.2.2.2.1 M.2.2.2.2.2.2.2.1 M.2.2.2.2.2.2.2.2.1 M.2.2.2.2.2.2.2.2.2.1 M.2.2.2.2.2.2.2.2.2.2.1 M.2.2.2.2.2.2.2.2.2.2.2.1 M.2.2.2.2.2.2.2.2.2.2.2.2.1 M.2.2.2.2.2.2.2.2.2.2.2.2.2.1 M.2.2.2.2.2.2.2.2.2.2.2.2.2.2.1 M.2.2.2.2.2.2.2.2.2.2.2.2.2.2.2.1 M.2.2.2.2.2.2.2.2.2.2.2.2.2.2.2.2.1 M.2.2.2.2.2.2.2.2.2.2.2.2.2.2.2.2.2.1 M.2.2.2.2.2.2.2.2.2.2.2.2.2.2.2.2.2.2).flatten H) (hS : va_S (fun _ => False) s.heap H locs) (hl : lv_has ls 4 [(0, .ref (Am 0)), (1, .int p1)]), W p l e rm_X7_headingOf s m ([.ref (Am 0), .int p1] : List Value).toArray below meth c H locs 0 0 Q (F0 m 37 ls [])) (K2 : ∀ Y, X = .inr Y → ∀ (H : Heap) (locs : List Loc) (ls : Array Slot) (hP : va_P Z.1 vwCl (l_Model Z.2.1 Am M.1 M.2.1 M.2.2.1 M.2.2.2.1 M.2.2.2.2.1 M.2.2.2.2.2.1 M.2.2.2.2.2.2.1 M.2.2.2.2.2.2.2.1 M.2.2.2.2.2.2.2.2.1 M.2.2.2.2.2.2.2.2.2.1 M.2.2.2.2.2.2.2.2.2.2.1 M.2.2.2.2.2.2.2.2.2.2.2.1 M.2.2.2.2.2.2.2.2.2.2.2.2.1 M.2.2.2.2.2.2.2.2.2.2.2.2.2.1 M.2.2.2.2.2.2.2.2.2.2.2.2.2.2.1 M.2.2.2.2.2.2.2.2.2.2.2.2.2.2.2.1 M.2.2.2.2.2.2.2.2.2.2.2.2.2.2.2.2.1 M.2.2.2.2.2.2.2.2.2.2.2.2.2.2.2.2.2.1 M.2.2.2.2.2.2.2.2.2.2.2.2.2.2.2.2.2.2).flatten H) (hS : va_S (fun _ => False) s.heap H locs), W p l e rm_X7_headingOf s m ([.ref (Am 0), .int p1] : List Value).toArray below meth c H locs 0 0 Q (F0 m 27 ls [.int Y])), W p l e rm_X7_headingOf s m ([.ref (Am 0), .int p1] : List Value).toArray below meth c H locs 0 0 Q (F0 m 4 ls []) := by
    skip
    refine z_loopE (fun rec ih v X hF H locs ls hP hS hl K1 K2 => ?_)
    unfold b_X7_headingOf_4 at hF
    refine lv_iload_n hx hb (z_d hX7_headingOf_0 4 rfl) rfl (lv_at hl 3 rfl) ?_
    refine lv_aload_n hx hb (z_d hX7_headingOf_0 5 rfl) rfl (lv_at hl 0 rfl) ?_
    refine va_get (D := Z.1) (ci := 7) (v := .ref (Am 1)) (C := RX7) (T := TX7) (N := 19) hx hb hts zinX7 hown hK.1 (zP_reg hP 0 rfl) 0 rfl rfl 0 (by decide) (hts _ k_f_X7_7) (fun _ h9 => h9) rfl (z_d hX7_headingOf_0 6 rfl) ?_
    refine lv_iconst (v := 1) hx hb (z_d hX7_headingOf_0 7 rfl) (by decide) ?_
    refine z_ix hF (fun hin hF => ?_)
    refine va_iald (D := Z.1) (f := M.1) hx hb hK.1 (zP_reg hP 1 rfl) 0 0 rfl rfl hin (z_d hX7_headingOf_0 8 rfl) ?_
    refine z_let hF (fun u1 hu1 hF => ?_)
    refine lv_topE hu1 ?_
    refine lv_icmp_ge (tgt := 37) hx hb (z_d hX7_headingOf_0 9 rfl) (by decide) (fun hc11 => ?_) (fun hc11 => ?_)
    · have hF := z_pos hc11 hF
      obtain rfl := Option.some.inj hF
      exact K1 _ rfl _ _ ls hP hS (lv_sub hl [0, 1] rfl)
    · have hF := z_neg hc11 hF
      refine lv_aload_n hx hb (z_d hX7_headingOf_0 10 rfl) rfl (lv_at hl 0 rfl) ?_
      refine lv_iload_n hx hb (z_d hX7_headingOf_0 11 rfl) rfl (lv_at hl 3 rfl) ?_
      refine z_bnd hF (fun q2 hq2 hF => ?_)
      refine z_ro_i (z_rV (As := [.int v.2]) (rest := []) hx hb hml hown hts vt_X7_isHeading (c_X7_isHeading l Z Am M v.2 _ hq2) rfl rfl ⟨Nat.le_of_ble_eq_true rfl, Nat.le_of_ble_eq_true rfl⟩ k_m_X7_76 zPro_blind (z_recv (q := (RX7, TX7, 19)) (ci := 7) (q0 := 0) hK (zP_reg hP 0 rfl) rfl rfl) (z_prec hK hP) rfl hl.1 (Nat.le_of_ble_eq_true rfl) (z_d hX7_headingOf_0 12 rfl) ⟨Nat.zero_le _, Nat.zero_le _⟩) hS hP (fun H locs hP hS => ?_)
      refine lv_if_eq (tgt := 31) hx hb (z_d hX7_headingOf_0 13 rfl) (by decide) (fun hc19 => ?_) (fun hc19 => ?_)
      · have hF := z_pos hc19 hF
        refine z_let hF (fun u3 hu3 hF => ?_)
        refine lv_iinc (v := u3) (lv' := [(3, .int u3), (0, .ref (Am 0)), (1, .int p1), (2, .int v.1)]) hx hb (z_d hX7_headingOf_0 19 rfl) hl (k := 3) rfl (z_inc1 hu3) (by decide) rfl (fun ls hl => ?_)
        refine lv_goto (tgt := 4) hx hb (z_d hX7_headingOf_0 20 rfl) (by decide) ?_
        exact ih _ _ hF _ _ ls hP hS (lv_sub hl [1, 2, 3, 0] rfl) K1 K2
      · have hF := z_neg hc19 hF
        refine lv_iload_n hx hb (z_d hX7_headingOf_0 14 rfl) rfl (lv_at hl 2 rfl) ?_
        refine lv_if_ne (tgt := 28) hx hb (z_d hX7_headingOf_0 15 rfl) (by decide) (fun hc23 => ?_) (fun hc23 => ?_)
        · have hF := z_neg hc23 hF
          refine z_let hF (fun u4 hu4 hF => ?_)
          refine lv_iinc (v := u4) (lv' := [(2, .int u4), (0, .ref (Am 0)), (1, .int p1), (3, .int v.2)]) hx hb (z_d hX7_headingOf_0 18 rfl) hl (k := 2) rfl (z_incm1 hu4) (by decide) rfl (fun ls hl => ?_)
          refine z_let hF (fun u5 hu5 hF => ?_)
          refine lv_iinc (v := u5) (lv' := [(3, .int u5), (2, .int u4), (0, .ref (Am 0)), (1, .int p1)]) hx hb (z_d hX7_headingOf_0 19 rfl) hl (k := 3) rfl (z_inc1 hu5) (by decide) rfl (fun ls hl => ?_)
          refine lv_goto (tgt := 4) hx hb (z_d hX7_headingOf_0 20 rfl) (by decide) ?_
          exact ih _ _ hF _ _ ls hP hS (lv_sub hl [2, 3, 1, 0] rfl) K1 K2
        · have hF := z_pos hc23 hF
          refine lv_iload_n hx hb (z_d hX7_headingOf_0 16 rfl) rfl (lv_at hl 3 rfl) ?_
          obtain rfl := Option.some.inj hF
          exact (K2 _ rfl _ _ ls hP hS)
  refine lv_iload_n hx hb (z_d hX7_headingOf_0 0 rfl) rfl (lv_at hl 1 rfl) ?_
  refine lv_istore_n (lv' := [(2, .int p1), (0, .ref (Am 0)), (1, .int p1)]) hx hb (z_d hX7_headingOf_0 1 rfl) rfl hl (by decide) rfl (fun ls hl => ?_)
  refine lv_iconst (v := 0) hx hb (z_d hX7_headingOf_0 2 rfl) (by decide) ?_
  refine lv_istore_n (lv' := [(3, .int 0), (2, .int p1), (0, .ref (Am 0)), (1, .int p1)]) hx hb (z_d hX7_headingOf_0 3 rfl) rfl hl (by decide) rfl (fun ls hl => ?_)
  refine z_bnd hF (fun q6 hq6 hF => ?_)
  refine L4  _ _ _ hq6 _ _ ls hP hS (lv_sub hl [2, 3, 1, 0] rfl) (fun y7 e9 H locs ls hP hS hl => ?_) (fun r e9 H locs ls hP hS => ?_)
  · subst e9
    have hF := z_inl hF
    refine lv_aload_n hx hb (z_d hX7_headingOf_0 21 rfl) rfl (lv_at hl 0 rfl) ?_
    refine va_get (D := Z.1) (ci := 7) (v := .ref (Am 1)) (C := RX7) (T := TX7) (N := 19) hx hb hts zinX7 hown hK.1 (zP_reg hP 0 rfl) 0 rfl rfl 0 (by decide) (hts _ k_f_X7_7) (fun _ h9 => h9) rfl (z_d hX7_headingOf_0 22 rfl) ?_
    refine lv_iconst (v := 1) hx hb (z_d hX7_headingOf_0 23 rfl) (by decide) ?_
    refine z_ix hF (fun hin hF => ?_)
    refine va_iald (D := Z.1) (f := M.1) hx hb hK.1 (zP_reg hP 1 rfl) 0 0 rfl rfl hin (z_d hX7_headingOf_0 24 rfl) ?_
    refine z_let hF (fun u8 hu8 hF => ?_)
    refine lv_topE hu8 ?_
    obtain rfl := Option.some.inj hF
    subst hQ
    exact W.iret hx hb hr (fun t ht hW => zq_ro (hS.F ht)) hS.2.2 (z_d hX7_headingOf_0 25 rfl)
  · subst e9
    have hF := z_inr hF
    obtain rfl := Option.some.inj hF
    subst hQ
    exact W.iret hx hb hr (fun t ht hW => zq_ro (hS.F ht)) hS.2.2 (z_d hX7_headingOf_0 17 rfl)
def rm_X7_sceneOf : Room := { frames := 2, cells := 0, slots := 0, locals := 43 }
set_option maxRecDepth 100000 in
set_option maxHeartbeats 4000000 in
theorem c_X7_sceneOf (l : Launch) (Z : zZ) (Am : Nat → Nat) (M : t_Model) (p1 : Int32) (R : Int32) (hF : X7_sceneOf M p1 = some R) : zRO l yX7_sceneOf (zw yX7_sceneOf cX7_sceneOf 4 (some .int)) rm_X7_sceneOf Z [.ref (Am 0), .int p1] (w_Model Z.2.1 Am M) (some (.int R)) := by
  refine zRO_of (by decide) (Nat.le_of_ble_eq_true rfl) (fun p e s m below meth c hx hb hr hml hown hts hlocks hK Q hQ ls hl hP hS => ?_)
  unfold X7_sceneOf at hF
  have hl : lv_has ls 4 [(0, .ref (Am 0)), (1, .int p1)] := hl
  have hown : s.vm.findClass RX7 = some m.cls := hown
  have hP : va_P Z.1 vwCl (l_Model Z.2.1 Am M.1 M.2.1 M.2.2.1 M.2.2.2.1 M.2.2.2.2.1 M.2.2.2.2.2.1 M.2.2.2.2.2.2.1 M.2.2.2.2.2.2.2.1 M.2.2.2.2.2.2.2.2.1 M.2.2.2.2.2.2.2.2.2.1 M.2.2.2.2.2.2.2.2.2.2.1 M.2.2.2.2.2.2.2.2.2.2.2.1 M.2.2.2.2.2.2.2.2.2.2.2.2.1 M.2.2.2.2.2.2.2.2.2.2.2.2.2.1 M.2.2.2.2.2.2.2.2.2.2.2.2.2.2.1 M.2.2.2.2.2.2.2.2.2.2.2.2.2.2.2.1 M.2.2.2.2.2.2.2.2.2.2.2.2.2.2.2.2.1 M.2.2.2.2.2.2.2.2.2.2.2.2.2.2.2.2.2.1 M.2.2.2.2.2.2.2.2.2.2.2.2.2.2.2.2.2.2).flatten s.heap := hP
  have L4 : ∀  (n : Nat) (v : Int32 × Int32) (X : Int32) (hF : zloop (b_X7_sceneOf_4 M p1 ) n v = some X) (H : Heap) (locs : List Loc) (ls : Array Slot) (hP : va_P Z.1 vwCl (l_Model Z.2.1 Am M.1 M.2.1 M.2.2.1 M.2.2.2.1 M.2.2.2.2.1 M.2.2.2.2.2.1 M.2.2.2.2.2.2.1 M.2.2.2.2.2.2.2.1 M.2.2.2.2.2.2.2.2.1 M.2.2.2.2.2.2.2.2.2.1 M.2.2.2.2.2.2.2.2.2.2.1 M.2.2.2.2.2.2.2.2.2.2.2.1 M.2.2.2.2.2.2.2.2.2.2.2.2.1 M.2.2.2.2.2.2.2.2.2.2.2.2.2.1 M.2.2.2.2.2.2.2.2.2.2.2.2.2.2.1 M.2.2.2.2.2.2.2.2.2.2.2.2.2.2.2.1 M.2.2.2.2.2.2.2.2.2.2.2.2.2.2.2.2.1 M.2.2.2.2.2.2.2.2.2.2.2.2.2.2.2.2.2.1 M.2.2.2.2.2.2.2.2.2.2.2.2.2.2.2.2.2.2).flatten H) (hS : va_S (fun _ => False) s.heap H locs) (hl : lv_has ls 4 [(0, .ref (Am 0)), (1, .int p1), (2, .int v.1), (3, .int v.2)]) (K1 : ∀ (H : Heap) (locs : List Loc) (ls : Array Slot) (hP : va_P Z.1 vwCl (l_Model Z.2.1 Am M.1 M.2.1 M.2.2.1 M.2.2.2.1 M.2.2.2.2.1 M.2.2.2.2.2.1 M.2.2.2.2.2.2.1 M.2.2.2.2.2.2.2.1 M.2.2.2.2.2.2.2.2.1 M.2.2.2.2.2.2.2.2.2.1 M.2.2.2.2.2.2.2.2.2.2.1 M.2.2.2.2.2.2.2.2.2.2.2.1 M.2.2.2.2.2.2.2.2.2.2.2.2.1 M.2.2.2.2.2.2.2.2.2.2.2.2.2.1 M.2.2.2.2.2.2.2.2.2.2.2.2.2.2.1 M.2.2.2.2.2.2.2.2.2.2.2.2.2.2.2.1 M.2.2.2.2.2.2.2.2.2.2.2.2.2.2.2.2.1 M.2.2.2.2.2.2.2.2.2.2.2.2.2.2.2.2.2.1 M.2.2.2.2.2.2.2.2.2.2.2.2.2.2.2.2.2.2).flatten H) (hS : va_S (fun _ => False) s.heap H locs) (hl : lv_has ls 4 [(0, .ref (Am 0)), (1, .int p1), (2, .int X)]), W p l e rm_X7_sceneOf s m ([.ref (Am 0), .int p1] : List Value).toArray below meth c H locs 0 0 Q (F0 m 31 ls [])), W p l e rm_X7_sceneOf s m ([.ref (Am 0), .int p1] : List Value).toArray below meth c H locs 0 0 Q (F0 m 4 ls []) := by
    skip
    refine z_loopE (fun rec ih v X hF H locs ls hP hS hl K1 => ?_)
    unfold b_X7_sceneOf_4 at hF
    refine lv_iload_n hx hb (z_d hX7_sceneOf_0 4 rfl) rfl (lv_at hl 3 rfl) ?_
    refine lv_iload_n hx hb (z_d hX7_sceneOf_0 5 rfl) rfl (lv_at hl 1 rfl) ?_
    refine lv_icmp_gt (tgt := 31) hx hb (z_d hX7_sceneOf_0 6 rfl) (by decide) (fun hc6 => ?_) (fun hc6 => ?_)
    · have hF := z_pos hc6 hF
      obtain rfl := Option.some.inj hF
      exact K1 _ _ ls hP hS (lv_sub hl [0, 1, 2] rfl)
    · have hF := z_neg hc6 hF
      refine lv_iload_n hx hb (z_d hX7_sceneOf_0 7 rfl) rfl (lv_at hl 2 rfl) ?_
      refine lv_aload_n hx hb (z_d hX7_sceneOf_0 8 rfl) rfl (lv_at hl 0 rfl) ?_
      refine lv_iload_n hx hb (z_d hX7_sceneOf_0 9 rfl) rfl (lv_at hl 3 rfl) ?_
      refine z_bnd hF (fun q1 hq1 hF => ?_)
      refine z_ro_i (z_rV (As := [.int v.2]) (rest := [.int v.1]) hx hb hml hown hts vt_X7_isHeading (c_X7_isHeading l Z Am M v.2 _ hq1) rfl rfl ⟨Nat.le_of_ble_eq_true rfl, Nat.le_of_ble_eq_true rfl⟩ k_m_X7_76 zPro_blind (z_recv (q := (RX7, TX7, 19)) (ci := 7) (q0 := 0) hK (zP_reg hP 0 rfl) rfl rfl) (z_prec hK hP) rfl hl.1 (Nat.le_of_ble_eq_true rfl) (z_d hX7_sceneOf_0 10 rfl) ⟨Nat.zero_le _, Nat.zero_le _⟩) hS hP (fun H locs hP hS => ?_)
      refine lv_if_eq (tgt := 22) hx hb (z_d hX7_sceneOf_0 11 rfl) (by decide) (fun hc15 => ?_) (fun hc15 => ?_)
      · have hF := z_pos hc15 hF
        refine lv_iconst (v := 0) hx hb (z_d hX7_sceneOf_0 14 rfl) (by decide) ?_
        refine lv_iadd hx hb (z_d hX7_sceneOf_0 15 rfl) ?_
        refine z_let hF (fun u2 hu2 hF => ?_)
        refine lv_topE hu2 ?_
        refine lv_istore_n (lv' := [(2, .int u2), (0, .ref (Am 0)), (1, .int p1), (3, .int v.2)]) hx hb (z_d hX7_sceneOf_0 16 rfl) rfl hl (by decide) rfl (fun ls hl => ?_)
        refine z_let hF (fun u3 hu3 hF => ?_)
        refine lv_iinc (v := u3) (lv' := [(3, .int u3), (2, .int u2), (0, .ref (Am 0)), (1, .int p1)]) hx hb (z_d hX7_sceneOf_0 17 rfl) hl (k := 3) rfl (z_inc1 hu3) (by decide) rfl (fun ls hl => ?_)
        refine lv_goto (tgt := 4) hx hb (z_d hX7_sceneOf_0 18 rfl) (by decide) ?_
        exact ih _ _ hF _ _ ls hP hS (lv_sub hl [2, 3, 1, 0] rfl) K1
      · have hF := z_neg hc15 hF
        refine lv_iconst (v := 1) hx hb (z_d hX7_sceneOf_0 12 rfl) (by decide) ?_
        refine lv_goto (tgt := 23) hx hb (z_d hX7_sceneOf_0 13 rfl) (by decide) ?_
        refine lv_iadd hx hb (z_d hX7_sceneOf_0 15 rfl) ?_
        refine z_let hF (fun u4 hu4 hF => ?_)
        refine lv_topE hu4 ?_
        refine lv_istore_n (lv' := [(2, .int u4), (0, .ref (Am 0)), (1, .int p1), (3, .int v.2)]) hx hb (z_d hX7_sceneOf_0 16 rfl) rfl hl (by decide) rfl (fun ls hl => ?_)
        refine z_let hF (fun u5 hu5 hF => ?_)
        refine lv_iinc (v := u5) (lv' := [(3, .int u5), (2, .int u4), (0, .ref (Am 0)), (1, .int p1)]) hx hb (z_d hX7_sceneOf_0 17 rfl) hl (k := 3) rfl (z_inc1 hu5) (by decide) rfl (fun ls hl => ?_)
        refine lv_goto (tgt := 4) hx hb (z_d hX7_sceneOf_0 18 rfl) (by decide) ?_
        exact ih _ _ hF _ _ ls hP hS (lv_sub hl [2, 3, 1, 0] rfl) K1
  refine lv_iconst (v := (-1)) hx hb (z_d hX7_sceneOf_0 0 rfl) (by decide) ?_
  refine lv_istore_n (lv' := [(2, .int (-1)), (0, .ref (Am 0)), (1, .int p1)]) hx hb (z_d hX7_sceneOf_0 1 rfl) rfl hl (by decide) rfl (fun ls hl => ?_)
  refine lv_iconst (v := 0) hx hb (z_d hX7_sceneOf_0 2 rfl) (by decide) ?_
  refine lv_istore_n (lv' := [(3, .int 0), (2, .int (-1)), (0, .ref (Am 0)), (1, .int p1)]) hx hb (z_d hX7_sceneOf_0 3 rfl) rfl hl (by decide) rfl (fun ls hl => ?_)
  refine z_bnd hF (fun q6 hq6 hF => ?_)
  refine L4  _ _ _ hq6 _ _ ls hP hS (lv_sub hl [2, 3, 1, 0] rfl) (fun H locs ls hP hS hl => ?_)
  refine lv_iload_n hx hb (z_d hX7_sceneOf_0 19 rfl) rfl (lv_at hl 2 rfl) ?_
  obtain rfl := Option.some.inj hF
  subst hQ
  exact W.iret hx hb hr (fun t ht hW => zq_ro (hS.F ht)) hS.2.2 (z_d hX7_sceneOf_0 20 rfl)
def rm_X7_isLocked : Room := { frames := 2, cells := 0, slots := 0, locals := 43 }
set_option maxRecDepth 100000 in
set_option maxHeartbeats 4000000 in
theorem c_X7_isLocked (l : Launch) (Z : zZ) (Am : Nat → Nat) (M : t_Model) (p1 : Int32) (R : Int32) (hF : X7_isLocked M p1 = some R) : zRO l yX7_isLocked (zw yX7_isLocked cX7_isLocked 2 (some .boolean)) rm_X7_isLocked Z [.ref (Am 0), .int p1] (w_Model Z.2.1 Am M) (some (.int R)) := by
  refine zRO_of (by decide) (Nat.le_of_ble_eq_true rfl) (fun p e s m below meth c hx hb hr hml hown hts hlocks hK Q hQ ls hl hP hS => ?_)
  unfold X7_isLocked at hF
  have hl : lv_has ls 2 [(0, .ref (Am 0)), (1, .int p1)] := hl
  have hown : s.vm.findClass RX7 = some m.cls := hown
  have hP : va_P Z.1 vwCl (l_Model Z.2.1 Am M.1 M.2.1 M.2.2.1 M.2.2.2.1 M.2.2.2.2.1 M.2.2.2.2.2.1 M.2.2.2.2.2.2.1 M.2.2.2.2.2.2.2.1 M.2.2.2.2.2.2.2.2.1 M.2.2.2.2.2.2.2.2.2.1 M.2.2.2.2.2.2.2.2.2.2.1 M.2.2.2.2.2.2.2.2.2.2.2.1 M.2.2.2.2.2.2.2.2.2.2.2.2.1 M.2.2.2.2.2.2.2.2.2.2.2.2.2.1 M.2.2.2.2.2.2.2.2.2.2.2.2.2.2.1 M.2.2.2.2.2.2.2.2.2.2.2.2.2.2.2.1 M.2.2.2.2.2.2.2.2.2.2.2.2.2.2.2.2.1 M.2.2.2.2.2.2.2.2.2.2.2.2.2.2.2.2.2.1 M.2.2.2.2.2.2.2.2.2.2.2.2.2.2.2.2.2.2).flatten s.heap := hP
  refine lv_aload_n hx hb (z_d hX7_isLocked_0 0 rfl) rfl (lv_at hl 0 rfl) ?_
  refine lv_iload_n hx hb (z_d hX7_isLocked_0 1 rfl) rfl (lv_at hl 1 rfl) ?_
  refine z_bnd hF (fun q1 hq1 hF => ?_)
  refine z_ro_i (z_rV (As := [.int p1]) (rest := []) hx hb hml hown hts vt_X7_isHeading (c_X7_isHeading l Z Am M p1 _ hq1) rfl rfl ⟨Nat.le_of_ble_eq_true rfl, Nat.le_of_ble_eq_true rfl⟩ k_m_X7_76 zPro_blind (z_recv (q := (RX7, TX7, 19)) (ci := 7) (q0 := 0) hK (zP_reg hP 0 rfl) rfl rfl) (z_prec hK hP) rfl hl.1 (Nat.le_of_ble_eq_true rfl) (z_d hX7_isLocked_0 2 rfl) ⟨Nat.zero_le _, Nat.zero_le _⟩) hS hP (fun H locs hP hS => ?_)
  refine lv_if_eq (tgt := 22) hx hb (z_d hX7_isLocked_0 3 rfl) (by decide) (fun hc5 => ?_) (fun hc5 => ?_)
  · have hF := z_pos hc5 hF
    refine lv_iconst (v := 0) hx hb (z_d hX7_isLocked_0 12 rfl) (by decide) ?_
    have hz9 : narrow .boolean (.int 0) = .int 0 := rfl
    obtain rfl := Option.some.inj hF
    subst hQ
    exact W.zret hx hb hr hz9 (fun t ht hW => zq_ro (hS.F ht)) hS.2.2 (z_d hX7_isLocked_0 13 rfl)
  · have hF := z_neg hc5 hF
    refine lv_aload_n hx hb (z_d hX7_isLocked_0 4 rfl) rfl (lv_at hl 0 rfl) ?_
    refine lv_iload_n hx hb (z_d hX7_isLocked_0 5 rfl) rfl (lv_at hl 1 rfl) ?_
    refine lv_iconst (v := 4) hx hb (z_d hX7_isLocked_0 6 rfl) (by decide) ?_
    refine z_bnd hF (fun q2 hq2 hF => ?_)
    refine z_ro_i (z_rV (As := [.int p1, .int 4]) (rest := []) hx hb hml hown hts vt_X7_of (c_X7_of l Z Am M p1 4 _ hq2) rfl rfl ⟨Nat.le_of_ble_eq_true rfl, Nat.le_of_ble_eq_true rfl⟩ k_m_X7_62 zPro_blind (z_recv (q := (RX7, TX7, 19)) (ci := 7) (q0 := 0) hK (zP_reg hP 0 rfl) rfl rfl) (z_prec hK hP) rfl hl.1 (Nat.le_of_ble_eq_true rfl) (z_d hX7_isLocked_0 7 rfl) ⟨Nat.zero_le _, Nat.zero_le _⟩) hS hP (fun H locs hP hS => ?_)
    refine lv_iconst (v := 1) hx hb (z_d hX7_isLocked_0 8 rfl) (by decide) ?_
    refine lv_icmp_ne (tgt := 22) hx hb (z_d hX7_isLocked_0 9 rfl) (by decide) (fun hc15 => ?_) (fun hc15 => ?_)
    · have hF := z_neg hc15 hF
      refine lv_iconst (v := 0) hx hb (z_d hX7_isLocked_0 12 rfl) (by decide) ?_
      have hz9 : narrow .boolean (.int 0) = .int 0 := rfl
      obtain rfl := Option.some.inj hF
      subst hQ
      exact W.zret hx hb hr hz9 (fun t ht hW => zq_ro (hS.F ht)) hS.2.2 (z_d hX7_isLocked_0 13 rfl)
    · have hF := z_pos hc15 hF
      refine lv_iconst (v := 1) hx hb (z_d hX7_isLocked_0 10 rfl) (by decide) ?_
      refine lv_goto (tgt := 23) hx hb (z_d hX7_isLocked_0 11 rfl) (by decide) ?_
      have hz9 : narrow .boolean (.int 1) = .int 1 := rfl
      obtain rfl := Option.some.inj hF
      subst hQ
      exact W.zret hx hb hr hz9 (fun t ht hW => zq_ro (hS.F ht)) hS.2.2 (z_d hX7_isLocked_0 13 rfl)
def rm_X7_label : Room := { frames := 3, cells := 0, slots := 0, locals := 64 }
set_option maxRecDepth 100000 in
set_option maxHeartbeats 4000000 in
theorem c_X7_label (l : Launch) (Z : zZ) (Am : Nat → Nat) (M : t_Model) (p1 : Int32) (p2 : Int32) (R : Int32) (hF : X7_label M p1 p2 = some R) : zRO l yX7_label (zw yX7_label cX7_label 11 (some .int)) rm_X7_label Z [.ref (Am 0), .int p1, .int p2] (w_Model Z.2.1 Am M) (some (.int R)) := by
  refine zRO_of (by decide) (Nat.le_of_ble_eq_true rfl) (fun p e s m below meth c hx hb hr hml hown hts hlocks hK Q hQ ls hl hP hS => ?_)
  unfold X7_label at hF
  have hl : lv_has ls 11 [(0, .ref (Am 0)), (1, .int p1), (2, .int p2)] := hl
  have hown : s.vm.findClass RX7 = some m.cls := hown
  have hP : va_P Z.1 vwCl (l_Model Z.2.1 Am M.1 M.2.1 M.2.2.1 M.2.2.2.1 M.2.2.2.2.1 M.2.2.2.2.2.1 M.2.2.2.2.2.2.1 M.2.2.2.2.2.2.2.1 M.2.2.2.2.2.2.2.2.1 M.2.2.2.2.2.2.2.2.2.1 M.2.2.2.2.2.2.2.2.2.2.1 M.2.2.2.2.2.2.2.2.2.2.2.1 M.2.2.2.2.2.2.2.2.2.2.2.2.1 M.2.2.2.2.2.2.2.2.2.2.2.2.2.1 M.2.2.2.2.2.2.2.2.2.2.2.2.2.2.1 M.2.2.2.2.2.2.2.2.2.2.2.2.2.2.2.1 M.2.2.2.2.2.2.2.2.2.2.2.2.2.2.2.2.1 M.2.2.2.2.2.2.2.2.2.2.2.2.2.2.2.2.2.1 M.2.2.2.2.2.2.2.2.2.2.2.2.2.2.2.2.2.2).flatten s.heap := hP
  have L22 : ∀  (n : Nat) (v : Int32 × Int32) (X : Int32 × Int32) (hF : zloop (b_X7_label_22 M p1 p2 ) n v = some X) (H : Heap) (locs : List Loc) (ls : Array Slot) (hP : va_P Z.1 vwCl (l_Model Z.2.1 Am M.1 M.2.1 M.2.2.1 M.2.2.2.1 M.2.2.2.2.1 M.2.2.2.2.2.1 M.2.2.2.2.2.2.1 M.2.2.2.2.2.2.2.1 M.2.2.2.2.2.2.2.2.1 M.2.2.2.2.2.2.2.2.2.1 M.2.2.2.2.2.2.2.2.2.2.1 M.2.2.2.2.2.2.2.2.2.2.2.1 M.2.2.2.2.2.2.2.2.2.2.2.2.1 M.2.2.2.2.2.2.2.2.2.2.2.2.2.1 M.2.2.2.2.2.2.2.2.2.2.2.2.2.2.1 M.2.2.2.2.2.2.2.2.2.2.2.2.2.2.2.1 M.2.2.2.2.2.2.2.2.2.2.2.2.2.2.2.2.1 M.2.2.2.2.2.2.2.2.2.2.2.2.2.2.2.2.2.1 M.2.2.2.2.2.2.2.2.2.2.2.2.2.2.2.2.2.2).flatten H) (hS : va_S (fun _ => False) s.heap H locs) (hl : lv_has ls 11 [(0, .ref (Am 0)), (1, .int p1), (2, .int p2), (3, .int v.1), (4, .int v.2)]) (K1 : ∀ (H : Heap) (locs : List Loc) (ls : Array Slot) (hP : va_P Z.1 vwCl (l_Model Z.2.1 Am M.1 M.2.1 M.2.2.1 M.2.2.2.1 M.2.2.2.2.1 M.2.2.2.2.2.1 M.2.2.2.2.2.2.1 M.2.2.2.2.2.2.2.1 M.2.2.2.2.2.2.2.2.1 M.2.2.2.2.2.2.2.2.2.1 M.2.2.2.2.2.2.2.2.2.2.1 M.2.2.2.2.2.2.2.2.2.2.2.1 M.2.2.2.2.2.2.2.2.2.2.2.2.1 M.2.2.2.2.2.2.2.2.2.2.2.2.2.1 M.2.2.2.2.2.2.2.2.2.2.2.2.2.2.1 M.2.2.2.2.2.2.2.2.2.2.2.2.2.2.2.1 M.2.2.2.2.2.2.2.2.2.2.2.2.2.2.2.2.1 M.2.2.2.2.2.2.2.2.2.2.2.2.2.2.2.2.2.1 M.2.2.2.2.2.2.2.2.2.2.2.2.2.2.2.2.2.2).flatten H) (hS : va_S (fun _ => False) s.heap H locs) (hl : lv_has ls 11 [(0, .ref (Am 0)), (1, .int p1), (2, .int p2), (3, .int X.1), (4, .int X.2)]), W p l e rm_X7_label s m ([.ref (Am 0), .int p1, .int p2] : List Value).toArray below meth c H locs 0 0 Q (F0 m 59 ls [])), W p l e rm_X7_label s m ([.ref (Am 0), .int p1, .int p2] : List Value).toArray below meth c H locs 0 0 Q (F0 m 22 ls []) := by
    skip
    refine z_loopE (fun rec ih v X hF H locs ls hP hS hl K1 => ?_)
    unfold b_X7_label_22 at hF
    refine lv_iload hx hb (z_d hX7_label_0 15 rfl) (lv_at hl 4 rfl) ?_
    refine lv_if_lt (tgt := 59) hx hb (z_d hX7_label_0 16 rfl) (by decide) (fun hc24 => ?_) (fun hc24 => ?_)
    · have hF := z_pos hc24 hF
      obtain rfl := Option.some.inj hF
      exact K1 _ _ ls hP hS (lv_sub hl [0, 1, 2, 3, 4] rfl)
    · have hF := z_neg hc24 hF
      refine lv_aload_n hx hb (z_d hX7_label_0 17 rfl) rfl (lv_at hl 0 rfl) ?_
      refine lv_iload hx hb (z_d hX7_label_0 18 rfl) (lv_at hl 4 rfl) ?_
      refine z_bnd hF (fun q2 hq2 hF => ?_)
      refine z_ro_i (z_rV (As := [.int v.2]) (rest := []) hx hb hml hown hts vt_X7_isLocked (c_X7_isLocked l Z Am M v.2 _ hq2) rfl rfl ⟨Nat.le_of_ble_eq_true rfl, Nat.le_of_ble_eq_true rfl⟩ k_m_X7_88 zPro_blind (z_recv (q := (RX7, TX7, 19)) (ci := 7) (q0 := 0) hK (zP_reg hP 0 rfl) rfl rfl) (z_prec hK hP) rfl hl.1 (Nat.le_of_ble_eq_true rfl) (z_d hX7_label_0 19 rfl) ⟨Nat.zero_le _, Nat.zero_le _⟩) hS hP (fun H locs hP hS => ?_)
      refine lv_if_ne (tgt := 59) hx hb (z_d hX7_label_0 20 rfl) (by decide) (fun hc33 => ?_) (fun hc33 => ?_)
      · have hF := z_neg hc33 hF
        obtain rfl := Option.some.inj hF
        exact K1 _ _ ls hP hS (lv_sub hl [0, 1, 2, 3, 4] rfl)
      · have hF := z_pos hc33 hF
        refine lv_iload_n hx hb (z_d hX7_label_0 21 rfl) rfl (lv_at hl 3 rfl) ?_
        refine lv_aload_n hx hb (z_d hX7_label_0 22 rfl) rfl (lv_at hl 0 rfl) ?_
        refine lv_iload hx hb (z_d hX7_label_0 23 rfl) (lv_at hl 4 rfl) ?_
        refine z_bnd hF (fun q3 hq3 hF => ?_)
        refine z_ro_i (z_rV (As := [.int v.2]) (rest := [.int v.1]) hx hb hml hown hts vt_X7_isHeading (c_X7_isHeading l Z Am M v.2 _ hq3) rfl rfl ⟨Nat.le_of_ble_eq_true rfl, Nat.le_of_ble_eq_true rfl⟩ k_m_X7_76 zPro_blind (z_recv (q := (RX7, TX7, 19)) (ci := 7) (q0 := 0) hK (zP_reg hP 0 rfl) rfl rfl) (z_prec hK hP) rfl hl.1 (Nat.le_of_ble_eq_true rfl) (z_d hX7_label_0 24 rfl) ⟨Nat.zero_le _, Nat.zero_le _⟩) hS hP (fun H locs hP hS => ?_)
        refine lv_if_eq (tgt := 50) hx hb (z_d hX7_label_0 25 rfl) (by decide) (fun hc43 => ?_) (fun hc43 => ?_)
        · have hF := z_pos hc43 hF
          refine lv_iconst (v := 0) hx hb (z_d hX7_label_0 28 rfl) (by decide) ?_
          refine lv_iadd hx hb (z_d hX7_label_0 29 rfl) ?_
          refine z_let hF (fun u4 hu4 hF => ?_)
          refine lv_topE hu4 ?_
          refine lv_istore_n (lv' := [(3, .int u4), (0, .ref (Am 0)), (1, .int p1), (2, .int p2), (4, .int v.2)]) hx hb (z_d hX7_label_0 30 rfl) rfl hl (by decide) rfl (fun ls hl => ?_)
          refine z_let hF (fun u5 hu5 hF => ?_)
          refine lv_iinc (v := u5) (lv' := [(4, .int u5), (3, .int u4), (0, .ref (Am 0)), (1, .int p1), (2, .int p2)]) hx hb (z_d hX7_label_0 31 rfl) hl (k := 4) rfl (z_incm1 hu5) (by decide) rfl (fun ls hl => ?_)
          refine lv_goto (tgt := 22) hx hb (z_d hX7_label_0 32 rfl) (by decide) ?_
          exact ih _ _ hF _ _ ls hP hS (lv_sub hl [2, 3, 4, 1, 0] rfl) K1
        · have hF := z_neg hc43 hF
          refine lv_iconst (v := 1) hx hb (z_d hX7_label_0 26 rfl) (by decide) ?_
          refine lv_goto (tgt := 51) hx hb (z_d hX7_label_0 27 rfl) (by decide) ?_
          refine lv_iadd hx hb (z_d hX7_label_0 29 rfl) ?_
          refine z_let hF (fun u6 hu6 hF => ?_)
          refine lv_topE hu6 ?_
          refine lv_istore_n (lv' := [(3, .int u6), (0, .ref (Am 0)), (1, .int p1), (2, .int p2), (4, .int v.2)]) hx hb (z_d hX7_label_0 30 rfl) rfl hl (by decide) rfl (fun ls hl => ?_)
          refine z_let hF (fun u7 hu7 hF => ?_)
          refine lv_iinc (v := u7) (lv' := [(4, .int u7), (3, .int u6), (0, .ref (Am 0)), (1, .int p1), (2, .int p2)]) hx hb (z_d hX7_label_0 31 rfl) hl (k := 4) rfl (z_incm1 hu7) (by decide) rfl (fun ls hl => ?_)
          refine lv_goto (tgt := 22) hx hb (z_d hX7_label_0 32 rfl) (by decide) ?_
          exact ih _ _ hF _ _ ls hP hS (lv_sub hl [2, 3, 4, 1, 0] rfl) K1
  have L62 : ∀ (x3 : Int32) (x4 : Int32) (n : Nat) (v : Int32) (X : Int32) (hF : zloop (b_X7_label_62 M p1 p2 x3 x4) n v = some X) (H : Heap) (locs : List Loc) (ls : Array Slot) (hP : va_P Z.1 vwCl (l_Model Z.2.1 Am M.1 M.2.1 M.2.2.1 M.2.2.2.1 M.2.2.2.2.1 M.2.2.2.2.2.1 M.2.2.2.2.2.2.1 M.2.2.2.2.2.2.2.1 M.2.2.2.2.2.2.2.2.1 M.2.2.2.2.2.2.2.2.2.1 M.2.2.2.2.2.2.2.2.2.2.1 M.2.2.2.2.2.2.2.2.2.2.2.1 M.2.2.2.2.2.2.2.2.2.2.2.2.1 M.2.2.2.2.2.2.2.2.2.2.2.2.2.1 M.2.2.2.2.2.2.2.2.2.2.2.2.2.2.1 M.2.2.2.2.2.2.2.2.2.2.2.2.2.2.2.1 M.2.2.2.2.2.2.2.2.2.2.2.2.2.2.2.2.1 M.2.2.2.2.2.2.2.2.2.2.2.2.2.2.2.2.2.1 M.2.2.2.2.2.2.2.2.2.2.2.2.2.2.2.2.2.2).flatten H) (hS : va_S (fun _ => False) s.heap H locs) (hl : lv_has ls 11 [(0, .ref (Am 0)), (1, .int p1), (2, .int p2), (3, .int x3), (4, .int x4), (5, .int v)]) (K1 : ∀ (H : Heap) (locs : List Loc) (ls : Array Slot) (hP : va_P Z.1 vwCl (l_Model Z.2.1 Am M.1 M.2.1 M.2.2.1 M.2.2.2.1 M.2.2.2.2.1 M.2.2.2.2.2.1 M.2.2.2.2.2.2.1 M.2.2.2.2.2.2.2.1 M.2.2.2.2.2.2.2.2.1 M.2.2.2.2.2.2.2.2.2.1 M.2.2.2.2.2.2.2.2.2.2.1 M.2.2.2.2.2.2.2.2.2.2.2.1 M.2.2.2.2.2.2.2.2.2.2.2.2.1 M.2.2.2.2.2.2.2.2.2.2.2.2.2.1 M.2.2.2.2.2.2.2.2.2.2.2.2.2.2.1 M.2.2.2.2.2.2.2.2.2.2.2.2.2.2.2.1 M.2.2.2.2.2.2.2.2.2.2.2.2.2.2.2.2.1 M.2.2.2.2.2.2.2.2.2.2.2.2.2.2.2.2.2.1 M.2.2.2.2.2.2.2.2.2.2.2.2.2.2.2.2.2.2).flatten H) (hS : va_S (fun _ => False) s.heap H locs) (hl : lv_has ls 11 [(0, .ref (Am 0)), (1, .int p1), (2, .int p2), (3, .int x3), (4, .int x4), (5, .int X)]), W p l e rm_X7_label s m ([.ref (Am 0), .int p1, .int p2] : List Value).toArray below meth c H locs 0 0 Q (F0 m 88 ls [])), W p l e rm_X7_label s m ([.ref (Am 0), .int p1, .int p2] : List Value).toArray below meth c H locs 0 0 Q (F0 m 62 ls []) := by
    intro x3 x4
    refine z_loopE (fun rec ih v X hF H locs ls hP hS hl K1 => ?_)
    unfold b_X7_label_62 at hF
    refine lv_iload hx hb (z_d hX7_label_0 35 rfl) (lv_at hl 5 rfl) ?_
    refine lv_aload_n hx hb (z_d hX7_label_0 36 rfl) rfl (lv_at hl 0 rfl) ?_
    refine va_get (D := Z.1) (ci := 7) (v := .ref (Am 1)) (C := RX7) (T := TX7) (N := 19) hx hb hts zinX7 hown hK.1 (zP_reg hP 0 rfl) 0 rfl rfl 0 (by decide) (hts _ k_f_X7_7) (fun _ h9 => h9) rfl (z_d hX7_label_0 37 rfl) ?_
    refine lv_iconst (v := 1) hx hb (z_d hX7_label_0 38 rfl) (by decide) ?_
    refine z_ix hF (fun hin hF => ?_)
    refine va_iald (D := Z.1) (f := M.1) hx hb hK.1 (zP_reg hP 1 rfl) 0 0 rfl rfl hin (z_d hX7_label_0 39 rfl) ?_
    refine z_let hF (fun u9 hu9 hF => ?_)
    refine lv_topE hu9 ?_
    refine lv_icmp_ge (tgt := 88) hx hb (z_d hX7_label_0 40 rfl) (by decide) (fun hc70 => ?_) (fun hc70 => ?_)
    · have hF := z_pos hc70 hF
      obtain rfl := Option.some.inj hF
      exact K1 _ _ ls hP hS (lv_sub hl [0, 1, 2, 3, 4, 5] rfl)
    · have hF := z_neg hc70 hF
      refine lv_aload_n hx hb (z_d hX7_label_0 41 rfl) rfl (lv_at hl 0 rfl) ?_
      refine lv_iload hx hb (z_d hX7_label_0 42 rfl) (lv_at hl 5 rfl) ?_
      refine z_bnd hF (fun q10 hq10 hF => ?_)
      refine z_ro_i (z_rV (As := [.int v]) (rest := []) hx hb hml hown hts vt_X7_isLocked (c_X7_isLocked l Z Am M v _ hq10) rfl rfl ⟨Nat.le_of_ble_eq_true rfl, Nat.le_of_ble_eq_true rfl⟩ k_m_X7_88 zPro_blind (z_recv (q := (RX7, TX7, 19)) (ci := 7) (q0 := 0) hK (zP_reg hP 0 rfl) rfl rfl) (z_prec hK hP) rfl hl.1 (Nat.le_of_ble_eq_true rfl) (z_d hX7_label_0 43 rfl) ⟨Nat.zero_le _, Nat.zero_le _⟩) hS hP (fun H locs hP hS => ?_)
      refine lv_if_ne (tgt := 88) hx hb (z_d hX7_label_0 44 rfl) (by decide) (fun hc79 => ?_) (fun hc79 => ?_)
      · have hF := z_neg hc79 hF
        obtain rfl := Option.some.inj hF
        exact K1 _ _ ls hP hS (lv_sub hl [0, 1, 2, 3, 4, 5] rfl)
      · have hF := z_pos hc79 hF
        refine z_let hF (fun u11 hu11 hF => ?_)
        refine lv_iinc (v := u11) (lv' := [(5, .int u11), (0, .ref (Am 0)), (1, .int p1), (2, .int p2), (3, .int x3), (4, .int x4)]) hx hb (z_d hX7_label_0 45 rfl) hl (k := 5) rfl (z_inc1 hu11) (by decide) rfl (fun ls hl => ?_)
        refine lv_goto (tgt := 62) hx hb (z_d hX7_label_0 46 rfl) (by decide) ?_
        exact ih _ _ hF _ _ ls hP hS (lv_sub hl [1, 2, 3, 4, 5, 0] rfl) K1
  have J198 : ∀ (x3 : Int32) (x8 : Int32) (x9 : Int32) (z0 : Int32) (hF : j_X7_label_198 M p1 p2 x3 x8 x9 z0 = some R) (H : Heap) (locs : List Loc) (ls : Array Slot) (hP : va_P Z.1 vwCl (l_Model Z.2.1 Am M.1 M.2.1 M.2.2.1 M.2.2.2.1 M.2.2.2.2.1 M.2.2.2.2.2.1 M.2.2.2.2.2.2.1 M.2.2.2.2.2.2.2.1 M.2.2.2.2.2.2.2.2.1 M.2.2.2.2.2.2.2.2.2.1 M.2.2.2.2.2.2.2.2.2.2.1 M.2.2.2.2.2.2.2.2.2.2.2.1 M.2.2.2.2.2.2.2.2.2.2.2.2.1 M.2.2.2.2.2.2.2.2.2.2.2.2.2.1 M.2.2.2.2.2.2.2.2.2.2.2.2.2.2.1 M.2.2.2.2.2.2.2.2.2.2.2.2.2.2.2.1 M.2.2.2.2.2.2.2.2.2.2.2.2.2.2.2.2.1 M.2.2.2.2.2.2.2.2.2.2.2.2.2.2.2.2.2.1 M.2.2.2.2.2.2.2.2.2.2.2.2.2.2.2.2.2.2).flatten H) (hS : va_S (fun _ => False) s.heap H locs) (hl : lv_has ls 11 [(0, .ref (Am 0)), (1, .int p1), (2, .int p2), (3, .int x3), (8, .int x8), (9, .int x9)]), W p l e rm_X7_label s m ([.ref (Am 0), .int p1, .int p2] : List Value).toArray below meth c H locs 0 0 Q (F0 m 198 ls [.int z0]) := by
    intro x3 x8 x9 z0 hF H locs ls hP hS hl
    unfold j_X7_label_198 at hF
    refine lv_istore (lv' := [(10, .int z0), (0, .ref (Am 0)), (1, .int p1), (2, .int p2), (3, .int x3), (8, .int x8), (9, .int x9)]) hx hb (z_d hX7_label_1 44 rfl) hl (by decide) rfl (fun ls hl => ?_)
    refine lv_iload_n hx hb (z_d hX7_label_1 45 rfl) rfl (lv_at hl 3 rfl) ?_
    refine lv_if_ne (tgt := 207) hx hb (z_d hX7_label_1 46 rfl) (by decide) (fun hc201 => ?_) (fun hc201 => ?_)
    · have hF := z_neg hc201 hF
      refine lv_iload hx hb (z_d hX7_label_1 49 rfl) (lv_at hl 0 rfl) ?_
      refine lv_if_eq (tgt := 228) hx hb (z_d hX7_label_1 50 rfl) (by decide) (fun hc209 => ?_) (fun hc209 => ?_)
      · have hF := z_pos hc209 hF
        refine lv_iload_n hx hb (z_d hX7_label_2 0 rfl) rfl (lv_at hl 3 rfl) ?_
        refine lv_iconst (v := 1) hx hb (z_d hX7_label_2 1 rfl) (by decide) ?_
        refine lv_icmp_ne (tgt := 240) hx hb (z_d hX7_label_2 2 rfl) (by decide) (fun hc230 => ?_) (fun hc230 => ?_)
        · have hF := z_neg hc230 hF
          refine lv_iconst (v := 0) hx hb (z_d hX7_label_2 7 rfl) (by decide) ?_
          obtain rfl := Option.some.inj hF
          subst hQ
          exact W.iret hx hb hr (fun t ht hW => zq_ro (hS.F ht)) hS.2.2 (z_d hX7_label_2 8 rfl)
        · have hF := z_pos hc230 hF
          refine lv_iload hx hb (z_d hX7_label_2 3 rfl) (lv_at hl 6 rfl) ?_
          refine lv_iload_n hx hb (z_d hX7_label_2 4 rfl) rfl (lv_at hl 4 rfl) ?_
          refine lv_iadd hx hb (z_d hX7_label_2 5 rfl) ?_
          refine z_let hF (fun u14 hu14 hF => ?_)
          refine lv_topE hu14 ?_
          refine lv_goto (tgt := 241) hx hb (z_d hX7_label_2 6 rfl) (by decide) ?_
          obtain rfl := Option.some.inj hF
          subst hQ
          exact W.iret hx hb hr (fun t ht hW => zq_ro (hS.F ht)) hS.2.2 (z_d hX7_label_2 8 rfl)
      · have hF := z_neg hc209 hF
        refine lv_iload hx hb (z_d hX7_label_1 51 rfl) (lv_at hl 6 rfl) ?_
        refine lv_iload_n hx hb (z_d hX7_label_1 52 rfl) rfl (lv_at hl 3 rfl) ?_
        refine lv_iconst (v := 2) hx hb (z_d hX7_label_1 53 rfl) (by decide) ?_
        refine lv_icmp_ne (tgt := 223) hx hb (z_d hX7_label_1 54 rfl) (by decide) (fun hc216 => ?_) (fun hc216 => ?_)
        · have hF := z_neg hc216 hF
          refine lv_iconst (v := 0) hx hb (z_d hX7_label_1 57 rfl) (by decide) ?_
          refine lv_iadd hx hb (z_d hX7_label_1 58 rfl) ?_
          refine z_let hF (fun u15 hu15 hF => ?_)
          refine lv_topE hu15 ?_
          refine lv_goto (tgt := 241) hx hb (z_d hX7_label_1 59 rfl) (by decide) ?_
          obtain rfl := Option.some.inj hF
          subst hQ
          exact W.iret hx hb hr (fun t ht hW => zq_ro (hS.F ht)) hS.2.2 (z_d hX7_label_2 8 rfl)
        · have hF := z_pos hc216 hF
          refine lv_iload_n hx hb (z_d hX7_label_1 55 rfl) rfl (lv_at hl 4 rfl) ?_
          refine lv_goto (tgt := 224) hx hb (z_d hX7_label_1 56 rfl) (by decide) ?_
          refine lv_iadd hx hb (z_d hX7_label_1 58 rfl) ?_
          refine z_let hF (fun u16 hu16 hF => ?_)
          refine lv_topE hu16 ?_
          refine lv_goto (tgt := 241) hx hb (z_d hX7_label_1 59 rfl) (by decide) ?_
          obtain rfl := Option.some.inj hF
          subst hQ
          exact W.iret hx hb hr (fun t ht hW => zq_ro (hS.F ht)) hS.2.2 (z_d hX7_label_2 8 rfl)
    · have hF := z_pos hc201 hF
      refine lv_iload hx hb (z_d hX7_label_1 47 rfl) (lv_at hl 5 rfl) ?_
      obtain rfl := Option.some.inj hF
      subst hQ
      exact W.iret hx hb hr (fun t ht hW => zq_ro (hS.F ht)) hS.2.2 (z_d hX7_label_1 48 rfl)
  have J197 : ∀ (x3 : Int32) (x8 : Int32) (x9 : Int32) (hF : j_X7_label_197 M p1 p2 x3 x8 x9 = some R) (H : Heap) (locs : List Loc) (ls : Array Slot) (hP : va_P Z.1 vwCl (l_Model Z.2.1 Am M.1 M.2.1 M.2.2.1 M.2.2.2.1 M.2.2.2.2.1 M.2.2.2.2.2.1 M.2.2.2.2.2.2.1 M.2.2.2.2.2.2.2.1 M.2.2.2.2.2.2.2.2.1 M.2.2.2.2.2.2.2.2.2.1 M.2.2.2.2.2.2.2.2.2.2.1 M.2.2.2.2.2.2.2.2.2.2.2.1 M.2.2.2.2.2.2.2.2.2.2.2.2.1 M.2.2.2.2.2.2.2.2.2.2.2.2.2.1 M.2.2.2.2.2.2.2.2.2.2.2.2.2.2.1 M.2.2.2.2.2.2.2.2.2.2.2.2.2.2.2.1 M.2.2.2.2.2.2.2.2.2.2.2.2.2.2.2.2.1 M.2.2.2.2.2.2.2.2.2.2.2.2.2.2.2.2.2.1 M.2.2.2.2.2.2.2.2.2.2.2.2.2.2.2.2.2.2).flatten H) (hS : va_S (fun _ => False) s.heap H locs) (hl : lv_has ls 11 [(0, .ref (Am 0)), (1, .int p1), (2, .int p2), (3, .int x3), (8, .int x8), (9, .int x9)]), W p l e rm_X7_label s m ([.ref (Am 0), .int p1, .int p2] : List Value).toArray below meth c H locs 0 0 Q (F0 m 197 ls []) := by
    intro x3 x8 x9 hF H locs ls hP hS hl
    unfold j_X7_label_197 at hF
    refine lv_iconst (v := 0) hx hb (z_d hX7_label_1 43 rfl) (by decide) ?_
    exact J198 x3 x8 x9 0 hF _ _ ls hP hS (lv_sub hl [0, 1, 2, 3, 4, 5] rfl)
  have J174 : ∀ (x3 : Int32) (x5 : Int32) (x7 : Int32) (x8 : Int32) (z0 : Int32) (hF : j_X7_label_174 M p1 p2 x3 x5 x7 x8 z0 = some R) (H : Heap) (locs : List Loc) (ls : Array Slot) (hP : va_P Z.1 vwCl (l_Model Z.2.1 Am M.1 M.2.1 M.2.2.1 M.2.2.2.1 M.2.2.2.2.1 M.2.2.2.2.2.1 M.2.2.2.2.2.2.1 M.2.2.2.2.2.2.2.1 M.2.2.2.2.2.2.2.2.1 M.2.2.2.2.2.2.2.2.2.1 M.2.2.2.2.2.2.2.2.2.2.1 M.2.2.2.2.2.2.2.2.2.2.2.1 M.2.2.2.2.2.2.2.2.2.2.2.2.1 M.2.2.2.2.2.2.2.2.2.2.2.2.2.1 M.2.2.2.2.2.2.2.2.2.2.2.2.2.2.1 M.2.2.2.2.2.2.2.2.2.2.2.2.2.2.2.1 M.2.2.2.2.2.2.2.2.2.2.2.2.2.2.2.2.1 M.2.2.2.2.2.2.2.2.2.2.2.2.2.2.2.2.2.1 M.2.2.2.2.2.2.2.2.2.2.2.2.2.2.2.2.2.2).flatten H) (hS : va_S (fun _ => False) s.heap H locs) (hl : lv_has ls 11 [(0, .ref (Am 0)), (1, .int p1), (2, .int p2), (3, .int x3), (5, .int x5), (7, .int x7), (8, .int x8)]), W p l e rm_X7_label s m ([.ref (Am 0), .int p1, .int p2] : List Value).toArray below meth c H locs 0 0 Q (F0 m 174 ls [.int z0]) := by
    intro x3 x5 x7 x8 z0 hF H locs ls hP hS hl
    unfold j_X7_label_174 at hF
    refine lv_istore (lv' := [(9, .int z0), (0, .ref (Am 0)), (1, .int p1), (2, .int p2), (3, .int x3), (5, .int x5), (7, .int x7), (8, .int x8)]) hx hb (z_d hX7_label_1 32 rfl) hl (by decide) rfl (fun ls hl => ?_)
    refine lv_iload hx hb (z_d hX7_label_1 33 rfl) (lv_at hl 6 rfl) ?_
    refine lv_if_ne (tgt := 197) hx hb (z_d hX7_label_1 34 rfl) (by decide) (fun hc178 => ?_) (fun hc178 => ?_)
    · have hF := z_neg hc178 hF
      exact J197 x3 x8 z0 hF _ _ ls hP hS (lv_sub hl [1, 2, 3, 4, 7, 0] rfl)
    · have hF := z_pos hc178 hF
      refine lv_aload_n hx hb (z_d hX7_label_1 35 rfl) rfl (lv_at hl 1 rfl) ?_
      refine lv_iload hx hb (z_d hX7_label_1 36 rfl) (lv_at hl 5 rfl) ?_
      refine lv_iconst (v := 5) hx hb (z_d hX7_label_1 37 rfl) (by decide) ?_
      refine z_bnd hF (fun q17 hq17 hF => ?_)
      refine z_ro_i (z_rV (As := [.int x5, .int 5]) (rest := []) hx hb hml hown hts vt_X7_of (c_X7_of l Z Am M x5 5 _ hq17) rfl rfl ⟨Nat.le_of_ble_eq_true rfl, Nat.le_of_ble_eq_true rfl⟩ k_m_X7_62 zPro_blind (z_recv (q := (RX7, TX7, 19)) (ci := 7) (q0 := 0) hK (zP_reg hP 0 rfl) rfl rfl) (z_prec hK hP) rfl hl.1 (Nat.le_of_ble_eq_true rfl) (z_d hX7_label_1 38 rfl) ⟨Nat.zero_le _, Nat.zero_le _⟩) hS hP (fun H locs hP hS => ?_)
      refine lv_iload hx hb (z_d hX7_label_1 39 rfl) (lv_at hl 7 rfl) ?_
      refine lv_icmp_ne (tgt := 197) hx hb (z_d hX7_label_1 40 rfl) (by decide) (fun hc190 => ?_) (fun hc190 => ?_)
      · have hF := z_neg hc190 hF
        exact J197 x3 x8 z0 hF _ _ ls hP hS (lv_sub hl [1, 2, 3, 4, 7, 0] rfl)
      · have hF := z_pos hc190 hF
        refine lv_iconst (v := 1) hx hb (z_d hX7_label_1 41 rfl) (by decide) ?_
        refine lv_goto (tgt := 198) hx hb (z_d hX7_label_1 42 rfl) (by decide) ?_
        exact J198 x3 x8 z0 1 hF _ _ ls hP hS (lv_sub hl [1, 2, 3, 4, 7, 0] rfl)
  have J154 : ∀ (x3 : Int32) (x4 : Int32) (x5 : Int32) (x6 : Int32) (x7 : Int32) (z0 : Int32) (hF : j_X7_label_154 M p1 p2 x3 x4 x5 x6 x7 z0 = some R) (H : Heap) (locs : List Loc) (ls : Array Slot) (hP : va_P Z.1 vwCl (l_Model Z.2.1 Am M.1 M.2.1 M.2.2.1 M.2.2.2.1 M.2.2.2.2.1 M.2.2.2.2.2.1 M.2.2.2.2.2.2.1 M.2.2.2.2.2.2.2.1 M.2.2.2.2.2.2.2.2.1 M.2.2.2.2.2.2.2.2.2.1 M.2.2.2.2.2.2.2.2.2.2.1 M.2.2.2.2.2.2.2.2.2.2.2.1 M.2.2.2.2.2.2.2.2.2.2.2.2.1 M.2.2.2.2.2.2.2.2.2.2.2.2.2.1 M.2.2.2.2.2.2.2.2.2.2.2.2.2.2.1 M.2.2.2.2.2.2.2.2.2.2.2.2.2.2.2.1 M.2.2.2.2.2.2.2.2.2.2.2.2.2.2.2.2.1 M.2.2.2.2.2.2.2.2.2.2.2.2.2.2.2.2.2.1 M.2.2.2.2.2.2.2.2.2.2.2.2.2.2.2.2.2.2).flatten H) (hS : va_S (fun _ => False) s.heap H locs) (hl : lv_has ls 11 [(0, .ref (Am 0)), (1, .int p1), (2, .int p2), (3, .int x3), (4, .int x4), (5, .int x5), (6, .int x6), (7, .int x7)]), W p l e rm_X7_label s m ([.ref (Am 0), .int p1, .int p2] : List Value).toArray below meth c H locs 0 0 Q (F0 m 154 ls [.int z0]) := by
    intro x3 x4 x5 x6 x7 z0 hF H locs ls hP hS hl
    unfold j_X7_label_154 at hF
    refine lv_istore (lv' := [(8, .int z0), (0, .ref (Am 0)), (1, .int p1), (2, .int p2), (3, .int x3), (4, .int x4), (5, .int x5), (6, .int x6), (7, .int x7)]) hx hb (z_d hX7_label_1 21 rfl) hl (by decide) rfl (fun ls hl => ?_)
    refine lv_iload hx hb (z_d hX7_label_1 22 rfl) (lv_at hl 7 rfl) ?_
    refine lv_if_eq (tgt := 173) hx hb (z_d hX7_label_1 23 rfl) (by decide) (fun hc158 => ?_) (fun hc158 => ?_)
    · have hF := z_pos hc158 hF
      refine lv_iconst (v := 0) hx hb (z_d hX7_label_1 31 rfl) (by decide) ?_
      exact J174 x3 x5 x7 z0 0 hF _ _ ls hP hS (lv_sub hl [1, 2, 3, 4, 6, 8, 0] rfl)
    · have hF := z_neg hc158 hF
      refine lv_aload_n hx hb (z_d hX7_label_1 24 rfl) rfl (lv_at hl 1 rfl) ?_
      refine lv_iload hx hb (z_d hX7_label_1 25 rfl) (lv_at hl 5 rfl) ?_
      refine lv_iconst (v := 5) hx hb (z_d hX7_label_1 26 rfl) (by decide) ?_
      refine lv_iload_n hx hb (z_d hX7_label_1 27 rfl) rfl (lv_at hl 3 rfl) ?_
      refine lv_iadd hx hb (z_d hX7_label_1 28 rfl) ?_
      refine z_let hF (fun u18 hu18 hF => ?_)
      refine lv_topE hu18 ?_
      refine z_bnd hF (fun q19 hq19 hF => ?_)
      refine z_ro_i (z_rV (As := [.int x4, .int u18]) (rest := []) hx hb hml hown hts vt_X7_of (c_X7_of l Z Am M x4 u18 _ hq19) rfl rfl ⟨Nat.le_of_ble_eq_true rfl, Nat.le_of_ble_eq_true rfl⟩ k_m_X7_62 zPro_blind (z_recv (q := (RX7, TX7, 19)) (ci := 7) (q0 := 0) hK (zP_reg hP 0 rfl) rfl rfl) (z_prec hK hP) rfl hl.1 (Nat.le_of_ble_eq_true rfl) (z_d hX7_label_1 29 rfl) ⟨Nat.zero_le _, Nat.zero_le _⟩) hS hP (fun H locs hP hS => ?_)
      refine lv_goto (tgt := 174) hx hb (z_d hX7_label_1 30 rfl) (by decide) ?_
      exact J174 x3 x5 x7 z0 q19 hF _ _ ls hP hS (lv_sub hl [1, 2, 3, 4, 6, 8, 0] rfl)
  have J138 : ∀ (x3 : Int32) (x4 : Int32) (x5 : Int32) (x6 : Int32) (x7 : Int32) (hF : j_X7_label_138 M p1 p2 x3 x4 x5 x6 x7 = some R) (H : Heap) (locs : List Loc) (ls : Array Slot) (hP : va_P Z.1 vwCl (l_Model Z.2.1 Am M.1 M.2.1 M.2.2.1 M.2.2.2.1 M.2.2.2.2.1 M.2.2.2.2.2.1 M.2.2.2.2.2.2.1 M.2.2.2.2.2.2.2.1 M.2.2.2.2.2.2.2.2.1 M.2.2.2.2.2.2.2.2.2.1 M.2.2.2.2.2.2.2.2.2.2.1 M.2.2.2.2.2.2.2.2.2.2.2.1 M.2.2.2.2.2.2.2.2.2.2.2.2.1 M.2.2.2.2.2.2.2.2.2.2.2.2.2.1 M.2.2.2.2.2.2.2.2.2.2.2.2.2.2.1 M.2.2.2.2.2.2.2.2.2.2.2.2.2.2.2.1 M.2.2.2.2.2.2.2.2.2.2.2.2.2.2.2.2.1 M.2.2.2.2.2.2.2.2.2.2.2.2.2.2.2.2.2.1 M.2.2.2.2.2.2.2.2.2.2.2.2.2.2.2.2.2.2).flatten H) (hS : va_S (fun _ => False) s.heap H locs) (hl : lv_has ls 11 [(0, .ref (Am 0)), (1, .int p1), (2, .int p2), (3, .int x3), (4, .int x4), (5, .int x5), (6, .int x6), (7, .int x7)]), W p l e rm_X7_label s m ([.ref (Am 0), .int p1, .int p2] : List Value).toArray below meth c H locs 0 0 Q (F0 m 138 ls []) := by
    intro x3 x4 x5 x6 x7 hF H locs ls hP hS hl
    unfold j_X7_label_138 at hF
    refine lv_iload hx hb (z_d hX7_label_1 13 rfl) (lv_at hl 6 rfl) ?_
    refine lv_if_eq (tgt := 153) hx hb (z_d hX7_label_1 14 rfl) (by decide) (fun hc140 => ?_) (fun hc140 => ?_)
    · have hF := z_pos hc140 hF
      refine lv_iconst (v := 0) hx hb (z_d hX7_label_1 20 rfl) (by decide) ?_
      exact J154 x3 x4 x5 x6 x7 0 hF _ _ ls hP hS (lv_sub hl [0, 1, 2, 3, 4, 5, 6, 7] rfl)
    · have hF := z_neg hc140 hF
      refine lv_aload_n hx hb (z_d hX7_label_1 15 rfl) rfl (lv_at hl 0 rfl) ?_
      refine lv_iload hx hb (z_d hX7_label_1 16 rfl) (lv_at hl 4 rfl) ?_
      refine lv_iconst (v := 5) hx hb (z_d hX7_label_1 17 rfl) (by decide) ?_
      refine z_bnd hF (fun q20 hq20 hF => ?_)
      refine z_ro_i (z_rV (As := [.int x4, .int 5]) (rest := []) hx hb hml hown hts vt_X7_of (c_X7_of l Z Am M x4 5 _ hq20) rfl rfl ⟨Nat.le_of_ble_eq_true rfl, Nat.le_of_ble_eq_true rfl⟩ k_m_X7_62 zPro_blind (z_recv (q := (RX7, TX7, 19)) (ci := 7) (q0 := 0) hK (zP_reg hP 0 rfl) rfl rfl) (z_prec hK hP) rfl hl.1 (Nat.le_of_ble_eq_true rfl) (z_d hX7_label_1 18 rfl) ⟨Nat.zero_le _, Nat.zero_le _⟩) hS hP (fun H locs hP hS => ?_)
      refine lv_goto (tgt := 154) hx hb (z_d hX7_label_1 19 rfl) (by decide) ?_
      exact J154 x3 x4 x5 x6 x7 q20 hF _ _ ls hP hS (lv_sub hl [0, 1, 2, 3, 4, 5, 6, 7] rfl)
  have J116 : ∀ (x3 : Int32) (x4 : Int32) (x5 : Int32) (x6 : Int32) (z0 : Int32) (hF : j_X7_label_116 M p1 p2 x3 x4 x5 x6 z0 = some R) (H : Heap) (locs : List Loc) (ls : Array Slot) (hP : va_P Z.1 vwCl (l_Model Z.2.1 Am M.1 M.2.1 M.2.2.1 M.2.2.2.1 M.2.2.2.2.1 M.2.2.2.2.2.1 M.2.2.2.2.2.2.1 M.2.2.2.2.2.2.2.1 M.2.2.2.2.2.2.2.2.1 M.2.2.2.2.2.2.2.2.2.1 M.2.2.2.2.2.2.2.2.2.2.1 M.2.2.2.2.2.2.2.2.2.2.2.1 M.2.2.2.2.2.2.2.2.2.2.2.2.1 M.2.2.2.2.2.2.2.2.2.2.2.2.2.1 M.2.2.2.2.2.2.2.2.2.2.2.2.2.2.1 M.2.2.2.2.2.2.2.2.2.2.2.2.2.2.2.1 M.2.2.2.2.2.2.2.2.2.2.2.2.2.2.2.2.1 M.2.2.2.2.2.2.2.2.2.2.2.2.2.2.2.2.2.1 M.2.2.2.2.2.2.2.2.2.2.2.2.2.2.2.2.2.2).flatten H) (hS : va_S (fun _ => False) s.heap H locs) (hl : lv_has ls 11 [(0, .ref (Am 0)), (1, .int p1), (2, .int p2), (3, .int x3), (4, .int x4), (5, .int x5), (6, .int x6)]), W p l e rm_X7_label s m ([.ref (Am 0), .int p1, .int p2] : List Value).toArray below meth c H locs 0 0 Q (F0 m 116 ls [.int z0]) := by
    intro x3 x4 x5 x6 z0 hF H locs ls hP hS hl
    unfold j_X7_label_116 at hF
    refine lv_istore (lv' := [(7, .int z0), (0, .ref (Am 0)), (1, .int p1), (2, .int p2), (3, .int x3), (4, .int x4), (5, .int x5), (6, .int x6)]) hx hb (z_d hX7_label_1 2 rfl) hl (by decide) rfl (fun ls hl => ?_)
    refine lv_iload hx hb (z_d hX7_label_1 3 rfl) (lv_at hl 7 rfl) ?_
    refine lv_if_ne (tgt := 138) hx hb (z_d hX7_label_1 4 rfl) (by decide) (fun hc120 => ?_) (fun hc120 => ?_)
    · have hF := z_neg hc120 hF
      exact J138 x3 x4 x5 x6 z0 hF _ _ ls hP hS (lv_sub hl [1, 2, 3, 4, 5, 6, 7, 0] rfl)
    · have hF := z_pos hc120 hF
      refine lv_iload hx hb (z_d hX7_label_1 5 rfl) (lv_at hl 0 rfl) ?_
      refine lv_if_eq (tgt := 138) hx hb (z_d hX7_label_1 6 rfl) (by decide) (fun hc125 => ?_) (fun hc125 => ?_)
      · have hF := z_pos hc125 hF
        exact J138 x3 x4 x5 x6 z0 hF _ _ ls hP hS (lv_sub hl [1, 2, 3, 4, 5, 6, 7, 0] rfl)
      · have hF := z_neg hc125 hF
        refine lv_iload_n hx hb (z_d hX7_label_1 7 rfl) rfl (lv_at hl 3 rfl) ?_
        refine lv_if_ne (tgt := 136) hx hb (z_d hX7_label_1 8 rfl) (by decide) (fun hc129 => ?_) (fun hc129 => ?_)
        · have hF := z_neg hc129 hF
          refine lv_iconst (v := 0) hx hb (z_d hX7_label_1 11 rfl) (by decide) ?_
          obtain rfl := Option.some.inj hF
          subst hQ
          exact W.iret hx hb hr (fun t ht hW => zq_ro (hS.F ht)) hS.2.2 (z_d hX7_label_1 12 rfl)
        · have hF := z_pos hc129 hF
          refine lv_iload_n hx hb (z_d hX7_label_1 9 rfl) rfl (lv_at hl 4 rfl) ?_
          refine lv_goto (tgt := 137) hx hb (z_d hX7_label_1 10 rfl) (by decide) ?_
          obtain rfl := Option.some.inj hF
          subst hQ
          exact W.iret hx hb hr (fun t ht hW => zq_ro (hS.F ht)) hS.2.2 (z_d hX7_label_1 12 rfl)
  have J98 : ∀ (x3 : Int32) (x4 : Int32) (x5 : Int32) (z0 : Int32) (hF : j_X7_label_98 M p1 p2 x3 x4 x5 z0 = some R) (H : Heap) (locs : List Loc) (ls : Array Slot) (hP : va_P Z.1 vwCl (l_Model Z.2.1 Am M.1 M.2.1 M.2.2.1 M.2.2.2.1 M.2.2.2.2.1 M.2.2.2.2.2.1 M.2.2.2.2.2.2.1 M.2.2.2.2.2.2.2.1 M.2.2.2.2.2.2.2.2.1 M.2.2.2.2.2.2.2.2.2.1 M.2.2.2.2.2.2.2.2.2.2.1 M.2.2.2.2.2.2.2.2.2.2.2.1 M.2.2.2.2.2.2.2.2.2.2.2.2.1 M.2.2.2.2.2.2.2.2.2.2.2.2.2.1 M.2.2.2.2.2.2.2.2.2.2.2.2.2.2.1 M.2.2.2.2.2.2.2.2.2.2.2.2.2.2.2.1 M.2.2.2.2.2.2.2.2.2.2.2.2.2.2.2.2.1 M.2.2.2.2.2.2.2.2.2.2.2.2.2.2.2.2.2.1 M.2.2.2.2.2.2.2.2.2.2.2.2.2.2.2.2.2.2).flatten H) (hS : va_S (fun _ => False) s.heap H locs) (hl : lv_has ls 11 [(0, .ref (Am 0)), (1, .int p1), (2, .int p2), (3, .int x3), (4, .int x4), (5, .int x5)]), W p l e rm_X7_label s m ([.ref (Am 0), .int p1, .int p2] : List Value).toArray below meth c H locs 0 0 Q (F0 m 98 ls [.int z0]) := by
    intro x3 x4 x5 z0 hF H locs ls hP hS hl
    unfold j_X7_label_98 at hF
    refine lv_istore (lv' := [(6, .int z0), (0, .ref (Am 0)), (1, .int p1), (2, .int p2), (3, .int x3), (4, .int x4), (5, .int x5)]) hx hb (z_d hX7_label_0 52 rfl) hl (by decide) rfl (fun ls hl => ?_)
    refine lv_iload hx hb (z_d hX7_label_0 53 rfl) (lv_at hl 6 rfl) ?_
    refine lv_aload_n hx hb (z_d hX7_label_0 54 rfl) rfl (lv_at hl 1 rfl) ?_
    refine va_get (D := Z.1) (ci := 7) (v := .ref (Am 1)) (C := RX7) (T := TX7) (N := 19) hx hb hts zinX7 hown hK.1 (zP_reg hP 0 rfl) 0 rfl rfl 0 (by decide) (hts _ k_f_X7_7) (fun _ h9 => h9) rfl (z_d hX7_label_0 55 rfl) ?_
    refine lv_iconst (v := 1) hx hb (z_d hX7_label_0 56 rfl) (by decide) ?_
    refine z_ix hF (fun hin hF => ?_)
    refine va_iald (D := Z.1) (f := M.1) hx hb hK.1 (zP_reg hP 1 rfl) 0 0 rfl rfl hin (z_d hX7_label_0 57 rfl) ?_
    refine z_let hF (fun u13 hu13 hF => ?_)
    refine lv_topE hu13 ?_
    refine lv_icmp_ne (tgt := 115) hx hb (z_d hX7_label_0 58 rfl) (by decide) (fun hc108 => ?_) (fun hc108 => ?_)
    · have hF := z_neg hc108 hF
      refine lv_iconst (v := 0) hx hb (z_d hX7_label_1 1 rfl) (by decide) ?_
      exact J116 x3 x4 x5 z0 0 hF _ _ ls hP hS (lv_sub hl [1, 2, 3, 4, 5, 6, 0] rfl)
    · have hF := z_pos hc108 hF
      refine lv_iconst (v := 1) hx hb (z_d hX7_label_0 59 rfl) (by decide) ?_
      refine lv_goto (tgt := 116) hx hb (z_d hX7_label_1 0 rfl) (by decide) ?_
      exact J116 x3 x4 x5 z0 1 hF _ _ ls hP hS (lv_sub hl [1, 2, 3, 4, 5, 6, 0] rfl)
  have J88 : ∀ (x3 : Int32) (x4 : Int32) (x5 : Int32) (hF : j_X7_label_88 M p1 p2 x3 x4 x5 = some R) (H : Heap) (locs : List Loc) (ls : Array Slot) (hP : va_P Z.1 vwCl (l_Model Z.2.1 Am M.1 M.2.1 M.2.2.1 M.2.2.2.1 M.2.2.2.2.1 M.2.2.2.2.2.1 M.2.2.2.2.2.2.1 M.2.2.2.2.2.2.2.1 M.2.2.2.2.2.2.2.2.1 M.2.2.2.2.2.2.2.2.2.1 M.2.2.2.2.2.2.2.2.2.2.1 M.2.2.2.2.2.2.2.2.2.2.2.1 M.2.2.2.2.2.2.2.2.2.2.2.2.1 M.2.2.2.2.2.2.2.2.2.2.2.2.2.1 M.2.2.2.2.2.2.2.2.2.2.2.2.2.2.1 M.2.2.2.2.2.2.2.2.2.2.2.2.2.2.2.1 M.2.2.2.2.2.2.2.2.2.2.2.2.2.2.2.2.1 M.2.2.2.2.2.2.2.2.2.2.2.2.2.2.2.2.2.1 M.2.2.2.2.2.2.2.2.2.2.2.2.2.2.2.2.2.2).flatten H) (hS : va_S (fun _ => False) s.heap H locs) (hl : lv_has ls 11 [(0, .ref (Am 0)), (1, .int p1), (2, .int p2), (3, .int x3), (4, .int x4), (5, .int x5)]), W p l e rm_X7_label s m ([.ref (Am 0), .int p1, .int p2] : List Value).toArray below meth c H locs 0 0 Q (F0 m 88 ls []) := by
    intro x3 x4 x5 hF H locs ls hP hS hl
    unfold j_X7_label_88 at hF
    refine lv_iload hx hb (z_d hX7_label_0 47 rfl) (lv_at hl 4 rfl) ?_
    refine lv_if_lt (tgt := 97) hx hb (z_d hX7_label_0 48 rfl) (by decide) (fun hc90 => ?_) (fun hc90 => ?_)
    · have hF := z_pos hc90 hF
      refine lv_iconst (v := 0) hx hb (z_d hX7_label_0 51 rfl) (by decide) ?_
      exact J98 x3 x4 x5 0 hF _ _ ls hP hS (lv_sub hl [0, 1, 2, 3, 4, 5] rfl)
    · have hF := z_neg hc90 hF
      refine lv_iconst (v := 1) hx hb (z_d hX7_label_0 49 rfl) (by decide) ?_
      refine lv_goto (tgt := 98) hx hb (z_d hX7_label_0 50 rfl) (by decide) ?_
      exact J98 x3 x4 x5 1 hF _ _ ls hP hS (lv_sub hl [0, 1, 2, 3, 4, 5] rfl)
  have J59 : ∀ (x3 : Int32) (x4 : Int32) (hF : j_X7_label_59 M p1 p2 x3 x4 = some R) (H : Heap) (locs : List Loc) (ls : Array Slot) (hP : va_P Z.1 vwCl (l_Model Z.2.1 Am M.1 M.2.1 M.2.2.1 M.2.2.2.1 M.2.2.2.2.1 M.2.2.2.2.2.1 M.2.2.2.2.2.2.1 M.2.2.2.2.2.2.2.1 M.2.2.2.2.2.2.2.2.1 M.2.2.2.2.2.2.2.2.2.1 M.2.2.2.2.2.2.2.2.2.2.1 M.2.2.2.2.2.2.2.2.2.2.2.1 M.2.2.2.2.2.2.2.2.2.2.2.2.1 M.2.2.2.2.2.2.2.2.2.2.2.2.2.1 M.2.2.2.2.2.2.2.2.2.2.2.2.2.2.1 M.2.2.2.2.2.2.2.2.2.2.2.2.2.2.2.1 M.2.2.2.2.2.2.2.2.2.2.2.2.2.2.2.2.1 M.2.2.2.2.2.2.2.2.2.2.2.2.2.2.2.2.2.1 M.2.2.2.2.2.2.2.2.2.2.2.2.2.2.2.2.2.2).flatten H) (hS : va_S (fun _ => False) s.heap H locs) (hl : lv_has ls 11 [(0, .ref (Am 0)), (1, .int p1), (2, .int p2), (3, .int x3), (4, .int x4)]), W p l e rm_X7_label s m ([.ref (Am 0), .int p1, .int p2] : List Value).toArray below meth c H locs 0 0 Q (F0 m 59 ls []) := by
    intro x3 x4 hF H locs ls hP hS hl
    unfold j_X7_label_59 at hF
    refine lv_iload_n hx hb (z_d hX7_label_0 33 rfl) rfl (lv_at hl 1 rfl) ?_
    refine lv_istore (lv' := [(5, .int p1), (0, .ref (Am 0)), (1, .int p1), (2, .int p2), (3, .int x3), (4, .int x4)]) hx hb (z_d hX7_label_0 34 rfl) hl (by decide) rfl (fun ls hl => ?_)
    refine z_bnd hF (fun q12 hq12 hF => ?_)
    refine L62 x3 x4 _ _ _ hq12 _ _ ls hP hS (lv_sub hl [1, 2, 3, 4, 5, 0] rfl) (fun H locs ls hP hS hl => ?_)
    exact J88 x3 x4 q12 hF _ _ ls hP hS (lv_sub hl [0, 1, 2, 3, 4, 5] rfl)
  refine lv_aload_n hx hb (z_d hX7_label_0 0 rfl) rfl (lv_at hl 0 rfl) ?_
  refine lv_iload_n hx hb (z_d hX7_label_0 1 rfl) rfl (lv_at hl 1 rfl) ?_
  refine z_bnd hF (fun q1 hq1 hF => ?_)
  refine z_ro_i (z_rV (As := [.int p1]) (rest := []) hx hb hml hown hts vt_X7_isLocked (c_X7_isLocked l Z Am M p1 _ hq1) rfl rfl ⟨Nat.le_of_ble_eq_true rfl, Nat.le_of_ble_eq_true rfl⟩ k_m_X7_88 zPro_blind (z_recv (q := (RX7, TX7, 19)) (ci := 7) (q0 := 0) hK (zP_reg hP 0 rfl) rfl rfl) (z_prec hK hP) rfl hl.1 (Nat.le_of_ble_eq_true rfl) (z_d hX7_label_0 2 rfl) ⟨Nat.zero_le _, Nat.zero_le _⟩) hS hP (fun H locs hP hS => ?_)
  refine lv_if_eq (tgt := 17) hx hb (z_d hX7_label_0 3 rfl) (by decide) (fun hc5 => ?_) (fun hc5 => ?_)
  · have hF := z_pos hc5 hF
    refine lv_iconst (v := 0) hx hb (z_d hX7_label_0 11 rfl) (by decide) ?_
    refine lv_istore_n (lv' := [(3, .int 0), (0, .ref (Am 0)), (1, .int p1), (2, .int p2)]) hx hb (z_d hX7_label_0 12 rfl) rfl hl (by decide) rfl (fun ls hl => ?_)
    refine lv_iload_n hx hb (z_d hX7_label_0 13 rfl) rfl (lv_at hl 2 rfl) ?_
    refine lv_istore (lv' := [(4, .int p1), (3, .int 0), (0, .ref (Am 0)), (1, .int p1), (2, .int p2)]) hx hb (z_d hX7_label_0 14 rfl) hl (by decide) rfl (fun ls hl => ?_)
    refine z_bnd hF (fun q8 hq8 hF => ?_)
    refine L22  _ _ _ hq8 _ _ ls hP hS (lv_sub hl [2, 3, 4, 1, 0] rfl) (fun H locs ls hP hS hl => ?_)
    exact J59 q8.1 q8.2 hF _ _ ls hP hS (lv_sub hl [0, 1, 2, 3, 4] rfl)
  · have hF := z_neg hc5 hF
    refine lv_aload_n hx hb (z_d hX7_label_0 4 rfl) rfl (lv_at hl 0 rfl) ?_
    refine lv_iload_n hx hb (z_d hX7_label_0 5 rfl) rfl (lv_at hl 1 rfl) ?_
    refine lv_iconst (v := 5) hx hb (z_d hX7_label_0 6 rfl) (by decide) ?_
    refine lv_iload_n hx hb (z_d hX7_label_0 7 rfl) rfl (lv_at hl 2 rfl) ?_
    refine lv_iadd hx hb (z_d hX7_label_0 8 rfl) ?_
    refine z_let hF (fun u21 hu21 hF => ?_)
    refine lv_topE hu21 ?_
    refine z_bnd hF (fun q22 hq22 hF => ?_)
    refine z_ro_i (z_rV (As := [.int p1, .int u21]) (rest := []) hx hb hml hown hts vt_X7_of (c_X7_of l Z Am M p1 u21 _ hq22) rfl rfl ⟨Nat.le_of_ble_eq_true rfl, Nat.le_of_ble_eq_true rfl⟩ k_m_X7_62 zPro_blind (z_recv (q := (RX7, TX7, 19)) (ci := 7) (q0 := 0) hK (zP_reg hP 0 rfl) rfl rfl) (z_prec hK hP) rfl hl.1 (Nat.le_of_ble_eq_true rfl) (z_d hX7_label_0 9 rfl) ⟨Nat.zero_le _, Nat.zero_le _⟩) hS hP (fun H locs hP hS => ?_)
    obtain rfl := Option.some.inj hF
    subst hQ
    exact W.iret hx hb hr (fun t ht hW => zq_ro (hS.F ht)) hS.2.2 (z_d hX7_label_0 10 rfl)
def rm_X7_areTwo : Room := { frames := 4, cells := 0, slots := 0, locals := 94 }
set_option maxRecDepth 100000 in
set_option maxHeartbeats 4000000 in
theorem c_X7_areTwo (l : Launch) (Z : zZ) (Am : Nat → Nat) (M : t_Model) (p1 : Int32) (p2 : Int32) (R : Int32) (hF : X7_areTwo M p1 p2 = some R) : zRO l yX7_areTwo (zw yX7_areTwo cX7_areTwo 3 (some .boolean)) rm_X7_areTwo Z [.ref (Am 0), .int p1, .int p2] (w_Model Z.2.1 Am M) (some (.int R)) := by
  refine zRO_of (by decide) (Nat.le_of_ble_eq_true rfl) (fun p e s m below meth c hx hb hr hml hown hts hlocks hK Q hQ ls hl hP hS => ?_)
  unfold X7_areTwo at hF
  have hl : lv_has ls 3 [(0, .ref (Am 0)), (1, .int p1), (2, .int p2)] := hl
  have hown : s.vm.findClass RX7 = some m.cls := hown
  have hP : va_P Z.1 vwCl (l_Model Z.2.1 Am M.1 M.2.1 M.2.2.1 M.2.2.2.1 M.2.2.2.2.1 M.2.2.2.2.2.1 M.2.2.2.2.2.2.1 M.2.2.2.2.2.2.2.1 M.2.2.2.2.2.2.2.2.1 M.2.2.2.2.2.2.2.2.2.1 M.2.2.2.2.2.2.2.2.2.2.1 M.2.2.2.2.2.2.2.2.2.2.2.1 M.2.2.2.2.2.2.2.2.2.2.2.2.1 M.2.2.2.2.2.2.2.2.2.2.2.2.2.1 M.2.2.2.2.2.2.2.2.2.2.2.2.2.2.1 M.2.2.2.2.2.2.2.2.2.2.2.2.2.2.2.1 M.2.2.2.2.2.2.2.2.2.2.2.2.2.2.2.2.1 M.2.2.2.2.2.2.2.2.2.2.2.2.2.2.2.2.2.1 M.2.2.2.2.2.2.2.2.2.2.2.2.2.2.2.2.2.2).flatten s.heap := hP
  refine lv_aload_n hx hb (z_d hX7_areTwo_0 0 rfl) rfl (lv_at hl 0 rfl) ?_
  refine lv_iload_n hx hb (z_d hX7_areTwo_0 1 rfl) rfl (lv_at hl 1 rfl) ?_
  refine lv_iconst (v := 0) hx hb (z_d hX7_areTwo_0 2 rfl) (by decide) ?_
  refine z_bnd hF (fun q1 hq1 hF => ?_)
  refine z_ro_i (z_rV (As := [.int p1, .int 0]) (rest := []) hx hb hml hown hts vt_X7_label (c_X7_label l Z Am M p1 0 _ hq1) rfl rfl ⟨Nat.le_of_ble_eq_true rfl, Nat.le_of_ble_eq_true rfl⟩ k_m_X7_91 zPro_blind (z_recv (q := (RX7, TX7, 19)) (ci := 7) (q0 := 0) hK (zP_reg hP 0 rfl) rfl rfl) (z_prec hK hP) rfl hl.1 (Nat.le_of_ble_eq_true rfl) (z_d hX7_areTwo_0 3 rfl) ⟨Nat.zero_le _, Nat.zero_le _⟩) hS hP (fun H locs hP hS => ?_)
  refine lv_aload_n hx hb (z_d hX7_areTwo_0 4 rfl) rfl (lv_at hl 0 rfl) ?_
  refine lv_iload_n hx hb (z_d hX7_areTwo_0 5 rfl) rfl (lv_at hl 2 rfl) ?_
  refine lv_iconst (v := 0) hx hb (z_d hX7_areTwo_0 6 rfl) (by decide) ?_
  refine z_bnd hF (fun q2 hq2 hF => ?_)
  refine z_ro_i (z_rV (As := [.int p2, .int 0]) (rest := [.int q1]) hx hb hml hown hts vt_X7_label (c_X7_label l Z Am M p2 0 _ hq2) rfl rfl ⟨Nat.le_of_ble_eq_true rfl, Nat.le_of_ble_eq_true rfl⟩ k_m_X7_91 zPro_blind (z_recv (q := (RX7, TX7, 19)) (ci := 7) (q0 := 0) hK (zP_reg hP 0 rfl) rfl rfl) (z_prec hK hP) rfl hl.1 (Nat.le_of_ble_eq_true rfl) (z_d hX7_areTwo_0 7 rfl) ⟨Nat.zero_le _, Nat.zero_le _⟩) hS hP (fun H locs hP hS => ?_)
  refine lv_icmp_ne (tgt := 49) hx hb (z_d hX7_areTwo_0 8 rfl) (by decide) (fun hc12 => ?_) (fun hc12 => ?_)
  · have hF := z_neg hc12 hF
    refine lv_iconst (v := 0) hx hb (z_d hX7_areTwo_0 29 rfl) (by decide) ?_
    have hz9 : narrow .boolean (.int 0) = .int 0 := rfl
    obtain rfl := Option.some.inj hF
    subst hQ
    exact W.zret hx hb hr hz9 (fun t ht hW => zq_ro (hS.F ht)) hS.2.2 (z_d hX7_areTwo_0 30 rfl)
  · have hF := z_pos hc12 hF
    refine lv_aload_n hx hb (z_d hX7_areTwo_0 9 rfl) rfl (lv_at hl 0 rfl) ?_
    refine lv_iload_n hx hb (z_d hX7_areTwo_0 10 rfl) rfl (lv_at hl 1 rfl) ?_
    refine lv_iconst (v := 1) hx hb (z_d hX7_areTwo_0 11 rfl) (by decide) ?_
    refine z_bnd hF (fun q3 hq3 hF => ?_)
    refine z_ro_i (z_rV (As := [.int p1, .int 1]) (rest := []) hx hb hml hown hts vt_X7_label (c_X7_label l Z Am M p1 1 _ hq3) rfl rfl ⟨Nat.le_of_ble_eq_true rfl, Nat.le_of_ble_eq_true rfl⟩ k_m_X7_91 zPro_blind (z_recv (q := (RX7, TX7, 19)) (ci := 7) (q0 := 0) hK (zP_reg hP 0 rfl) rfl rfl) (z_prec hK hP) rfl hl.1 (Nat.le_of_ble_eq_true rfl) (z_d hX7_areTwo_0 12 rfl) ⟨Nat.zero_le _, Nat.zero_le _⟩) hS hP (fun H locs hP hS => ?_)
    refine lv_aload_n hx hb (z_d hX7_areTwo_0 13 rfl) rfl (lv_at hl 0 rfl) ?_
    refine lv_iload_n hx hb (z_d hX7_areTwo_0 14 rfl) rfl (lv_at hl 2 rfl) ?_
    refine lv_iconst (v := 1) hx hb (z_d hX7_areTwo_0 15 rfl) (by decide) ?_
    refine z_bnd hF (fun q4 hq4 hF => ?_)
    refine z_ro_i (z_rV (As := [.int p2, .int 1]) (rest := [.int q3]) hx hb hml hown hts vt_X7_label (c_X7_label l Z Am M p2 1 _ hq4) rfl rfl ⟨Nat.le_of_ble_eq_true rfl, Nat.le_of_ble_eq_true rfl⟩ k_m_X7_91 zPro_blind (z_recv (q := (RX7, TX7, 19)) (ci := 7) (q0 := 0) hK (zP_reg hP 0 rfl) rfl rfl) (z_prec hK hP) rfl hl.1 (Nat.le_of_ble_eq_true rfl) (z_d hX7_areTwo_0 16 rfl) ⟨Nat.zero_le _, Nat.zero_le _⟩) hS hP (fun H locs hP hS => ?_)
    refine lv_icmp_ne (tgt := 49) hx hb (z_d hX7_areTwo_0 17 rfl) (by decide) (fun hc27 => ?_) (fun hc27 => ?_)
    · have hF := z_neg hc27 hF
      refine lv_iconst (v := 0) hx hb (z_d hX7_areTwo_0 29 rfl) (by decide) ?_
      have hz9 : narrow .boolean (.int 0) = .int 0 := rfl
      obtain rfl := Option.some.inj hF
      subst hQ
      exact W.zret hx hb hr hz9 (fun t ht hW => zq_ro (hS.F ht)) hS.2.2 (z_d hX7_areTwo_0 30 rfl)
    · have hF := z_pos hc27 hF
      refine lv_aload_n hx hb (z_d hX7_areTwo_0 18 rfl) rfl (lv_at hl 0 rfl) ?_
      refine lv_iload_n hx hb (z_d hX7_areTwo_0 19 rfl) rfl (lv_at hl 1 rfl) ?_
      refine lv_iconst (v := 2) hx hb (z_d hX7_areTwo_0 20 rfl) (by decide) ?_
      refine z_bnd hF (fun q5 hq5 hF => ?_)
      refine z_ro_i (z_rV (As := [.int p1, .int 2]) (rest := []) hx hb hml hown hts vt_X7_label (c_X7_label l Z Am M p1 2 _ hq5) rfl rfl ⟨Nat.le_of_ble_eq_true rfl, Nat.le_of_ble_eq_true rfl⟩ k_m_X7_91 zPro_blind (z_recv (q := (RX7, TX7, 19)) (ci := 7) (q0 := 0) hK (zP_reg hP 0 rfl) rfl rfl) (z_prec hK hP) rfl hl.1 (Nat.le_of_ble_eq_true rfl) (z_d hX7_areTwo_0 21 rfl) ⟨Nat.zero_le _, Nat.zero_le _⟩) hS hP (fun H locs hP hS => ?_)
      refine lv_aload_n hx hb (z_d hX7_areTwo_0 22 rfl) rfl (lv_at hl 0 rfl) ?_
      refine lv_iload_n hx hb (z_d hX7_areTwo_0 23 rfl) rfl (lv_at hl 2 rfl) ?_
      refine lv_iconst (v := 2) hx hb (z_d hX7_areTwo_0 24 rfl) (by decide) ?_
      refine z_bnd hF (fun q6 hq6 hF => ?_)
      refine z_ro_i (z_rV (As := [.int p2, .int 2]) (rest := [.int q5]) hx hb hml hown hts vt_X7_label (c_X7_label l Z Am M p2 2 _ hq6) rfl rfl ⟨Nat.le_of_ble_eq_true rfl, Nat.le_of_ble_eq_true rfl⟩ k_m_X7_91 zPro_blind (z_recv (q := (RX7, TX7, 19)) (ci := 7) (q0 := 0) hK (zP_reg hP 0 rfl) rfl rfl) (z_prec hK hP) rfl hl.1 (Nat.le_of_ble_eq_true rfl) (z_d hX7_areTwo_0 25 rfl) ⟨Nat.zero_le _, Nat.zero_le _⟩) hS hP (fun H locs hP hS => ?_)
      refine lv_icmp_ne (tgt := 49) hx hb (z_d hX7_areTwo_0 26 rfl) (by decide) (fun hc42 => ?_) (fun hc42 => ?_)
      · have hF := z_neg hc42 hF
        refine lv_iconst (v := 0) hx hb (z_d hX7_areTwo_0 29 rfl) (by decide) ?_
        have hz9 : narrow .boolean (.int 0) = .int 0 := rfl
        obtain rfl := Option.some.inj hF
        subst hQ
        exact W.zret hx hb hr hz9 (fun t ht hW => zq_ro (hS.F ht)) hS.2.2 (z_d hX7_areTwo_0 30 rfl)
      · have hF := z_pos hc42 hF
        refine lv_iconst (v := 1) hx hb (z_d hX7_areTwo_0 27 rfl) (by decide) ?_
        refine lv_goto (tgt := 50) hx hb (z_d hX7_areTwo_0 28 rfl) (by decide) ?_
        have hz9 : narrow .boolean (.int 1) = .int 1 := rfl
        obtain rfl := Option.some.inj hF
        subst hQ
        exact W.zret hx hb hr hz9 (fun t ht hW => zq_ro (hS.F ht)) hS.2.2 (z_d hX7_areTwo_0 30 rfl)
def rm_X7_hasTwo : Room := { frames := 5, cells := 0, slots := 0, locals := 116 }
set_option maxRecDepth 100000 in
set_option maxHeartbeats 4000000 in
theorem c_X7_hasTwo (l : Launch) (Z : zZ) (Am : Nat → Nat) (M : t_Model) (R : Int32) (hF : X7_hasTwo M = some R) : zRO l yX7_hasTwo (zw yX7_hasTwo cX7_hasTwo 4 (some .boolean)) rm_X7_hasTwo Z [.ref (Am 0)] (w_Model Z.2.1 Am M) (some (.int R)) := by
  refine zRO_of (by decide) (Nat.le_of_ble_eq_true rfl) (fun p e s m below meth c hx hb hr hml hown hts hlocks hK Q hQ ls hl hP hS => ?_)
  unfold X7_hasTwo at hF
  have hl : lv_has ls 4 [(0, .ref (Am 0))] := hl
  have hown : s.vm.findClass RX7 = some m.cls := hown
  have hP : va_P Z.1 vwCl (l_Model Z.2.1 Am M.1 M.2.1 M.2.2.1 M.2.2.2.1 M.2.2.2.2.1 M.2.2.2.2.2.1 M.2.2.2.2.2.2.1 M.2.2.2.2.2.2.2.1 M.2.2.2.2.2.2.2.2.1 M.2.2.2.2.2.2.2.2.2.1 M.2.2.2.2.2.2.2.2.2.2.1 M.2.2.2.2.2.2.2.2.2.2.2.1 M.2.2.2.2.2.2.2.2.2.2.2.2.1 M.2.2.2.2.2.2.2.2.2.2.2.2.2.1 M.2.2.2.2.2.2.2.2.2.2.2.2.2.2.1 M.2.2.2.2.2.2.2.2.2.2.2.2.2.2.2.1 M.2.2.2.2.2.2.2.2.2.2.2.2.2.2.2.2.1 M.2.2.2.2.2.2.2.2.2.2.2.2.2.2.2.2.2.1 M.2.2.2.2.2.2.2.2.2.2.2.2.2.2.2.2.2.2).flatten s.heap := hP
  have L4 : ∀  (n : Nat) (v : Int32 × Int32) (X : Int32) (hF : zloop (b_X7_hasTwo_4 M ) n v = some X) (H : Heap) (locs : List Loc) (ls : Array Slot) (hP : va_P Z.1 vwCl (l_Model Z.2.1 Am M.1 M.2.1 M.2.2.1 M.2.2.2.1 M.2.2.2.2.1 M.2.2.2.2.2.1 M.2.2.2.2.2.2.1 M.2.2.2.2.2.2.2.1 M.2.2.2.2.2.2.2.2.1 M.2.2.2.2.2.2.2.2.2.1 M.2.2.2.2.2.2.2.2.2.2.1 M.2.2.2.2.2.2.2.2.2.2.2.1 M.2.2.2.2.2.2.2.2.2.2.2.2.1 M.2.2.2.2.2.2.2.2.2.2.2.2.2.1 M.2.2.2.2.2.2.2.2.2.2.2.2.2.2.1 M.2.2.2.2.2.2.2.2.2.2.2.2.2.2.2.1 M.2.2.2.2.2.2.2.2.2.2.2.2.2.2.2.2.1 M.2.2.2.2.2.2.2.2.2.2.2.2.2.2.2.2.2.1 M.2.2.2.2.2.2.2.2.2.2.2.2.2.2.2.2.2.2).flatten H) (hS : va_S (fun _ => False) s.heap H locs) (hl : lv_has ls 4 [(0, .ref (Am 0)), (1, .int v.1), (2, .int v.2)]) (K1 : ∀ (H : Heap) (locs : List Loc) (ls : Array Slot) (hP : va_P Z.1 vwCl (l_Model Z.2.1 Am M.1 M.2.1 M.2.2.1 M.2.2.2.1 M.2.2.2.2.1 M.2.2.2.2.2.1 M.2.2.2.2.2.2.1 M.2.2.2.2.2.2.2.1 M.2.2.2.2.2.2.2.2.1 M.2.2.2.2.2.2.2.2.2.1 M.2.2.2.2.2.2.2.2.2.2.1 M.2.2.2.2.2.2.2.2.2.2.2.1 M.2.2.2.2.2.2.2.2.2.2.2.2.1 M.2.2.2.2.2.2.2.2.2.2.2.2.2.1 M.2.2.2.2.2.2.2.2.2.2.2.2.2.2.1 M.2.2.2.2.2.2.2.2.2.2.2.2.2.2.2.1 M.2.2.2.2.2.2.2.2.2.2.2.2.2.2.2.2.1 M.2.2.2.2.2.2.2.2.2.2.2.2.2.2.2.2.2.1 M.2.2.2.2.2.2.2.2.2.2.2.2.2.2.2.2.2.2).flatten H) (hS : va_S (fun _ => False) s.heap H locs) (hl : lv_has ls 4 [(0, .ref (Am 0)), (1, .int X)]), W p l e rm_X7_hasTwo s m ([.ref (Am 0)] : List Value).toArray below meth c H locs 0 0 Q (F0 m 68 ls [])), W p l e rm_X7_hasTwo s m ([.ref (Am 0)] : List Value).toArray below meth c H locs 0 0 Q (F0 m 4 ls []) := by
    skip
    refine z_loopE (fun rec ih v X hF H locs ls hP hS hl K1 => ?_)
    unfold b_X7_hasTwo_4 at hF
    have L16 : ∀ (x2 : Int32) (n : Nat) (v : Int32 × Int32) (X : Int32) (hF : zloop (b_X7_hasTwo_16 M x2) n v = some X) (H : Heap) (locs : List Loc) (ls : Array Slot) (hP : va_P Z.1 vwCl (l_Model Z.2.1 Am M.1 M.2.1 M.2.2.1 M.2.2.2.1 M.2.2.2.2.1 M.2.2.2.2.2.1 M.2.2.2.2.2.2.1 M.2.2.2.2.2.2.2.1 M.2.2.2.2.2.2.2.2.1 M.2.2.2.2.2.2.2.2.2.1 M.2.2.2.2.2.2.2.2.2.2.1 M.2.2.2.2.2.2.2.2.2.2.2.1 M.2.2.2.2.2.2.2.2.2.2.2.2.1 M.2.2.2.2.2.2.2.2.2.2.2.2.2.1 M.2.2.2.2.2.2.2.2.2.2.2.2.2.2.1 M.2.2.2.2.2.2.2.2.2.2.2.2.2.2.2.1 M.2.2.2.2.2.2.2.2.2.2.2.2.2.2.2.2.1 M.2.2.2.2.2.2.2.2.2.2.2.2.2.2.2.2.2.1 M.2.2.2.2.2.2.2.2.2.2.2.2.2.2.2.2.2.2).flatten H) (hS : va_S (fun _ => False) s.heap H locs) (hl : lv_has ls 4 [(0, .ref (Am 0)), (1, .int v.1), (2, .int x2), (3, .int v.2)]) (K1 : ∀ (H : Heap) (locs : List Loc) (ls : Array Slot) (hP : va_P Z.1 vwCl (l_Model Z.2.1 Am M.1 M.2.1 M.2.2.1 M.2.2.2.1 M.2.2.2.2.1 M.2.2.2.2.2.1 M.2.2.2.2.2.2.1 M.2.2.2.2.2.2.2.1 M.2.2.2.2.2.2.2.2.1 M.2.2.2.2.2.2.2.2.2.1 M.2.2.2.2.2.2.2.2.2.2.1 M.2.2.2.2.2.2.2.2.2.2.2.1 M.2.2.2.2.2.2.2.2.2.2.2.2.1 M.2.2.2.2.2.2.2.2.2.2.2.2.2.1 M.2.2.2.2.2.2.2.2.2.2.2.2.2.2.1 M.2.2.2.2.2.2.2.2.2.2.2.2.2.2.2.1 M.2.2.2.2.2.2.2.2.2.2.2.2.2.2.2.2.1 M.2.2.2.2.2.2.2.2.2.2.2.2.2.2.2.2.2.1 M.2.2.2.2.2.2.2.2.2.2.2.2.2.2.2.2.2.2).flatten H) (hS : va_S (fun _ => False) s.heap H locs) (hl : lv_has ls 4 [(0, .ref (Am 0)), (1, .int X), (2, .int x2)]), W p l e rm_X7_hasTwo s m ([.ref (Am 0)] : List Value).toArray below meth c H locs 0 0 Q (F0 m 62 ls [])), W p l e rm_X7_hasTwo s m ([.ref (Am 0)] : List Value).toArray below meth c H locs 0 0 Q (F0 m 16 ls []) := by
      intro x2
      refine z_loopE (fun rec ih v X hF H locs ls hP hS hl K1 => ?_)
      unfold b_X7_hasTwo_16 at hF
      refine lv_iload_n hx hb (z_d hX7_hasTwo_0 12 rfl) rfl (lv_at hl 3 rfl) ?_
      refine lv_iload_n hx hb (z_d hX7_hasTwo_0 13 rfl) rfl (lv_at hl 2 rfl) ?_
      refine lv_icmp_ge (tgt := 62) hx hb (z_d hX7_hasTwo_0 14 rfl) (by decide) (fun hc18 => ?_) (fun hc18 => ?_)
      · have hF := z_pos hc18 hF
        obtain rfl := Option.some.inj hF
        exact K1 _ _ ls hP hS (lv_sub hl [0, 1, 2] rfl)
      · have hF := z_neg hc18 hF
        refine lv_iload_n hx hb (z_d hX7_hasTwo_0 15 rfl) rfl (lv_at hl 1 rfl) ?_
        refine lv_if_ne (tgt := 50) hx hb (z_d hX7_hasTwo_0 16 rfl) (by decide) (fun hc22 => ?_) (fun hc22 => ?_)
        · have hF := z_neg hc22 hF
          refine lv_iconst (v := 1) hx hb (z_d hX7_hasTwo_0 30 rfl) (by decide) ?_
          refine lv_goto (tgt := 55) hx hb (z_d hX7_hasTwo_0 31 rfl) (by decide) ?_
          refine lv_istore_n (lv' := [(1, .int 1), (0, .ref (Am 0)), (2, .int x2), (3, .int v.2)]) hx hb (z_d hX7_hasTwo_0 33 rfl) rfl hl (by decide) rfl (fun ls hl => ?_)
          refine z_let hF (fun u2 hu2 hF => ?_)
          refine lv_iinc (v := u2) (lv' := [(3, .int u2), (1, .int 1), (0, .ref (Am 0)), (2, .int x2)]) hx hb (z_d hX7_hasTwo_0 34 rfl) hl (k := 3) rfl (z_inc1 hu2) (by decide) rfl (fun ls hl => ?_)
          refine lv_goto (tgt := 16) hx hb (z_d hX7_hasTwo_0 35 rfl) (by decide) ?_
          exact ih _ _ hF _ _ ls hP hS (lv_sub hl [2, 1, 3, 0] rfl) K1
        · have hF := z_pos hc22 hF
          refine lv_aload_n hx hb (z_d hX7_hasTwo_0 17 rfl) rfl (lv_at hl 0 rfl) ?_
          refine lv_iload_n hx hb (z_d hX7_hasTwo_0 18 rfl) rfl (lv_at hl 2 rfl) ?_
          refine z_bnd hF (fun q3 hq3 hF => ?_)
          refine z_ro_i (z_rV (As := [.int x2]) (rest := []) hx hb hml hown hts vt_X7_isHeading (c_X7_isHeading l Z Am M x2 _ hq3) rfl rfl ⟨Nat.le_of_ble_eq_true rfl, Nat.le_of_ble_eq_true rfl⟩ k_m_X7_76 zPro_blind (z_recv (q := (RX7, TX7, 19)) (ci := 7) (q0 := 0) hK (zP_reg hP 0 rfl) rfl rfl) (z_prec hK hP) rfl hl.1 (Nat.le_of_ble_eq_true rfl) (z_d hX7_hasTwo_0 19 rfl) ⟨Nat.zero_le _, Nat.zero_le _⟩) hS hP (fun H locs hP hS => ?_)
          refine lv_if_eq (tgt := 54) hx hb (z_d hX7_hasTwo_0 20 rfl) (by decide) (fun hc30 => ?_) (fun hc30 => ?_)
          · have hF := z_pos hc30 hF
            refine lv_iconst (v := 0) hx hb (z_d hX7_hasTwo_0 32 rfl) (by decide) ?_
            refine lv_istore_n (lv' := [(1, .int 0), (0, .ref (Am 0)), (2, .int x2), (3, .int v.2)]) hx hb (z_d hX7_hasTwo_0 33 rfl) rfl hl (by decide) rfl (fun ls hl => ?_)
            refine z_let hF (fun u4 hu4 hF => ?_)
            refine lv_iinc (v := u4) (lv' := [(3, .int u4), (1, .int 0), (0, .ref (Am 0)), (2, .int x2)]) hx hb (z_d hX7_hasTwo_0 34 rfl) hl (k := 3) rfl (z_inc1 hu4) (by decide) rfl (fun ls hl => ?_)
            refine lv_goto (tgt := 16) hx hb (z_d hX7_hasTwo_0 35 rfl) (by decide) ?_
            exact ih _ _ hF _ _ ls hP hS (lv_sub hl [2, 1, 3, 0] rfl) K1
          · have hF := z_neg hc30 hF
            refine lv_aload_n hx hb (z_d hX7_hasTwo_0 21 rfl) rfl (lv_at hl 0 rfl) ?_
            refine lv_iload_n hx hb (z_d hX7_hasTwo_0 22 rfl) rfl (lv_at hl 3 rfl) ?_
            refine z_bnd hF (fun q5 hq5 hF => ?_)
            refine z_ro_i (z_rV (As := [.int v.2]) (rest := []) hx hb hml hown hts vt_X7_isHeading (c_X7_isHeading l Z Am M v.2 _ hq5) rfl rfl ⟨Nat.le_of_ble_eq_true rfl, Nat.le_of_ble_eq_true rfl⟩ k_m_X7_76 zPro_blind (z_recv (q := (RX7, TX7, 19)) (ci := 7) (q0 := 0) hK (zP_reg hP 0 rfl) rfl rfl) (z_prec hK hP) rfl hl.1 (Nat.le_of_ble_eq_true rfl) (z_d hX7_hasTwo_0 23 rfl) ⟨Nat.zero_le _, Nat.zero_le _⟩) hS hP (fun H locs hP hS => ?_)
            refine lv_if_eq (tgt := 54) hx hb (z_d hX7_hasTwo_0 24 rfl) (by decide) (fun hc38 => ?_) (fun hc38 => ?_)
            · have hF := z_pos hc38 hF
              refine lv_iconst (v := 0) hx hb (z_d hX7_hasTwo_0 32 rfl) (by decide) ?_
              refine lv_istore_n (lv' := [(1, .int 0), (0, .ref (Am 0)), (2, .int x2), (3, .int v.2)]) hx hb (z_d hX7_hasTwo_0 33 rfl) rfl hl (by decide) rfl (fun ls hl => ?_)
              refine z_let hF (fun u6 hu6 hF => ?_)
              refine lv_iinc (v := u6) (lv' := [(3, .int u6), (1, .int 0), (0, .ref (Am 0)), (2, .int x2)]) hx hb (z_d hX7_hasTwo_0 34 rfl) hl (k := 3) rfl (z_inc1 hu6) (by decide) rfl (fun ls hl => ?_)
              refine lv_goto (tgt := 16) hx hb (z_d hX7_hasTwo_0 35 rfl) (by decide) ?_
              exact ih _ _ hF _ _ ls hP hS (lv_sub hl [2, 1, 3, 0] rfl) K1
            · have hF := z_neg hc38 hF
              refine lv_aload_n hx hb (z_d hX7_hasTwo_0 25 rfl) rfl (lv_at hl 0 rfl) ?_
              refine lv_iload_n hx hb (z_d hX7_hasTwo_0 26 rfl) rfl (lv_at hl 3 rfl) ?_
              refine lv_iload_n hx hb (z_d hX7_hasTwo_0 27 rfl) rfl (lv_at hl 2 rfl) ?_
              refine z_bnd hF (fun q7 hq7 hF => ?_)
              refine z_ro_i (z_rV (As := [.int v.2, .int x2]) (rest := []) hx hb hml hown hts vt_X7_areTwo (c_X7_areTwo l Z Am M v.2 x2 _ hq7) rfl rfl ⟨Nat.le_of_ble_eq_true rfl, Nat.le_of_ble_eq_true rfl⟩ k_m_X7_94 zPro_blind (z_recv (q := (RX7, TX7, 19)) (ci := 7) (q0 := 0) hK (zP_reg hP 0 rfl) rfl rfl) (z_prec hK hP) rfl hl.1 (Nat.le_of_ble_eq_true rfl) (z_d hX7_hasTwo_0 28 rfl) ⟨Nat.zero_le _, Nat.zero_le _⟩) hS hP (fun H locs hP hS => ?_)
              refine lv_if_eq (tgt := 54) hx hb (z_d hX7_hasTwo_0 29 rfl) (by decide) (fun hc47 => ?_) (fun hc47 => ?_)
              · have hF := z_pos hc47 hF
                refine lv_iconst (v := 0) hx hb (z_d hX7_hasTwo_0 32 rfl) (by decide) ?_
                refine lv_istore_n (lv' := [(1, .int 0), (0, .ref (Am 0)), (2, .int x2), (3, .int v.2)]) hx hb (z_d hX7_hasTwo_0 33 rfl) rfl hl (by decide) rfl (fun ls hl => ?_)
                refine z_let hF (fun u8 hu8 hF => ?_)
                refine lv_iinc (v := u8) (lv' := [(3, .int u8), (1, .int 0), (0, .ref (Am 0)), (2, .int x2)]) hx hb (z_d hX7_hasTwo_0 34 rfl) hl (k := 3) rfl (z_inc1 hu8) (by decide) rfl (fun ls hl => ?_)
                refine lv_goto (tgt := 16) hx hb (z_d hX7_hasTwo_0 35 rfl) (by decide) ?_
                exact ih _ _ hF _ _ ls hP hS (lv_sub hl [2, 1, 3, 0] rfl) K1
              · have hF := z_neg hc47 hF
                refine lv_iconst (v := 1) hx hb (z_d hX7_hasTwo_0 30 rfl) (by decide) ?_
                refine lv_goto (tgt := 55) hx hb (z_d hX7_hasTwo_0 31 rfl) (by decide) ?_
                refine lv_istore_n (lv' := [(1, .int 1), (0, .ref (Am 0)), (2, .int x2), (3, .int v.2)]) hx hb (z_d hX7_hasTwo_0 33 rfl) rfl hl (by decide) rfl (fun ls hl => ?_)
                refine z_let hF (fun u9 hu9 hF => ?_)
                refine lv_iinc (v := u9) (lv' := [(3, .int u9), (1, .int 1), (0, .ref (Am 0)), (2, .int x2)]) hx hb (z_d hX7_hasTwo_0 34 rfl) hl (k := 3) rfl (z_inc1 hu9) (by decide) rfl (fun ls hl => ?_)
                refine lv_goto (tgt := 16) hx hb (z_d hX7_hasTwo_0 35 rfl) (by decide) ?_
                exact ih _ _ hF _ _ ls hP hS (lv_sub hl [2, 1, 3, 0] rfl) K1
    refine lv_iload_n hx hb (z_d hX7_hasTwo_0 4 rfl) rfl (lv_at hl 2 rfl) ?_
    refine lv_aload_n hx hb (z_d hX7_hasTwo_0 5 rfl) rfl (lv_at hl 0 rfl) ?_
    refine va_get (D := Z.1) (ci := 7) (v := .ref (Am 1)) (C := RX7) (T := TX7) (N := 19) hx hb hts zinX7 hown hK.1 (zP_reg hP 0 rfl) 0 rfl rfl 0 (by decide) (hts _ k_f_X7_7) (fun _ h9 => h9) rfl (z_d hX7_hasTwo_0 6 rfl) ?_
    refine lv_iconst (v := 1) hx hb (z_d hX7_hasTwo_0 7 rfl) (by decide) ?_
    refine z_ix hF (fun hin hF => ?_)
    refine va_iald (D := Z.1) (f := M.1) hx hb hK.1 (zP_reg hP 1 rfl) 0 0 rfl rfl hin (z_d hX7_hasTwo_0 8 rfl) ?_
    refine z_let hF (fun u1 hu1 hF => ?_)
    refine lv_topE hu1 ?_
    refine lv_icmp_ge (tgt := 68) hx hb (z_d hX7_hasTwo_0 9 rfl) (by decide) (fun hc11 => ?_) (fun hc11 => ?_)
    · have hF := z_pos hc11 hF
      obtain rfl := Option.some.inj hF
      exact K1 _ _ ls hP hS (lv_sub hl [0, 1] rfl)
    · have hF := z_neg hc11 hF
      refine lv_iconst (v := 0) hx hb (z_d hX7_hasTwo_0 10 rfl) (by decide) ?_
      refine lv_istore_n (lv' := [(3, .int 0), (0, .ref (Am 0)), (1, .int v.1), (2, .int v.2)]) hx hb (z_d hX7_hasTwo_0 11 rfl) rfl hl (by decide) rfl (fun ls hl => ?_)
      refine z_bnd hF (fun q10 hq10 hF => ?_)
      refine L16 v.2 _ _ _ hq10 _ _ ls hP hS (lv_sub hl [1, 2, 3, 0] rfl) (fun H locs ls hP hS hl => ?_)
      refine z_let hF (fun u11 hu11 hF => ?_)
      refine lv_iinc (v := u11) (lv' := [(2, .int u11), (0, .ref (Am 0)), (1, .int q10)]) hx hb (z_d hX7_hasTwo_0 36 rfl) hl (k := 2) rfl (z_inc1 hu11) (by decide) rfl (fun ls hl => ?_)
      refine lv_goto (tgt := 4) hx hb (z_d hX7_hasTwo_0 37 rfl) (by decide) ?_
      exact ih _ _ hF _ _ ls hP hS (lv_sub hl [1, 2, 0] rfl) K1
  refine lv_iconst (v := 0) hx hb (z_d hX7_hasTwo_0 0 rfl) (by decide) ?_
  refine lv_istore_n (lv' := [(1, .int 0), (0, .ref (Am 0))]) hx hb (z_d hX7_hasTwo_0 1 rfl) rfl hl (by decide) rfl (fun ls hl => ?_)
  refine lv_iconst (v := 0) hx hb (z_d hX7_hasTwo_0 2 rfl) (by decide) ?_
  refine lv_istore_n (lv' := [(2, .int 0), (1, .int 0), (0, .ref (Am 0))]) hx hb (z_d hX7_hasTwo_0 3 rfl) rfl hl (by decide) rfl (fun ls hl => ?_)
  refine z_bnd hF (fun q12 hq12 hF => ?_)
  refine L4  _ _ _ hq12 _ _ ls hP hS (lv_sub hl [2, 1, 0] rfl) (fun H locs ls hP hS hl => ?_)
  refine lv_iload_n hx hb (z_d hX7_hasTwo_0 38 rfl) rfl (lv_at hl 1 rfl) ?_
  refine z_bl hF (fun h9 hF => ?_)
  have hz9 := z_bool h9
  obtain rfl := Option.some.inj hF
  subst hQ
  exact W.zret hx hb hr hz9 (fun t ht hW => zq_ro (hS.F ht)) hS.2.2 (z_d hX7_hasTwo_0 39 rfl)
def rm_X7_isCarried : Room := { frames := 3, cells := 0, slots := 0, locals := 66 }
set_option maxRecDepth 100000 in
set_option maxHeartbeats 4000000 in
theorem c_X7_isCarried (l : Launch) (Z : zZ) (Am : Nat → Nat) (M : t_Model) (p1 : Int32) (R : Int32) (hF : X7_isCarried M p1 = some R) : zRO l yX7_isCarried (zw yX7_isCarried cX7_isCarried 3 (some .boolean)) rm_X7_isCarried Z [.ref (Am 0), .int p1] (w_Model Z.2.1 Am M) (some (.int R)) := by
  refine zRO_of (by decide) (Nat.le_of_ble_eq_true rfl) (fun p e s m below meth c hx hb hr hml hown hts hlocks hK Q hQ ls hl hP hS => ?_)
  unfold X7_isCarried at hF
  have hl : lv_has ls 3 [(0, .ref (Am 0)), (1, .int p1)] := hl
  have hown : s.vm.findClass RX7 = some m.cls := hown
  have hP : va_P Z.1 vwCl (l_Model Z.2.1 Am M.1 M.2.1 M.2.2.1 M.2.2.2.1 M.2.2.2.2.1 M.2.2.2.2.2.1 M.2.2.2.2.2.2.1 M.2.2.2.2.2.2.2.1 M.2.2.2.2.2.2.2.2.1 M.2.2.2.2.2.2.2.2.2.1 M.2.2.2.2.2.2.2.2.2.2.1 M.2.2.2.2.2.2.2.2.2.2.2.1 M.2.2.2.2.2.2.2.2.2.2.2.2.1 M.2.2.2.2.2.2.2.2.2.2.2.2.2.1 M.2.2.2.2.2.2.2.2.2.2.2.2.2.2.1 M.2.2.2.2.2.2.2.2.2.2.2.2.2.2.2.1 M.2.2.2.2.2.2.2.2.2.2.2.2.2.2.2.2.1 M.2.2.2.2.2.2.2.2.2.2.2.2.2.2.2.2.2.1 M.2.2.2.2.2.2.2.2.2.2.2.2.2.2.2.2.2.2).flatten s.heap := hP
  have L25 : ∀  (n : Nat) (v : Int32) (X : Int32) (hF : zloop (b_X7_isCarried_25 M p1 ) n v = some X) (H : Heap) (locs : List Loc) (ls : Array Slot) (hP : va_P Z.1 vwCl (l_Model Z.2.1 Am M.1 M.2.1 M.2.2.1 M.2.2.2.1 M.2.2.2.2.1 M.2.2.2.2.2.1 M.2.2.2.2.2.2.1 M.2.2.2.2.2.2.2.1 M.2.2.2.2.2.2.2.2.1 M.2.2.2.2.2.2.2.2.2.1 M.2.2.2.2.2.2.2.2.2.2.1 M.2.2.2.2.2.2.2.2.2.2.2.1 M.2.2.2.2.2.2.2.2.2.2.2.2.1 M.2.2.2.2.2.2.2.2.2.2.2.2.2.1 M.2.2.2.2.2.2.2.2.2.2.2.2.2.2.1 M.2.2.2.2.2.2.2.2.2.2.2.2.2.2.2.1 M.2.2.2.2.2.2.2.2.2.2.2.2.2.2.2.2.1 M.2.2.2.2.2.2.2.2.2.2.2.2.2.2.2.2.2.1 M.2.2.2.2.2.2.2.2.2.2.2.2.2.2.2.2.2.2).flatten H) (hS : va_S (fun _ => False) s.heap H locs) (hl : lv_has ls 3 [(0, .ref (Am 0)), (1, .int p1), (2, .int v)]) (K1 : ∀ (H : Heap) (locs : List Loc) (ls : Array Slot) (hP : va_P Z.1 vwCl (l_Model Z.2.1 Am M.1 M.2.1 M.2.2.1 M.2.2.2.1 M.2.2.2.2.1 M.2.2.2.2.2.1 M.2.2.2.2.2.2.1 M.2.2.2.2.2.2.2.1 M.2.2.2.2.2.2.2.2.1 M.2.2.2.2.2.2.2.2.2.1 M.2.2.2.2.2.2.2.2.2.2.1 M.2.2.2.2.2.2.2.2.2.2.2.1 M.2.2.2.2.2.2.2.2.2.2.2.2.1 M.2.2.2.2.2.2.2.2.2.2.2.2.2.1 M.2.2.2.2.2.2.2.2.2.2.2.2.2.2.1 M.2.2.2.2.2.2.2.2.2.2.2.2.2.2.2.1 M.2.2.2.2.2.2.2.2.2.2.2.2.2.2.2.2.1 M.2.2.2.2.2.2.2.2.2.2.2.2.2.2.2.2.2.1 M.2.2.2.2.2.2.2.2.2.2.2.2.2.2.2.2.2.2).flatten H) (hS : va_S (fun _ => False) s.heap H locs) (hl : lv_has ls 3 [(0, .ref (Am 0)), (1, .int p1), (2, .int X)]), W p l e rm_X7_isCarried s m ([.ref (Am 0), .int p1] : List Value).toArray below meth c H locs 0 0 Q (F0 m 49 ls [])), W p l e rm_X7_isCarried s m ([.ref (Am 0), .int p1] : List Value).toArray below meth c H locs 0 0 Q (F0 m 25 ls []) := by
    skip
    refine z_loopE (fun rec ih v X hF H locs ls hP hS hl K1 => ?_)
    unfold b_X7_isCarried_25 at hF
    refine lv_aload_n hx hb (z_d hX7_isCarried_0 17 rfl) rfl (lv_at hl 0 rfl) ?_
    refine lv_iload_n hx hb (z_d hX7_isCarried_0 18 rfl) rfl (lv_at hl 2 rfl) ?_
    refine z_bnd hF (fun q4 hq4 hF => ?_)
    refine z_ro_i (z_rV (As := [.int v]) (rest := []) hx hb hml hown hts vt_X7_isHeading (c_X7_isHeading l Z Am M v _ hq4) rfl rfl ⟨Nat.le_of_ble_eq_true rfl, Nat.le_of_ble_eq_true rfl⟩ k_m_X7_76 zPro_blind (z_recv (q := (RX7, TX7, 19)) (ci := 7) (q0 := 0) hK (zP_reg hP 0 rfl) rfl rfl) (z_prec hK hP) rfl hl.1 (Nat.le_of_ble_eq_true rfl) (z_d hX7_isCarried_0 19 rfl) ⟨Nat.zero_le _, Nat.zero_le _⟩) hS hP (fun H locs hP hS => ?_)
    refine lv_if_ne (tgt := 49) hx hb (z_d hX7_isCarried_0 20 rfl) (by decide) (fun hc30 => ?_) (fun hc30 => ?_)
    · have hF := z_neg hc30 hF
      obtain rfl := Option.some.inj hF
      exact K1 _ _ ls hP hS (lv_sub hl [0, 1, 2] rfl)
    · have hF := z_pos hc30 hF
      refine lv_aload_n hx hb (z_d hX7_isCarried_0 21 rfl) rfl (lv_at hl 0 rfl) ?_
      refine lv_iload_n hx hb (z_d hX7_isCarried_0 22 rfl) rfl (lv_at hl 2 rfl) ?_
      refine lv_iconst (v := 0) hx hb (z_d hX7_isCarried_0 23 rfl) (by decide) ?_
      refine z_bnd hF (fun q5 hq5 hF => ?_)
      refine z_ro_i (z_rV (As := [.int v, .int 0]) (rest := []) hx hb hml hown hts vt_X7_of (c_X7_of l Z Am M v 0 _ hq5) rfl rfl ⟨Nat.le_of_ble_eq_true rfl, Nat.le_of_ble_eq_true rfl⟩ k_m_X7_62 zPro_blind (z_recv (q := (RX7, TX7, 19)) (ci := 7) (q0 := 0) hK (zP_reg hP 0 rfl) rfl rfl) (z_prec hK hP) rfl hl.1 (Nat.le_of_ble_eq_true rfl) (z_d hX7_isCarried_0 24 rfl) ⟨Nat.zero_le _, Nat.zero_le _⟩) hS hP (fun H locs hP hS => ?_)
      refine lv_iconst (v := 2) hx hb (z_d hX7_isCarried_0 25 rfl) (by decide) ?_
      refine lv_icmp_eq (tgt := 49) hx hb (z_d hX7_isCarried_0 26 rfl) (by decide) (fun hc40 => ?_) (fun hc40 => ?_)
      · have hF := z_pos hc40 hF
        obtain rfl := Option.some.inj hF
        exact K1 _ _ ls hP hS (lv_sub hl [0, 1, 2] rfl)
      · have hF := z_neg hc40 hF
        refine z_let hF (fun u6 hu6 hF => ?_)
        refine lv_iinc (v := u6) (lv' := [(2, .int u6), (0, .ref (Am 0)), (1, .int p1)]) hx hb (z_d hX7_isCarried_0 27 rfl) hl (k := 2) rfl (z_incm1 hu6) (by decide) rfl (fun ls hl => ?_)
        refine lv_goto (tgt := 25) hx hb (z_d hX7_isCarried_0 28 rfl) (by decide) ?_
        exact ih _ _ hF _ _ ls hP hS (lv_sub hl [1, 2, 0] rfl) K1
  have J49 : ∀ (x2 : Int32) (hF : j_X7_isCarried_49 M p1 x2 = some R) (H : Heap) (locs : List Loc) (ls : Array Slot) (hP : va_P Z.1 vwCl (l_Model Z.2.1 Am M.1 M.2.1 M.2.2.1 M.2.2.2.1 M.2.2.2.2.1 M.2.2.2.2.2.1 M.2.2.2.2.2.2.1 M.2.2.2.2.2.2.2.1 M.2.2.2.2.2.2.2.2.1 M.2.2.2.2.2.2.2.2.2.1 M.2.2.2.2.2.2.2.2.2.2.1 M.2.2.2.2.2.2.2.2.2.2.2.1 M.2.2.2.2.2.2.2.2.2.2.2.2.1 M.2.2.2.2.2.2.2.2.2.2.2.2.2.1 M.2.2.2.2.2.2.2.2.2.2.2.2.2.2.1 M.2.2.2.2.2.2.2.2.2.2.2.2.2.2.2.1 M.2.2.2.2.2.2.2.2.2.2.2.2.2.2.2.2.1 M.2.2.2.2.2.2.2.2.2.2.2.2.2.2.2.2.2.1 M.2.2.2.2.2.2.2.2.2.2.2.2.2.2.2.2.2.2).flatten H) (hS : va_S (fun _ => False) s.heap H locs) (hl : lv_has ls 3 [(0, .ref (Am 0)), (1, .int p1), (2, .int x2)]), W p l e rm_X7_isCarried s m ([.ref (Am 0), .int p1] : List Value).toArray below meth c H locs 0 0 Q (F0 m 49 ls []) := by
    intro x2 hF H locs ls hP hS hl
    unfold j_X7_isCarried_49 at hF
    refine lv_aload_n hx hb (z_d hX7_isCarried_0 29 rfl) rfl (lv_at hl 0 rfl) ?_
    refine lv_iload_n hx hb (z_d hX7_isCarried_0 30 rfl) rfl (lv_at hl 2 rfl) ?_
    refine z_bnd hF (fun q8 hq8 hF => ?_)
    refine z_ro_i (z_rV (As := [.int x2]) (rest := []) hx hb hml hown hts vt_X7_isHeading (c_X7_isHeading l Z Am M x2 _ hq8) rfl rfl ⟨Nat.le_of_ble_eq_true rfl, Nat.le_of_ble_eq_true rfl⟩ k_m_X7_76 zPro_blind (z_recv (q := (RX7, TX7, 19)) (ci := 7) (q0 := 0) hK (zP_reg hP 0 rfl) rfl rfl) (z_prec hK hP) rfl hl.1 (Nat.le_of_ble_eq_true rfl) (z_d hX7_isCarried_0 31 rfl) ⟨Nat.zero_le _, Nat.zero_le _⟩) hS hP (fun H locs hP hS => ?_)
    refine lv_if_ne (tgt := 76) hx hb (z_d hX7_isCarried_0 32 rfl) (by decide) (fun hc54 => ?_) (fun hc54 => ?_)
    · have hF := z_neg hc54 hF
      refine lv_iconst (v := 0) hx hb (z_d hX7_isCarried_0 44 rfl) (by decide) ?_
      have hz9 : narrow .boolean (.int 0) = .int 0 := rfl
      obtain rfl := Option.some.inj hF
      subst hQ
      exact W.zret hx hb hr hz9 (fun t ht hW => zq_ro (hS.F ht)) hS.2.2 (z_d hX7_isCarried_0 45 rfl)
    · have hF := z_pos hc54 hF
      refine lv_aload_n hx hb (z_d hX7_isCarried_0 33 rfl) rfl (lv_at hl 0 rfl) ?_
      refine lv_iload_n hx hb (z_d hX7_isCarried_0 34 rfl) rfl (lv_at hl 2 rfl) ?_
      refine lv_iconst (v := 2) hx hb (z_d hX7_isCarried_0 35 rfl) (by decide) ?_
      refine z_bnd hF (fun q9 hq9 hF => ?_)
      refine z_ro_i (z_rV (As := [.int x2, .int 2]) (rest := []) hx hb hml hown hts vt_X7_of (c_X7_of l Z Am M x2 2 _ hq9) rfl rfl ⟨Nat.le_of_ble_eq_true rfl, Nat.le_of_ble_eq_true rfl⟩ k_m_X7_62 zPro_blind (z_recv (q := (RX7, TX7, 19)) (ci := 7) (q0 := 0) hK (zP_reg hP 0 rfl) rfl rfl) (z_prec hK hP) rfl hl.1 (Nat.le_of_ble_eq_true rfl) (z_d hX7_isCarried_0 36 rfl) ⟨Nat.zero_le _, Nat.zero_le _⟩) hS hP (fun H locs hP hS => ?_)
      refine lv_aload_n hx hb (z_d hX7_isCarried_0 37 rfl) rfl (lv_at hl 0 rfl) ?_
      refine lv_iload_n hx hb (z_d hX7_isCarried_0 38 rfl) rfl (lv_at hl 1 rfl) ?_
      refine lv_iconst (v := 2) hx hb (z_d hX7_isCarried_0 39 rfl) (by decide) ?_
      refine z_bnd hF (fun q10 hq10 hF => ?_)
      refine z_ro_i (z_rV (As := [.int p1, .int 2]) (rest := [.int q9]) hx hb hml hown hts vt_X7_of (c_X7_of l Z Am M p1 2 _ hq10) rfl rfl ⟨Nat.le_of_ble_eq_true rfl, Nat.le_of_ble_eq_true rfl⟩ k_m_X7_62 zPro_blind (z_recv (q := (RX7, TX7, 19)) (ci := 7) (q0 := 0) hK (zP_reg hP 0 rfl) rfl rfl) (z_prec hK hP) rfl hl.1 (Nat.le_of_ble_eq_true rfl) (z_d hX7_isCarried_0 40 rfl) ⟨Nat.zero_le _, Nat.zero_le _⟩) hS hP (fun H locs hP hS => ?_)
      refine lv_icmp_ne (tgt := 76) hx hb (z_d hX7_isCarried_0 41 rfl) (by decide) (fun hc69 => ?_) (fun hc69 => ?_)
      · have hF := z_neg hc69 hF
        refine lv_iconst (v := 0) hx hb (z_d hX7_isCarried_0 44 rfl) (by decide) ?_
        have hz9 : narrow .boolean (.int 0) = .int 0 := rfl
        obtain rfl := Option.some.inj hF
        subst hQ
        exact W.zret hx hb hr hz9 (fun t ht hW => zq_ro (hS.F ht)) hS.2.2 (z_d hX7_isCarried_0 45 rfl)
      · have hF := z_pos hc69 hF
        refine lv_iconst (v := 1) hx hb (z_d hX7_isCarried_0 42 rfl) (by decide) ?_
        refine lv_goto (tgt := 77) hx hb (z_d hX7_isCarried_0 43 rfl) (by decide) ?_
        have hz9 : narrow .boolean (.int 1) = .int 1 := rfl
        obtain rfl := Option.some.inj hF
        subst hQ
        exact W.zret hx hb hr hz9 (fun t ht hW => zq_ro (hS.F ht)) hS.2.2 (z_d hX7_isCarried_0 45 rfl)
  refine lv_aload_n hx hb (z_d hX7_isCarried_0 0 rfl) rfl (lv_at hl 0 rfl) ?_
  refine lv_iload_n hx hb (z_d hX7_isCarried_0 1 rfl) rfl (lv_at hl 1 rfl) ?_
  refine lv_iconst (v := 0) hx hb (z_d hX7_isCarried_0 2 rfl) (by decide) ?_
  refine z_bnd hF (fun q1 hq1 hF => ?_)
  refine z_ro_i (z_rV (As := [.int p1, .int 0]) (rest := []) hx hb hml hown hts vt_X7_of (c_X7_of l Z Am M p1 0 _ hq1) rfl rfl ⟨Nat.le_of_ble_eq_true rfl, Nat.le_of_ble_eq_true rfl⟩ k_m_X7_62 zPro_blind (z_recv (q := (RX7, TX7, 19)) (ci := 7) (q0 := 0) hK (zP_reg hP 0 rfl) rfl rfl) (z_prec hK hP) rfl hl.1 (Nat.le_of_ble_eq_true rfl) (z_d hX7_isCarried_0 3 rfl) ⟨Nat.zero_le _, Nat.zero_le _⟩) hS hP (fun H locs hP hS => ?_)
  refine lv_iconst (v := 2) hx hb (z_d hX7_isCarried_0 4 rfl) (by decide) ?_
  refine lv_icmp_ne (tgt := 19) hx hb (z_d hX7_isCarried_0 5 rfl) (by decide) (fun hc7 => ?_) (fun hc7 => ?_)
  · have hF := z_neg hc7 hF
    refine lv_iconst (v := 0) hx hb (z_d hX7_isCarried_0 11 rfl) (by decide) ?_
    have hz9 : narrow .boolean (.int 0) = .int 0 := rfl
    obtain rfl := Option.some.inj hF
    subst hQ
    exact W.zret hx hb hr hz9 (fun t ht hW => zq_ro (hS.F ht)) hS.2.2 (z_d hX7_isCarried_0 12 rfl)
  · have hF := z_pos hc7 hF
    refine lv_aload_n hx hb (z_d hX7_isCarried_0 6 rfl) rfl (lv_at hl 0 rfl) ?_
    refine lv_iload_n hx hb (z_d hX7_isCarried_0 7 rfl) rfl (lv_at hl 1 rfl) ?_
    refine z_bnd hF (fun q2 hq2 hF => ?_)
    refine z_ro_i (z_rV (As := [.int p1]) (rest := []) hx hb hml hown hts vt_X7_sceneOf (c_X7_sceneOf l Z Am M p1 _ hq2) rfl rfl ⟨Nat.le_of_ble_eq_true rfl, Nat.le_of_ble_eq_true rfl⟩ k_m_X7_98 zPro_blind (z_recv (q := (RX7, TX7, 19)) (ci := 7) (q0 := 0) hK (zP_reg hP 0 rfl) rfl rfl) (z_prec hK hP) rfl hl.1 (Nat.le_of_ble_eq_true rfl) (z_d hX7_isCarried_0 8 rfl) ⟨Nat.zero_le _, Nat.zero_le _⟩) hS hP (fun H locs hP hS => ?_)
    refine lv_iconst (v := (-1)) hx hb (z_d hX7_isCarried_0 9 rfl) (by decide) ?_
    refine lv_icmp_ne (tgt := 21) hx hb (z_d hX7_isCarried_0 10 rfl) (by decide) (fun hc16 => ?_) (fun hc16 => ?_)
    · have hF := z_neg hc16 hF
      refine lv_iload_n hx hb (z_d hX7_isCarried_0 13 rfl) rfl (lv_at hl 1 rfl) ?_
      refine lv_iconst (v := 1) hx hb (z_d hX7_isCarried_0 14 rfl) (by decide) ?_
      refine lv_isub hx hb (z_d hX7_isCarried_0 15 rfl) ?_
      refine z_let hF (fun u3 hu3 hF => ?_)
      refine lv_topE hu3 ?_
      refine lv_istore_n (lv' := [(2, .int u3), (0, .ref (Am 0)), (1, .int p1)]) hx hb (z_d hX7_isCarried_0 16 rfl) rfl hl (by decide) rfl (fun ls hl => ?_)
      refine z_bnd hF (fun q7 hq7 hF => ?_)
      refine L25  _ _ _ hq7 _ _ ls hP hS (lv_sub hl [1, 2, 0] rfl) (fun H locs ls hP hS hl => ?_)
      exact J49 q7 hF _ _ ls hP hS (lv_sub hl [0, 1, 2] rfl)
    · have hF := z_pos hc16 hF
      refine lv_iconst (v := 0) hx hb (z_d hX7_isCarried_0 11 rfl) (by decide) ?_
      have hz9 : narrow .boolean (.int 0) = .int 0 := rfl
      obtain rfl := Option.some.inj hF
      subst hQ
      exact W.zret hx hb hr hz9 (fun t ht hW => zq_ro (hS.F ht)) hS.2.2 (z_d hX7_isCarried_0 12 rfl)

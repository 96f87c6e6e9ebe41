theorem vt_X5_isHeading : zVt yX5_isHeading cX5_isHeading 2 (some .boolean) 1 := ⟨zG_at 445 (by decide +kernel) (by decide +kernel), zG_at 446 (by decide +kernel) (by decide +kernel), zG_at 27 (by decide +kernel) (by decide +kernel), zG_at 447 (by decide +kernel) (by decide +kernel), by decide +kernel⟩
theorem vt_X5_isLocked : zVt yX5_isLocked cX5_isLocked 2 (some .boolean) 1 := ⟨zG_at 454 (by decide +kernel) (by decide +kernel), zG_at 455 (by decide +kernel) (by decide +kernel), zG_at 27 (by decide +kernel) (by decide +kernel), zG_at 456 (by decide +kernel) (by decide +kernel), by decide +kernel⟩
theorem vt_X3_plus : zVt yX3_plus cX3_plus 3 none 2 := ⟨zG_at 458 (by decide +kernel) (by decide +kernel), zG_at 459 (by decide +kernel) (by decide +kernel), zG_at 28 (by decide +kernel) (by decide +kernel), zG_at 460 (by decide +kernel) (by decide +kernel), by decide +kernel⟩
theorem vt_X5_linesOf : zVt yX5_linesOf cX5_linesOf 4 (some .int) 1 := ⟨zG_at 462 (by decide +kernel) (by decide +kernel), zG_at 463 (by decide +kernel) (by decide +kernel), zG_at 27 (by decide +kernel) (by decide +kernel), zG_at 464 (by decide +kernel) (by decide +kernel), by decide +kernel⟩
theorem vt_X4_putLabel : zVt yX4_putLabel cX4_putLabel 5 none 4 := ⟨zG_at 484 (by decide +kernel) (by decide +kernel), zG_at 6 (by decide +kernel) (by decide +kernel), zG_at 29 (by decide +kernel) (by decide +kernel), zG_at 485 (by decide +kernel) (by decide +kernel), by decide +kernel⟩
theorem vt_X4_labelOpen : zVt yX4_labelOpen cX4_labelOpen 6 none 5 := ⟨zG_at 488 (by decide +kernel) (by decide +kernel), zG_at 7 (by decide +kernel) (by decide +kernel), zG_at 29 (by decide +kernel) (by decide +kernel), zG_at 489 (by decide +kernel) (by decide +kernel), by decide +kernel⟩
theorem vt_X4_gather : zVt yX4_gather cX4_gather 4 none 1 := ⟨zG_at 442 (by decide +kernel) (by decide +kernel), zG_at 2 (by decide +kernel) (by decide +kernel), zG_at 29 (by decide +kernel) (by decide +kernel), zG_at 443 (by decide +kernel) (by decide +kernel), by decide +kernel⟩
theorem vt_X4_findCarriedNames : zVt yX4_findCarriedNames cX4_findCarriedNames 6 none 1 := ⟨zG_at 471 (by decide +kernel) (by decide +kernel), zG_at 3 (by decide +kernel) (by decide +kernel), zG_at 29 (by decide +kernel) (by decide +kernel), zG_at 472 (by decide +kernel) (by decide +kernel), by decide +kernel⟩
theorem vt_X4_findLimits : zVt yX4_findLimits cX4_findLimits 5 none 1 := ⟨zG_at 476 (by decide +kernel) (by decide +kernel), zG_at 4 (by decide +kernel) (by decide +kernel), zG_at 29 (by decide +kernel) (by decide +kernel), zG_at 477 (by decide +kernel) (by decide +kernel), by decide +kernel⟩
theorem vt_X4_label : zVt yX4_label cX4_label 8 none 1 := ⟨zG_at 480 (by decide +kernel) (by decide +kernel), zG_at 5 (by decide +kernel) (by decide +kernel), zG_at 29 (by decide +kernel) (by decide +kernel), zG_at 481 (by decide +kernel) (by decide +kernel), by decide +kernel⟩
theorem vt_X4_areTwins : zVt yX4_areTwins cX4_areTwins 3 (some .boolean) 2 := ⟨zG_at 496 (by decide +kernel) (by decide +kernel), zG_at 8 (by decide +kernel) (by decide +kernel), zG_at 29 (by decide +kernel) (by decide +kernel), zG_at 497 (by decide +kernel) (by decide +kernel), by decide +kernel⟩
theorem k_f_X4_9 : Cond.fieldLink RX4 9 "ScriptPages$Scenes" "count" "I" ∈ zG := zG_at 118 (by decide +kernel) (by decide +kernel)
theorem k_f_X4_15 : Cond.fieldLink RX4 15 "ScriptPages$Scenes" "lockedCount" "I" ∈ zG := zG_at 120 (by decide +kernel) (by decide +kernel)
theorem k_m_X4_76 : Cond.methodLink RX4 76 yX5_isHeading ∈ zG := zG_at 444 (by decide +kernel) (by decide +kernel)
theorem k_m_X4_84 : Cond.methodLink RX4 84 yX5_isLocked ∈ zG := zG_at 453 (by decide +kernel) (by decide +kernel)
theorem k_f_X4_48 : Cond.fieldLink RX4 48 "ScriptPages$Scenes" "homes" "LScriptPages$Row;" ∈ zG := zG_at 137 (by decide +kernel) (by decide +kernel)
theorem k_m_X4_80 : Cond.methodLink RX4 80 yX3_put ∈ zG := zG_at 452 (by decide +kernel) (by decide +kernel)
theorem k_f_X4_30 : Cond.fieldLink RX4 30 "ScriptPages$Scenes" "sizes" "LScriptPages$Row;" ∈ zG := zG_at 126 (by decide +kernel) (by decide +kernel)
theorem k_m_X4_87 : Cond.methodLink RX4 87 yX3_plus ∈ zG := zG_at 457 (by decide +kernel) (by decide +kernel)
theorem k_f_X4_33 : Cond.fieldLink RX4 33 "ScriptPages$Scenes" "sums" "LScriptPages$Row;" ∈ zG := zG_at 128 (by decide +kernel) (by decide +kernel)
theorem k_m_X4_90 : Cond.methodLink RX4 90 yX5_linesOf ∈ zG := zG_at 461 (by decide +kernel) (by decide +kernel)
theorem k_f_X4_26 : Cond.fieldLink RX4 26 "ScriptPages$Scenes" "headings" "LScriptPages$Row;" ∈ zG := zG_at 124 (by decide +kernel) (by decide +kernel)
theorem k_f_X4_18 : Cond.fieldLink RX4 18 "ScriptPages$Scenes" "carriedCount" "I" ∈ zG := zG_at 122 (by decide +kernel) (by decide +kernel)
theorem k_m_X4_97 : Cond.methodLink RX4 97 yX3_at ∈ zG := zG_at 473 (by decide +kernel) (by decide +kernel)
theorem k_f_X4_51 : Cond.fieldLink RX4 51 "ScriptPages$Scenes" "carries" "LScriptPages$Row;" ∈ zG := zG_at 139 (by decide +kernel) (by decide +kernel)
theorem k_f_X4_45 : Cond.fieldLink RX4 45 "ScriptPages$Scenes" "limits" "LScriptPages$Row;" ∈ zG := zG_at 136 (by decide +kernel) (by decide +kernel)
theorem k_f_X4_36 : Cond.fieldLink RX4 36 "ScriptPages$Scenes" "firsts" "LScriptPages$Row;" ∈ zG := zG_at 130 (by decide +kernel) (by decide +kernel)
theorem k_f_X4_39 : Cond.fieldLink RX4 39 "ScriptPages$Scenes" "seconds" "LScriptPages$Row;" ∈ zG := zG_at 132 (by decide +kernel) (by decide +kernel)
theorem k_f_X4_42 : Cond.fieldLink RX4 42 "ScriptPages$Scenes" "thirds" "LScriptPages$Row;" ∈ zG := zG_at 134 (by decide +kernel) (by decide +kernel)
theorem k_m_X4_103 : Cond.methodLink RX4 103 yX4_putLabel ∈ zG := zG_at 482 (by decide +kernel) (by decide +kernel)
theorem k_m_X4_107 : Cond.methodLink RX4 107 yX4_labelOpen ∈ zG := zG_at 486 (by decide +kernel) (by decide +kernel)
theorem k_m_X4_58 : Cond.methodLink RX4 58 yX4_gather ∈ zG := zG_at 440 (by decide +kernel) (by decide +kernel)
theorem k_m_X4_62 : Cond.methodLink RX4 62 yX4_findCarriedNames ∈ zG := zG_at 469 (by decide +kernel) (by decide +kernel)
theorem k_m_X4_65 : Cond.methodLink RX4 65 yX4_findLimits ∈ zG := zG_at 474 (by decide +kernel) (by decide +kernel)
theorem k_m_X4_68 : Cond.methodLink RX4 68 yX4_label ∈ zG := zG_at 478 (by decide +kernel) (by decide +kernel)
theorem k_m_X4_111 : Cond.methodLink RX4 111 yX4_areTwins ∈ zG := zG_at 494 (by decide +kernel) (by decide +kernel)
theorem kn_X4_54 {U : State} (h : zNW U) : va_Nw (.methodLinkNest RX4 54 yX6_isBelow "ScriptPages") U := h.mth 5 (by decide +kernel)
theorem kn_X4_71 {U : State} (h : zNW U) {args : Array Value} : (Cond.fieldLinkNest RX4 71 "ScriptPages$Script" "size" "I" "ScriptPages").before args U = true := h.fld 2 (by decide +kernel)
theorem kn_X4_94 {U : State} (h : zNW U) {args : Array Value} : (Cond.fieldLinkNest RX4 94 "ScriptPages$Script" "persons" "LScriptPages$Row;" "ScriptPages").before args U = true := h.fld 8 (by decide +kernel)
theorem kn_X4_100 {U : State} (h : zNW U) {args : Array Value} : (Cond.fieldLinkNest RX4 100 "ScriptPages$Script" "firsts" "LScriptPages$Row;" "ScriptPages").before args U = true := h.fld 12 (by decide +kernel)
theorem kn_X4_101 {U : State} (h : zNW U) {args : Array Value} : (Cond.fieldLinkNest RX4 101 "ScriptPages$Script" "seconds" "LScriptPages$Row;" "ScriptPages").before args U = true := h.fld 13 (by decide +kernel)
theorem kn_X4_102 {U : State} (h : zNW U) {args : Array Value} : (Cond.fieldLinkNest RX4 102 "ScriptPages$Script" "thirds" "LScriptPages$Row;" "ScriptPages").before args U = true := h.fld 14 (by decide +kernel)
def rm_X4_has : Room := { frames := 1, cells := 0, slots := 0, locals := 21 }
set_option maxRecDepth 100000 in
set_option maxHeartbeats 4000000 in
theorem c_X4_has (l : Launch) (Z : zZ) (Ac : Nat → Nat) (C : t_Scenes) (p1 : Int32) (R : Int32) (hF : X4_has C p1 = R) : zRO l yX4_has (zw yX4_has cX4_has 2 (some .boolean)) rm_X4_has Z [.ref (Ac 0), .int p1] (w_Scenes Z.2.1 Ac C) (some (.int R)) := by
  refine zRO_of (by decide) (Nat.le_of_ble_eq_true rfl) (fun p e s m below meth c hx hb hr hml hown hts hlocks hK Q hQ ls hl hP hS => ?_)
  unfold X4_has at hF
  have hl : lv_has ls 2 [(0, .ref (Ac 0)), (1, .int p1)] := hl
  have hown : s.vm.findClass RX4 = some m.cls := hown
  have hP : va_P Z.1 vwCl (l_Scenes Z.2.1 Ac C.1 C.2.1 C.2.2.1 C.2.2.2.1 C.2.2.2.2.1 C.2.2.2.2.2.1 C.2.2.2.2.2.2.1 C.2.2.2.2.2.2.2.1 C.2.2.2.2.2.2.2.2.1 C.2.2.2.2.2.2.2.2.2.1 C.2.2.2.2.2.2.2.2.2.2.1 C.2.2.2.2.2.2.2.2.2.2.2).flatten s.heap := hP
  refine lv_iload_n hx hb (z_d hX4_has_0 0 rfl) rfl (lv_at hl 1 rfl) ?_
  refine lv_aload_n hx hb (z_d hX4_has_0 1 rfl) rfl (lv_at hl 0 rfl) ?_
  refine va_get (D := Z.1) (ci := 4) (v := .int C.1) (C := RX4) (T := TX4) (N := 12) hx hb hts zinX4 hown hK.1 (zP_reg hP 0 rfl) 0 rfl rfl 0 (by decide) (hts _ k_f_X4_9) (fun _ h9 => h9) rfl (z_d hX4_has_0 2 rfl) ?_
  refine z_let hF (fun q1 hq1 hF => ?_)
  refine z_ro_i (z_rSN (As := [.int p1, .int C.1]) (rest := []) hx hb hml hown hts vs_X6_isBelow (c_X6_isBelow l Z p1 C.1 _ hq1) rfl rfl ⟨Nat.le_of_ble_eq_true rfl, Nat.le_of_ble_eq_true rfl⟩ (kn_X4_54 hK.2) zPro_blind (z_prec hK zP_nil) rfl hl.1 (Nat.le_of_ble_eq_true rfl) (z_d hX4_has_0 3 rfl) ⟨Nat.zero_le _, Nat.zero_le _⟩) hS hP (fun H locs hP hS => ?_)
  have hz9 := z_bool (hq1 ▸ X6_isBelow_b p1 C.1)
  obtain rfl := hF
  subst hQ
  exact W.zret hx hb hr hz9 (fun t ht hW => zq_ro (hS.F ht)) hS.2.2 (z_d hX4_has_0 4 rfl)
def rm_X4_gather : Room := { frames := 3, cells := 0, slots := 0, locals := 65 }
set_option maxRecDepth 100000 in
set_option maxHeartbeats 4000000 in
theorem c_X4_gather (l : Launch) (Z : zZ) (Ac : Nat → Nat) (As : Nat → Nat) (C : t_Scenes) (S : t_Script) (R : t_Scenes) (hF : X4_gather C S = some R) : zMU l yX4_gather (zw yX4_gather cX4_gather 4 none) rm_X4_gather Z [.ref (Ac 0), .ref (As 0)] (List.flatten [w_Scenes Z.2.1 Ac C, w_Script Z.2.1 As S]) (List.flatten [w_Scenes Z.2.1 Ac R, w_Script Z.2.1 As S]) none := by
  refine zMU_of (by decide) (Nat.le_of_ble_eq_true rfl) (fun p e s m below meth c hx hb hr hml hown hts hlocks hK A hA Q hQ ls hl hP hD hS => ?_)
  unfold X4_gather at hF
  have hl : lv_has ls 4 [(0, .ref (Ac 0)), (1, .ref (As 0))] := hl
  have hown : s.vm.findClass RX4 = some m.cls := hown
  have hP : va_P Z.1 vwCl (l_Scenes Z.2.1 Ac C.1 C.2.1 C.2.2.1 C.2.2.2.1 C.2.2.2.2.1 C.2.2.2.2.2.1 C.2.2.2.2.2.2.1 C.2.2.2.2.2.2.2.1 C.2.2.2.2.2.2.2.2.1 C.2.2.2.2.2.2.2.2.2.1 C.2.2.2.2.2.2.2.2.2.2.1 C.2.2.2.2.2.2.2.2.2.2.2 ++ [w_Script Z.2.1 As S]).flatten s.heap := zfr hP
  have hD : va_D A (l_Scenes Z.2.1 Ac C.1 C.2.1 C.2.2.1 C.2.2.2.1 C.2.2.2.2.1 C.2.2.2.2.2.1 C.2.2.2.2.2.2.1 C.2.2.2.2.2.2.2.1 C.2.2.2.2.2.2.2.2.1 C.2.2.2.2.2.2.2.2.2.1 C.2.2.2.2.2.2.2.2.2.2.1 C.2.2.2.2.2.2.2.2.2.2.2 ++ [w_Script Z.2.1 As S]).flatten := zfrD hD
  have L12 : ∀  (n : Nat) (v : t_Scenes × Int32) (X : t_Scenes) (hF : zloop (b_X4_gather_12 S ) n v = some X) (H : Heap) (locs : List Loc) (ls : Array Slot) (hP : va_P Z.1 vwCl (l_Scenes Z.2.1 Ac v.1.1 v.1.2.1 v.1.2.2.1 v.1.2.2.2.1 v.1.2.2.2.2.1 v.1.2.2.2.2.2.1 v.1.2.2.2.2.2.2.1 v.1.2.2.2.2.2.2.2.1 v.1.2.2.2.2.2.2.2.2.1 v.1.2.2.2.2.2.2.2.2.2.1 v.1.2.2.2.2.2.2.2.2.2.2.1 v.1.2.2.2.2.2.2.2.2.2.2.2 ++ [w_Script Z.2.1 As S]).flatten H) (hD : va_D A (l_Scenes Z.2.1 Ac v.1.1 v.1.2.1 v.1.2.2.1 v.1.2.2.2.1 v.1.2.2.2.2.1 v.1.2.2.2.2.2.1 v.1.2.2.2.2.2.2.1 v.1.2.2.2.2.2.2.2.1 v.1.2.2.2.2.2.2.2.2.1 v.1.2.2.2.2.2.2.2.2.2.1 v.1.2.2.2.2.2.2.2.2.2.2.1 v.1.2.2.2.2.2.2.2.2.2.2.2 ++ [w_Script Z.2.1 As S]).flatten) (hS : va_S A s.heap H locs) (hl : lv_has ls 4 [(0, .ref (Ac 0)), (1, .ref (As 0)), (2, .int v.2)]) (K1 : ∀ (H : Heap) (locs : List Loc) (ls : Array Slot) (hP : va_P Z.1 vwCl (l_Scenes Z.2.1 Ac X.1 X.2.1 X.2.2.1 X.2.2.2.1 X.2.2.2.2.1 X.2.2.2.2.2.1 X.2.2.2.2.2.2.1 X.2.2.2.2.2.2.2.1 X.2.2.2.2.2.2.2.2.1 X.2.2.2.2.2.2.2.2.2.1 X.2.2.2.2.2.2.2.2.2.2.1 X.2.2.2.2.2.2.2.2.2.2.2 ++ [w_Script Z.2.1 As S]).flatten H) (hD : va_D A (l_Scenes Z.2.1 Ac X.1 X.2.1 X.2.2.1 X.2.2.2.1 X.2.2.2.2.1 X.2.2.2.2.2.1 X.2.2.2.2.2.2.1 X.2.2.2.2.2.2.2.1 X.2.2.2.2.2.2.2.2.1 X.2.2.2.2.2.2.2.2.2.1 X.2.2.2.2.2.2.2.2.2.2.1 X.2.2.2.2.2.2.2.2.2.2.2 ++ [w_Script Z.2.1 As S]).flatten) (hS : va_S A s.heap H locs) (hl : lv_has ls 4 [(0, .ref (Ac 0)), (1, .ref (As 0))]), W p l e rm_X4_gather s m ([.ref (Ac 0), .ref (As 0)] : List Value).toArray below meth c H locs 0 0 Q (F0 m 147 ls [])), W p l e rm_X4_gather s m ([.ref (Ac 0), .ref (As 0)] : List Value).toArray below meth c H locs 0 0 Q (F0 m 12 ls []) := by
    skip
    refine z_loopE (fun rec ih v X hF H locs ls hP hD hS hl K1 => ?_)
    unfold b_X4_gather_12 at hF
    have J109 : ∀ (C : t_Scenes) (x2 : Int32) (z0 : Int32) (hF : j_X4_gather_109 S rec C x2 z0 = some X) (H : Heap) (locs : List Loc) (ls : Array Slot) (hP : va_P Z.1 vwCl (l_Scenes Z.2.1 Ac C.1 C.2.1 C.2.2.1 C.2.2.2.1 C.2.2.2.2.1 C.2.2.2.2.2.1 C.2.2.2.2.2.2.1 C.2.2.2.2.2.2.2.1 C.2.2.2.2.2.2.2.2.1 C.2.2.2.2.2.2.2.2.2.1 C.2.2.2.2.2.2.2.2.2.2.1 C.2.2.2.2.2.2.2.2.2.2.2 ++ [w_Script Z.2.1 As S]).flatten H) (hD : va_D A (l_Scenes Z.2.1 Ac C.1 C.2.1 C.2.2.1 C.2.2.2.1 C.2.2.2.2.1 C.2.2.2.2.2.1 C.2.2.2.2.2.2.1 C.2.2.2.2.2.2.2.1 C.2.2.2.2.2.2.2.2.1 C.2.2.2.2.2.2.2.2.2.1 C.2.2.2.2.2.2.2.2.2.2.1 C.2.2.2.2.2.2.2.2.2.2.2 ++ [w_Script Z.2.1 As S]).flatten) (hS : va_S A s.heap H locs) (hl : lv_has ls 4 [(0, .ref (Ac 0)), (1, .ref (As 0)), (2, .int x2)]), W p l e rm_X4_gather s m ([.ref (Ac 0), .ref (As 0)] : List Value).toArray below meth c H locs 0 0 Q (F0 m 109 ls [.int z0]) := by
      intro C x2 z0 hF H locs ls hP hD hS hl
      unfold j_X4_gather_109 at hF
      refine lv_istore_n (lv' := [(3, .int z0), (0, .ref (Ac 0)), (1, .ref (As 0)), (2, .int x2)]) hx hb (z_d hX4_gather_0 59 rfl) rfl hl (by decide) rfl (fun ls hl => ?_)
      refine lv_aload_n hx hb (z_d hX4_gather_1 0 rfl) rfl (lv_at hl 1 rfl) ?_
      refine va_get (D := Z.1) (ci := 4) (v := .ref (Ac 15)) (C := RX4) (T := TX4) (N := 12) hx hb hts zinX4 hown hK.1 (zP_reg hP 0 rfl) 0 rfl rfl 10 (by decide) (hts _ k_f_X4_48) (fun _ h9 => h9) rfl (z_d hX4_gather_1 1 rfl) ?_
      refine lv_iload_n hx hb (z_d hX4_gather_1 2 rfl) rfl (lv_at hl 3 rfl) ?_
      refine lv_iload_n hx hb (z_d hX4_gather_1 3 rfl) rfl (lv_at hl 0 rfl) ?_
      refine z_let hF (fun q3 hq3 hF => ?_)
      refine z_mu1 (L := l_Scenes Z.2.1 Ac C.1 C.2.1 C.2.2.1 C.2.2.2.1 C.2.2.2.2.1 C.2.2.2.2.2.1 C.2.2.2.2.2.2.1 C.2.2.2.2.2.2.2.1 C.2.2.2.2.2.2.2.2.1 C.2.2.2.2.2.2.2.2.2.1 C.2.2.2.2.2.2.2.2.2.2.1 C.2.2.2.2.2.2.2.2.2.2.2 ++ [w_Script Z.2.1 As S]) (L' := l_Scenes Z.2.1 Ac C.1 C.2.1 C.2.2.1 C.2.2.2.1 C.2.2.2.2.1 C.2.2.2.2.2.1 C.2.2.2.2.2.2.1 C.2.2.2.2.2.2.2.1 C.2.2.2.2.2.2.2.2.1 C.2.2.2.2.2.2.2.2.2.1 q3 C.2.2.2.2.2.2.2.2.2.2.2 ++ [w_Script Z.2.1 As S]) (z_rV (As := [.int x2, .int z0]) (rest := []) hx hb hml hown hts vt_X3_put (c_rPut l Z 60 (Ac 15) (Ac 16) (by decide) C.2.2.2.2.2.2.2.2.2.2.1 x2 z0 _ hq3) rfl rfl ⟨Nat.le_of_ble_eq_true rfl, Nat.le_of_ble_eq_true rfl⟩ k_m_X4_80 zPmu_blind (z_recv (q := (RX3, TX3, 1)) (ci := 3) (q0 := 0) hK (zP_reg hP 8 rfl) rfl rfl) (z_prem hK (zP_reg hP 8 rfl) (zD_one hD 8 _ rfl)) rfl hl.1 (Nat.le_of_ble_eq_true rfl) (z_d hX4_gather_1 4 rfl) ⟨Nat.zero_le _, Nat.zero_le _⟩) hS hP hD 8 rfl rfl rfl (fun H locs hP hD hS => ?_)
      refine W.eq (g2 := F0 m 119 ls []) rfl ?_
      refine lv_aload_n hx hb (z_d hX4_gather_1 5 rfl) rfl (lv_at hl 1 rfl) ?_
      refine va_get (D := Z.1) (ci := 4) (v := .ref (Ac 3)) (C := RX4) (T := TX4) (N := 12) hx hb hts zinX4 hown hK.1 (zP_reg hP 0 rfl) 0 rfl rfl 4 (by decide) (hts _ k_f_X4_30) (fun _ h9 => h9) rfl (z_d hX4_gather_1 6 rfl) ?_
      refine lv_iload_n hx hb (z_d hX4_gather_1 7 rfl) rfl (lv_at hl 0 rfl) ?_
      refine lv_iconst (v := 1) hx hb (z_d hX4_gather_1 8 rfl) (by decide) ?_
      refine z_let hF (fun q4 hq4 hF => ?_)
      refine z_mu1 (L := l_Scenes Z.2.1 Ac C.1 C.2.1 C.2.2.1 C.2.2.2.1 C.2.2.2.2.1 C.2.2.2.2.2.1 C.2.2.2.2.2.2.1 C.2.2.2.2.2.2.2.1 C.2.2.2.2.2.2.2.2.1 C.2.2.2.2.2.2.2.2.2.1 q3 C.2.2.2.2.2.2.2.2.2.2.2 ++ [w_Script Z.2.1 As S]) (L' := l_Scenes Z.2.1 Ac C.1 C.2.1 C.2.2.1 C.2.2.2.1 q4 C.2.2.2.2.2.1 C.2.2.2.2.2.2.1 C.2.2.2.2.2.2.2.1 C.2.2.2.2.2.2.2.2.1 C.2.2.2.2.2.2.2.2.2.1 q3 C.2.2.2.2.2.2.2.2.2.2.2 ++ [w_Script Z.2.1 As S]) (z_rV (As := [.int z0, .int 1]) (rest := []) hx hb hml hown hts vt_X3_plus (c_rPlus l Z 60 (Ac 3) (Ac 4) (by decide) C.2.2.2.2.1 z0 1 _ hq4) rfl rfl ⟨Nat.le_of_ble_eq_true rfl, Nat.le_of_ble_eq_true rfl⟩ k_m_X4_87 zPmu_blind (z_recv (q := (RX3, TX3, 1)) (ci := 3) (q0 := 0) hK (zP_reg hP 2 rfl) rfl rfl) (z_prem hK (zP_reg hP 2 rfl) (zD_one hD 2 _ rfl)) rfl hl.1 (Nat.le_of_ble_eq_true rfl) (z_d hX4_gather_1 9 rfl) ⟨Nat.zero_le _, Nat.zero_le _⟩) hS hP hD 2 rfl rfl rfl (fun H locs hP hD hS => ?_)
      refine W.eq (g2 := F0 m 128 ls []) rfl ?_
      refine lv_aload_n hx hb (z_d hX4_gather_1 10 rfl) rfl (lv_at hl 1 rfl) ?_
      refine va_get (D := Z.1) (ci := 4) (v := .ref (Ac 5)) (C := RX4) (T := TX4) (N := 12) hx hb hts zinX4 hown hK.1 (zP_reg hP 0 rfl) 0 rfl rfl 5 (by decide) (hts _ k_f_X4_33) (fun _ h9 => h9) rfl (z_d hX4_gather_1 11 rfl) ?_
      refine lv_iload_n hx hb (z_d hX4_gather_1 12 rfl) rfl (lv_at hl 0 rfl) ?_
      refine lv_aload_n hx hb (z_d hX4_gather_1 13 rfl) rfl (lv_at hl 2 rfl) ?_
      refine lv_iload_n hx hb (z_d hX4_gather_1 14 rfl) rfl (lv_at hl 3 rfl) ?_
      refine z_let hF (fun q5 hq5 hF => ?_)
      refine z_ro_i (z_rV (As := [.int x2]) (rest := [.int z0, .ref (Ac 5)]) hx hb hml hown hts vt_X5_linesOf (c_X5_linesOf l Z As S x2 _ hq5) rfl rfl ⟨Nat.le_of_ble_eq_true rfl, Nat.le_of_ble_eq_true rfl⟩ k_m_X4_90 zPro_blind (z_recv (q := (RX5, TX5, 10)) (ci := 5) (q0 := 0) hK (zP_reg (L := l_Script Z.2.1 As S.1 S.2.1 S.2.2.1 S.2.2.2.1 S.2.2.2.2.1 S.2.2.2.2.2.1 S.2.2.2.2.2.2.1 S.2.2.2.2.2.2.2.1 S.2.2.2.2.2.2.2.2.1 S.2.2.2.2.2.2.2.2.2) (zP_reg hP 10 rfl) 0 rfl) rfl rfl) (z_prec hK (zP_reg hP 10 rfl)) rfl hl.1 (Nat.le_of_ble_eq_true rfl) (z_d hX4_gather_1 15 rfl) ⟨Nat.zero_le _, Nat.zero_le _⟩) hS hP (fun H locs hP hS => ?_)
      refine z_let hF (fun q6 hq6 hF => ?_)
      refine z_mu1 (L := l_Scenes Z.2.1 Ac C.1 C.2.1 C.2.2.1 C.2.2.2.1 q4 C.2.2.2.2.2.1 C.2.2.2.2.2.2.1 C.2.2.2.2.2.2.2.1 C.2.2.2.2.2.2.2.2.1 C.2.2.2.2.2.2.2.2.2.1 q3 C.2.2.2.2.2.2.2.2.2.2.2 ++ [w_Script Z.2.1 As S]) (L' := l_Scenes Z.2.1 Ac C.1 C.2.1 C.2.2.1 C.2.2.2.1 q4 q6 C.2.2.2.2.2.2.1 C.2.2.2.2.2.2.2.1 C.2.2.2.2.2.2.2.2.1 C.2.2.2.2.2.2.2.2.2.1 q3 C.2.2.2.2.2.2.2.2.2.2.2 ++ [w_Script Z.2.1 As S]) (z_rV (As := [.int z0, .int q5]) (rest := []) hx hb hml hown hts vt_X3_plus (c_rPlus l Z 60 (Ac 5) (Ac 6) (by decide) C.2.2.2.2.2.1 z0 q5 _ hq6) rfl rfl ⟨Nat.le_of_ble_eq_true rfl, Nat.le_of_ble_eq_true rfl⟩ k_m_X4_87 zPmu_blind (z_recv (q := (RX3, TX3, 1)) (ci := 3) (q0 := 0) hK (zP_reg hP 3 rfl) rfl rfl) (z_prem hK (zP_reg hP 3 rfl) (zD_one hD 3 _ rfl)) rfl hl.1 (Nat.le_of_ble_eq_true rfl) (z_d hX4_gather_1 16 rfl) ⟨Nat.zero_le _, Nat.zero_le _⟩) hS hP hD 3 rfl rfl rfl (fun H locs hP hD hS => ?_)
      refine W.eq (g2 := F0 m 141 ls []) rfl ?_
      refine z_let hF (fun u7 hu7 hF => ?_)
      refine lv_iinc (v := u7) (lv' := [(2, .int u7), (3, .int z0), (0, .ref (Ac 0)), (1, .ref (As 0))]) hx hb (z_d hX4_gather_1 17 rfl) hl (k := 3) rfl (z_inc1 hu7) (by decide) rfl (fun ls hl => ?_)
      refine lv_goto (tgt := 12) hx hb (z_d hX4_gather_1 18 rfl) (by decide) ?_
      exact ih _ _ hF _ _ ls hP hD hS (lv_sub hl [2, 3, 0] rfl) K1
    have J92 : ∀ (C : t_Scenes) (x2 : Int32) (hF : j_X4_gather_92 S rec C x2 = some X) (H : Heap) (locs : List Loc) (ls : Array Slot) (hP : va_P Z.1 vwCl (l_Scenes Z.2.1 Ac C.1 C.2.1 C.2.2.1 C.2.2.2.1 C.2.2.2.2.1 C.2.2.2.2.2.1 C.2.2.2.2.2.2.1 C.2.2.2.2.2.2.2.1 C.2.2.2.2.2.2.2.2.1 C.2.2.2.2.2.2.2.2.2.1 C.2.2.2.2.2.2.2.2.2.2.1 C.2.2.2.2.2.2.2.2.2.2.2 ++ [w_Script Z.2.1 As S]).flatten H) (hD : va_D A (l_Scenes Z.2.1 Ac C.1 C.2.1 C.2.2.1 C.2.2.2.1 C.2.2.2.2.1 C.2.2.2.2.2.1 C.2.2.2.2.2.2.1 C.2.2.2.2.2.2.2.1 C.2.2.2.2.2.2.2.2.1 C.2.2.2.2.2.2.2.2.2.1 C.2.2.2.2.2.2.2.2.2.2.1 C.2.2.2.2.2.2.2.2.2.2.2 ++ [w_Script Z.2.1 As S]).flatten) (hS : va_S A s.heap H locs) (hl : lv_has ls 4 [(0, .ref (Ac 0)), (1, .ref (As 0)), (2, .int x2)]), W p l e rm_X4_gather s m ([.ref (Ac 0), .ref (As 0)] : List Value).toArray below meth c H locs 0 0 Q (F0 m 92 ls []) := by
      intro C x2 hF H locs ls hP hD hS hl
      unfold j_X4_gather_92 at hF
      refine lv_aload_n hx hb (z_d hX4_gather_0 50 rfl) rfl (lv_at hl 0 rfl) ?_
      refine va_get (D := Z.1) (ci := 4) (v := .int C.1) (C := RX4) (T := TX4) (N := 12) hx hb hts zinX4 hown hK.1 (zP_reg hP 0 rfl) 0 rfl rfl 0 (by decide) (hts _ k_f_X4_9) (fun _ h9 => h9) rfl (z_d hX4_gather_0 51 rfl) ?_
      refine lv_if_le (tgt := 108) hx hb (z_d hX4_gather_0 52 rfl) (by decide) (fun hc96 => ?_) (fun hc96 => ?_)
      · have hF := z_pos hc96 hF
        refine lv_iconst (v := (-1)) hx hb (z_d hX4_gather_0 58 rfl) (by decide) ?_
        exact J109 C x2 (-1) hF _ _ ls hP hD hS (lv_sub hl [0, 1, 2] rfl)
      · have hF := z_neg hc96 hF
        refine lv_aload_n hx hb (z_d hX4_gather_0 53 rfl) rfl (lv_at hl 0 rfl) ?_
        refine va_get (D := Z.1) (ci := 4) (v := .int C.1) (C := RX4) (T := TX4) (N := 12) hx hb hts zinX4 hown hK.1 (zP_reg hP 0 rfl) 0 rfl rfl 0 (by decide) (hts _ k_f_X4_9) (fun _ h9 => h9) rfl (z_d hX4_gather_0 54 rfl) ?_
        refine lv_iconst (v := 1) hx hb (z_d hX4_gather_0 55 rfl) (by decide) ?_
        refine lv_isub hx hb (z_d hX4_gather_0 56 rfl) ?_
        refine z_let hF (fun u8 hu8 hF => ?_)
        refine lv_topE hu8 ?_
        refine lv_goto (tgt := 109) hx hb (z_d hX4_gather_0 57 rfl) (by decide) ?_
        exact J109 C x2 u8 hF _ _ ls hP hD hS (lv_sub hl [0, 1, 2] rfl)
    have J74 : ∀ (C : t_Scenes) (x2 : Int32) (hF : j_X4_gather_74 S rec C x2 = some X) (H : Heap) (locs : List Loc) (ls : Array Slot) (hP : va_P Z.1 vwCl (l_Scenes Z.2.1 Ac C.1 C.2.1 C.2.2.1 C.2.2.2.1 C.2.2.2.2.1 C.2.2.2.2.2.1 C.2.2.2.2.2.2.1 C.2.2.2.2.2.2.2.1 C.2.2.2.2.2.2.2.2.1 C.2.2.2.2.2.2.2.2.2.1 C.2.2.2.2.2.2.2.2.2.2.1 C.2.2.2.2.2.2.2.2.2.2.2 ++ [w_Script Z.2.1 As S]).flatten H) (hD : va_D A (l_Scenes Z.2.1 Ac C.1 C.2.1 C.2.2.1 C.2.2.2.1 C.2.2.2.2.1 C.2.2.2.2.2.1 C.2.2.2.2.2.2.1 C.2.2.2.2.2.2.2.1 C.2.2.2.2.2.2.2.2.1 C.2.2.2.2.2.2.2.2.2.1 C.2.2.2.2.2.2.2.2.2.2.1 C.2.2.2.2.2.2.2.2.2.2.2 ++ [w_Script Z.2.1 As S]).flatten) (hS : va_S A s.heap H locs) (hl : lv_has ls 4 [(0, .ref (Ac 0)), (1, .ref (As 0)), (2, .int x2)]), W p l e rm_X4_gather s m ([.ref (Ac 0), .ref (As 0)] : List Value).toArray below meth c H locs 0 0 Q (F0 m 74 ls []) := by
      intro C x2 hF H locs ls hP hD hS hl
      unfold j_X4_gather_74 at hF
      refine lv_aload_n hx hb (z_d hX4_gather_0 40 rfl) rfl (lv_at hl 1 rfl) ?_
      refine lv_iload_n hx hb (z_d hX4_gather_0 41 rfl) rfl (lv_at hl 2 rfl) ?_
      refine z_let hF (fun q2 hq2 hF => ?_)
      refine z_ro_i (z_rV (As := [.int x2]) (rest := []) hx hb hml hown hts vt_X5_isLocked (c_X5_isLocked l Z As S x2 _ hq2) rfl rfl ⟨Nat.le_of_ble_eq_true rfl, Nat.le_of_ble_eq_true rfl⟩ k_m_X4_84 zPro_blind (z_recv (q := (RX5, TX5, 10)) (ci := 5) (q0 := 0) hK (zP_reg (L := l_Script Z.2.1 As S.1 S.2.1 S.2.2.1 S.2.2.2.1 S.2.2.2.2.1 S.2.2.2.2.2.1 S.2.2.2.2.2.2.1 S.2.2.2.2.2.2.2.1 S.2.2.2.2.2.2.2.2.1 S.2.2.2.2.2.2.2.2.2) (zP_reg hP 10 rfl) 0 rfl) rfl rfl) (z_prec hK (zP_reg hP 10 rfl)) rfl hl.1 (Nat.le_of_ble_eq_true rfl) (z_d hX4_gather_0 42 rfl) ⟨Nat.zero_le _, Nat.zero_le _⟩) hS hP (fun H locs hP hS => ?_)
      refine lv_if_eq (tgt := 92) hx hb (z_d hX4_gather_0 43 rfl) (by decide) (fun hc79 => ?_) (fun hc79 => ?_)
      · have hF := z_pos hc79 hF
        exact J92 C x2 hF _ _ ls hP hD hS (lv_sub hl [0, 1, 2] rfl)
      · have hF := z_neg hc79 hF
        refine lv_aload_n hx hb (z_d hX4_gather_0 44 rfl) rfl (lv_at hl 0 rfl) ?_
        refine lv_dup hx hb (z_d hX4_gather_0 45 rfl) rfl ?_
        refine va_get (D := Z.1) (ci := 4) (v := .int C.2.1) (C := RX4) (T := TX4) (N := 12) hx hb hts zinX4 hown hK.1 (zP_reg hP 0 rfl) 0 rfl rfl 1 (by decide) (hts _ k_f_X4_15) (fun _ h9 => h9) rfl (z_d hX4_gather_0 46 rfl) ?_
        refine lv_iconst (v := 1) hx hb (z_d hX4_gather_0 47 rfl) (by decide) ?_
        refine lv_iadd hx hb (z_d hX4_gather_0 48 rfl) ?_
        refine z_let hF (fun u9 hu9 hF => ?_)
        refine lv_topE hu9 ?_
        refine z_put (Z := Z) (ci := 4) (v := .int u9) (ty := .int) (L := l_Scenes Z.2.1 Ac C.1 C.2.1 C.2.2.1 C.2.2.2.1 C.2.2.2.2.1 C.2.2.2.2.2.1 C.2.2.2.2.2.2.1 C.2.2.2.2.2.2.2.1 C.2.2.2.2.2.2.2.2.1 C.2.2.2.2.2.2.2.2.2.1 C.2.2.2.2.2.2.2.2.2.2.1 C.2.2.2.2.2.2.2.2.2.2.2 ++ [w_Script Z.2.1 As S]) (L' := l_Scenes Z.2.1 Ac C.1 u9 C.2.2.1 C.2.2.2.1 C.2.2.2.2.1 C.2.2.2.2.2.1 C.2.2.2.2.2.2.1 C.2.2.2.2.2.2.2.1 C.2.2.2.2.2.2.2.2.1 C.2.2.2.2.2.2.2.2.2.1 C.2.2.2.2.2.2.2.2.2.2.1 C.2.2.2.2.2.2.2.2.2.2.2 ++ [w_Script Z.2.1 As S]) (C := RX4) (T := TX4) (N := 12) hx hb hts zinX4 tyX4 tyX4_ok nmX4 hown hK hP hD hS 0 rfl rfl 1 (by decide) (hts _ k_f_X4_15) (fun _ h9 => h9) rfl (tyX4_ok 1 (by decide)) rfl rfl (Nat.le_of_ble_eq_true rfl) rfl (z_d hX4_gather_0 49 rfl) (fun H locs hP hD hS => ?_)
        exact J92 (C.1, u9, C.2.2.1, C.2.2.2.1, C.2.2.2.2.1, C.2.2.2.2.2.1, C.2.2.2.2.2.2.1, C.2.2.2.2.2.2.2.1, C.2.2.2.2.2.2.2.2.1, C.2.2.2.2.2.2.2.2.2.1, C.2.2.2.2.2.2.2.2.2.2.1, C.2.2.2.2.2.2.2.2.2.2.2) x2 hF _ _ ls hP hD hS (lv_sub hl [0, 1, 2] rfl)
    refine lv_iload_n hx hb (z_d hX4_gather_0 8 rfl) rfl (lv_at hl 2 rfl) ?_
    refine lv_aload_n hx hb (z_d hX4_gather_0 9 rfl) rfl (lv_at hl 1 rfl) ?_
    refine va_getN (D := Z.1) (ci := 5) (v := .int S.1) (C := RX5) (T := TX5) (N := 10) hx hb hts zinX5 hown hK.1 (zP_reg (L := l_Script Z.2.1 As S.1 S.2.1 S.2.2.1 S.2.2.2.1 S.2.2.2.2.1 S.2.2.2.2.2.1 S.2.2.2.2.2.2.1 S.2.2.2.2.2.2.2.1 S.2.2.2.2.2.2.2.2.1 S.2.2.2.2.2.2.2.2.2) (zP_reg hP 10 rfl) 0 rfl) 0 rfl rfl 0 (by decide) (kn_X4_71 hK.2) (fun _ h9 => h9) rfl (z_d hX4_gather_0 10 rfl) ?_
    refine lv_icmp_ge (tgt := 147) hx hb (z_d hX4_gather_0 11 rfl) (by decide) (fun hc17 => ?_) (fun hc17 => ?_)
    · have hF := z_pos hc17 hF
      obtain rfl := Option.some.inj hF
      exact K1 _ _ ls hP hD hS (lv_sub hl [0, 1] rfl)
    · have hF := z_neg hc17 hF
      refine lv_aload_n hx hb (z_d hX4_gather_0 12 rfl) rfl (lv_at hl 1 rfl) ?_
      refine lv_iload_n hx hb (z_d hX4_gather_0 13 rfl) rfl (lv_at hl 2 rfl) ?_
      refine z_let hF (fun q1 hq1 hF => ?_)
      refine z_ro_i (z_rV (As := [.int v.2]) (rest := []) hx hb hml hown hts vt_X5_isHeading (c_X5_isHeading l Z As S v.2 _ hq1) rfl rfl ⟨Nat.le_of_ble_eq_true rfl, Nat.le_of_ble_eq_true rfl⟩ k_m_X4_76 zPro_blind (z_recv (q := (RX5, TX5, 10)) (ci := 5) (q0 := 0) hK (zP_reg (L := l_Script Z.2.1 As S.1 S.2.1 S.2.2.1 S.2.2.2.1 S.2.2.2.2.1 S.2.2.2.2.2.1 S.2.2.2.2.2.2.1 S.2.2.2.2.2.2.2.1 S.2.2.2.2.2.2.2.2.1 S.2.2.2.2.2.2.2.2.2) (zP_reg hP 10 rfl) 0 rfl) rfl rfl) (z_prec hK (zP_reg hP 10 rfl)) rfl hl.1 (Nat.le_of_ble_eq_true rfl) (z_d hX4_gather_0 14 rfl) ⟨Nat.zero_le _, Nat.zero_le _⟩) hS hP (fun H locs hP hS => ?_)
      refine lv_if_eq (tgt := 74) hx hb (z_d hX4_gather_0 15 rfl) (by decide) (fun hc25 => ?_) (fun hc25 => ?_)
      · have hF := z_pos hc25 hF
        exact J74 v.1 v.2 hF _ _ ls hP hD hS (lv_sub hl [0, 1, 2] rfl)
      · have hF := z_neg hc25 hF
        refine lv_aload_n hx hb (z_d hX4_gather_0 16 rfl) rfl (lv_at hl 0 rfl) ?_
        refine va_get (D := Z.1) (ci := 4) (v := .ref (Ac 1)) (C := RX4) (T := TX4) (N := 12) hx hb hts zinX4 hown hK.1 (zP_reg hP 0 rfl) 0 rfl rfl 3 (by decide) (hts _ k_f_X4_26) (fun _ h9 => h9) rfl (z_d hX4_gather_0 17 rfl) ?_
        refine lv_aload_n hx hb (z_d hX4_gather_0 18 rfl) rfl (lv_at hl 0 rfl) ?_
        refine va_get (D := Z.1) (ci := 4) (v := .int v.1.1) (C := RX4) (T := TX4) (N := 12) hx hb hts zinX4 hown hK.1 (zP_reg hP 0 rfl) 0 rfl rfl 0 (by decide) (hts _ k_f_X4_9) (fun _ h9 => h9) rfl (z_d hX4_gather_0 19 rfl) ?_
        refine lv_iload_n hx hb (z_d hX4_gather_0 20 rfl) rfl (lv_at hl 2 rfl) ?_
        refine z_let hF (fun q10 hq10 hF => ?_)
        refine z_mu1 (L := l_Scenes Z.2.1 Ac v.1.1 v.1.2.1 v.1.2.2.1 v.1.2.2.2.1 v.1.2.2.2.2.1 v.1.2.2.2.2.2.1 v.1.2.2.2.2.2.2.1 v.1.2.2.2.2.2.2.2.1 v.1.2.2.2.2.2.2.2.2.1 v.1.2.2.2.2.2.2.2.2.2.1 v.1.2.2.2.2.2.2.2.2.2.2.1 v.1.2.2.2.2.2.2.2.2.2.2.2 ++ [w_Script Z.2.1 As S]) (L' := l_Scenes Z.2.1 Ac v.1.1 v.1.2.1 v.1.2.2.1 q10 v.1.2.2.2.2.1 v.1.2.2.2.2.2.1 v.1.2.2.2.2.2.2.1 v.1.2.2.2.2.2.2.2.1 v.1.2.2.2.2.2.2.2.2.1 v.1.2.2.2.2.2.2.2.2.2.1 v.1.2.2.2.2.2.2.2.2.2.2.1 v.1.2.2.2.2.2.2.2.2.2.2.2 ++ [w_Script Z.2.1 As S]) (z_rV (As := [.int v.1.1, .int v.2]) (rest := []) hx hb hml hown hts vt_X3_put (c_rPut l Z 60 (Ac 1) (Ac 2) (by decide) v.1.2.2.2.1 v.1.1 v.2 _ hq10) rfl rfl ⟨Nat.le_of_ble_eq_true rfl, Nat.le_of_ble_eq_true rfl⟩ k_m_X4_80 zPmu_blind (z_recv (q := (RX3, TX3, 1)) (ci := 3) (q0 := 0) hK (zP_reg hP 1 rfl) rfl rfl) (z_prem hK (zP_reg hP 1 rfl) (zD_one hD 1 _ rfl)) rfl hl.1 (Nat.le_of_ble_eq_true rfl) (z_d hX4_gather_0 21 rfl) ⟨Nat.zero_le _, Nat.zero_le _⟩) hS hP hD 1 rfl rfl rfl (fun H locs hP hD hS => ?_)
        refine W.eq (g2 := F0 m 40 ls []) rfl ?_
        refine lv_aload_n hx hb (z_d hX4_gather_0 22 rfl) rfl (lv_at hl 0 rfl) ?_
        refine va_get (D := Z.1) (ci := 4) (v := .ref (Ac 3)) (C := RX4) (T := TX4) (N := 12) hx hb hts zinX4 hown hK.1 (zP_reg hP 0 rfl) 0 rfl rfl 4 (by decide) (hts _ k_f_X4_30) (fun _ h9 => h9) rfl (z_d hX4_gather_0 23 rfl) ?_
        refine lv_aload_n hx hb (z_d hX4_gather_0 24 rfl) rfl (lv_at hl 0 rfl) ?_
        refine va_get (D := Z.1) (ci := 4) (v := .int v.1.1) (C := RX4) (T := TX4) (N := 12) hx hb hts zinX4 hown hK.1 (zP_reg hP 0 rfl) 0 rfl rfl 0 (by decide) (hts _ k_f_X4_9) (fun _ h9 => h9) rfl (z_d hX4_gather_0 25 rfl) ?_
        refine lv_iconst (v := 0) hx hb (z_d hX4_gather_0 26 rfl) (by decide) ?_
        refine z_let hF (fun q11 hq11 hF => ?_)
        refine z_mu1 (L := l_Scenes Z.2.1 Ac v.1.1 v.1.2.1 v.1.2.2.1 q10 v.1.2.2.2.2.1 v.1.2.2.2.2.2.1 v.1.2.2.2.2.2.2.1 v.1.2.2.2.2.2.2.2.1 v.1.2.2.2.2.2.2.2.2.1 v.1.2.2.2.2.2.2.2.2.2.1 v.1.2.2.2.2.2.2.2.2.2.2.1 v.1.2.2.2.2.2.2.2.2.2.2.2 ++ [w_Script Z.2.1 As S]) (L' := l_Scenes Z.2.1 Ac v.1.1 v.1.2.1 v.1.2.2.1 q10 q11 v.1.2.2.2.2.2.1 v.1.2.2.2.2.2.2.1 v.1.2.2.2.2.2.2.2.1 v.1.2.2.2.2.2.2.2.2.1 v.1.2.2.2.2.2.2.2.2.2.1 v.1.2.2.2.2.2.2.2.2.2.2.1 v.1.2.2.2.2.2.2.2.2.2.2.2 ++ [w_Script Z.2.1 As S]) (z_rV (As := [.int v.1.1, .int 0]) (rest := []) hx hb hml hown hts vt_X3_put (c_rPut l Z 60 (Ac 3) (Ac 4) (by decide) v.1.2.2.2.2.1 v.1.1 0 _ hq11) rfl rfl ⟨Nat.le_of_ble_eq_true rfl, Nat.le_of_ble_eq_true rfl⟩ k_m_X4_80 zPmu_blind (z_recv (q := (RX3, TX3, 1)) (ci := 3) (q0 := 0) hK (zP_reg hP 2 rfl) rfl rfl) (z_prem hK (zP_reg hP 2 rfl) (zD_one hD 2 _ rfl)) rfl hl.1 (Nat.le_of_ble_eq_true rfl) (z_d hX4_gather_0 27 rfl) ⟨Nat.zero_le _, Nat.zero_le _⟩) hS hP hD 2 rfl rfl rfl (fun H locs hP hD hS => ?_)
        refine W.eq (g2 := F0 m 52 ls []) rfl ?_
        refine lv_aload_n hx hb (z_d hX4_gather_0 28 rfl) rfl (lv_at hl 0 rfl) ?_
        refine va_get (D := Z.1) (ci := 4) (v := .ref (Ac 5)) (C := RX4) (T := TX4) (N := 12) hx hb hts zinX4 hown hK.1 (zP_reg hP 0 rfl) 0 rfl rfl 5 (by decide) (hts _ k_f_X4_33) (fun _ h9 => h9) rfl (z_d hX4_gather_0 29 rfl) ?_
        refine lv_aload_n hx hb (z_d hX4_gather_0 30 rfl) rfl (lv_at hl 0 rfl) ?_
        refine va_get (D := Z.1) (ci := 4) (v := .int v.1.1) (C := RX4) (T := TX4) (N := 12) hx hb hts zinX4 hown hK.1 (zP_reg hP 0 rfl) 0 rfl rfl 0 (by decide) (hts _ k_f_X4_9) (fun _ h9 => h9) rfl (z_d hX4_gather_0 31 rfl) ?_
        refine lv_iconst (v := 0) hx hb (z_d hX4_gather_0 32 rfl) (by decide) ?_
        refine z_let hF (fun q12 hq12 hF => ?_)
        refine z_mu1 (L := l_Scenes Z.2.1 Ac v.1.1 v.1.2.1 v.1.2.2.1 q10 q11 v.1.2.2.2.2.2.1 v.1.2.2.2.2.2.2.1 v.1.2.2.2.2.2.2.2.1 v.1.2.2.2.2.2.2.2.2.1 v.1.2.2.2.2.2.2.2.2.2.1 v.1.2.2.2.2.2.2.2.2.2.2.1 v.1.2.2.2.2.2.2.2.2.2.2.2 ++ [w_Script Z.2.1 As S]) (L' := l_Scenes Z.2.1 Ac v.1.1 v.1.2.1 v.1.2.2.1 q10 q11 q12 v.1.2.2.2.2.2.2.1 v.1.2.2.2.2.2.2.2.1 v.1.2.2.2.2.2.2.2.2.1 v.1.2.2.2.2.2.2.2.2.2.1 v.1.2.2.2.2.2.2.2.2.2.2.1 v.1.2.2.2.2.2.2.2.2.2.2.2 ++ [w_Script Z.2.1 As S]) (z_rV (As := [.int v.1.1, .int 0]) (rest := []) hx hb hml hown hts vt_X3_put (c_rPut l Z 60 (Ac 5) (Ac 6) (by decide) v.1.2.2.2.2.2.1 v.1.1 0 _ hq12) rfl rfl ⟨Nat.le_of_ble_eq_true rfl, Nat.le_of_ble_eq_true rfl⟩ k_m_X4_80 zPmu_blind (z_recv (q := (RX3, TX3, 1)) (ci := 3) (q0 := 0) hK (zP_reg hP 3 rfl) rfl rfl) (z_prem hK (zP_reg hP 3 rfl) (zD_one hD 3 _ rfl)) rfl hl.1 (Nat.le_of_ble_eq_true rfl) (z_d hX4_gather_0 33 rfl) ⟨Nat.zero_le _, Nat.zero_le _⟩) hS hP hD 3 rfl rfl rfl (fun H locs hP hD hS => ?_)
        refine W.eq (g2 := F0 m 64 ls []) rfl ?_
        refine lv_aload_n hx hb (z_d hX4_gather_0 34 rfl) rfl (lv_at hl 0 rfl) ?_
        refine lv_dup hx hb (z_d hX4_gather_0 35 rfl) rfl ?_
        refine va_get (D := Z.1) (ci := 4) (v := .int v.1.1) (C := RX4) (T := TX4) (N := 12) hx hb hts zinX4 hown hK.1 (zP_reg hP 0 rfl) 0 rfl rfl 0 (by decide) (hts _ k_f_X4_9) (fun _ h9 => h9) rfl (z_d hX4_gather_0 36 rfl) ?_
        refine lv_iconst (v := 1) hx hb (z_d hX4_gather_0 37 rfl) (by decide) ?_
        refine lv_iadd hx hb (z_d hX4_gather_0 38 rfl) ?_
        refine z_let hF (fun u13 hu13 hF => ?_)
        refine lv_topE hu13 ?_
        refine z_put (Z := Z) (ci := 4) (v := .int u13) (ty := .int) (L := l_Scenes Z.2.1 Ac v.1.1 v.1.2.1 v.1.2.2.1 q10 q11 q12 v.1.2.2.2.2.2.2.1 v.1.2.2.2.2.2.2.2.1 v.1.2.2.2.2.2.2.2.2.1 v.1.2.2.2.2.2.2.2.2.2.1 v.1.2.2.2.2.2.2.2.2.2.2.1 v.1.2.2.2.2.2.2.2.2.2.2.2 ++ [w_Script Z.2.1 As S]) (L' := l_Scenes Z.2.1 Ac u13 v.1.2.1 v.1.2.2.1 q10 q11 q12 v.1.2.2.2.2.2.2.1 v.1.2.2.2.2.2.2.2.1 v.1.2.2.2.2.2.2.2.2.1 v.1.2.2.2.2.2.2.2.2.2.1 v.1.2.2.2.2.2.2.2.2.2.2.1 v.1.2.2.2.2.2.2.2.2.2.2.2 ++ [w_Script Z.2.1 As S]) (C := RX4) (T := TX4) (N := 12) hx hb hts zinX4 tyX4 tyX4_ok nmX4 hown hK hP hD hS 0 rfl rfl 0 (by decide) (hts _ k_f_X4_9) (fun _ h9 => h9) rfl (tyX4_ok 0 (by decide)) rfl rfl (Nat.le_of_ble_eq_true rfl) rfl (z_d hX4_gather_0 39 rfl) (fun H locs hP hD hS => ?_)
        exact J74 (u13, v.1.2.1, v.1.2.2.1, q10, q11, q12, v.1.2.2.2.2.2.2.1, v.1.2.2.2.2.2.2.2.1, v.1.2.2.2.2.2.2.2.2.1, v.1.2.2.2.2.2.2.2.2.2.1, v.1.2.2.2.2.2.2.2.2.2.2.1, v.1.2.2.2.2.2.2.2.2.2.2.2) v.2 hF _ _ ls hP hD hS (lv_sub hl [0, 1, 2] rfl)
  refine lv_aload_n hx hb (z_d hX4_gather_0 0 rfl) rfl (lv_at hl 0 rfl) ?_
  refine lv_iconst (v := 0) hx hb (z_d hX4_gather_0 1 rfl) (by decide) ?_
  refine z_put (Z := Z) (ci := 4) (v := .int 0) (ty := .int) (L := l_Scenes Z.2.1 Ac C.1 C.2.1 C.2.2.1 C.2.2.2.1 C.2.2.2.2.1 C.2.2.2.2.2.1 C.2.2.2.2.2.2.1 C.2.2.2.2.2.2.2.1 C.2.2.2.2.2.2.2.2.1 C.2.2.2.2.2.2.2.2.2.1 C.2.2.2.2.2.2.2.2.2.2.1 C.2.2.2.2.2.2.2.2.2.2.2 ++ [w_Script Z.2.1 As S]) (L' := l_Scenes Z.2.1 Ac 0 C.2.1 C.2.2.1 C.2.2.2.1 C.2.2.2.2.1 C.2.2.2.2.2.1 C.2.2.2.2.2.2.1 C.2.2.2.2.2.2.2.1 C.2.2.2.2.2.2.2.2.1 C.2.2.2.2.2.2.2.2.2.1 C.2.2.2.2.2.2.2.2.2.2.1 C.2.2.2.2.2.2.2.2.2.2.2 ++ [w_Script Z.2.1 As S]) (C := RX4) (T := TX4) (N := 12) hx hb hts zinX4 tyX4 tyX4_ok nmX4 hown hK hP hD hS 0 rfl rfl 0 (by decide) (hts _ k_f_X4_9) (fun _ h9 => h9) rfl (tyX4_ok 0 (by decide)) rfl rfl (Nat.le_of_ble_eq_true rfl) rfl (z_d hX4_gather_0 2 rfl) (fun H locs hP hD hS => ?_)
  refine lv_aload_n hx hb (z_d hX4_gather_0 3 rfl) rfl (lv_at hl 0 rfl) ?_
  refine lv_iconst (v := 0) hx hb (z_d hX4_gather_0 4 rfl) (by decide) ?_
  refine z_put (Z := Z) (ci := 4) (v := .int 0) (ty := .int) (L := l_Scenes Z.2.1 Ac 0 C.2.1 C.2.2.1 C.2.2.2.1 C.2.2.2.2.1 C.2.2.2.2.2.1 C.2.2.2.2.2.2.1 C.2.2.2.2.2.2.2.1 C.2.2.2.2.2.2.2.2.1 C.2.2.2.2.2.2.2.2.2.1 C.2.2.2.2.2.2.2.2.2.2.1 C.2.2.2.2.2.2.2.2.2.2.2 ++ [w_Script Z.2.1 As S]) (L' := l_Scenes Z.2.1 Ac 0 0 C.2.2.1 C.2.2.2.1 C.2.2.2.2.1 C.2.2.2.2.2.1 C.2.2.2.2.2.2.1 C.2.2.2.2.2.2.2.1 C.2.2.2.2.2.2.2.2.1 C.2.2.2.2.2.2.2.2.2.1 C.2.2.2.2.2.2.2.2.2.2.1 C.2.2.2.2.2.2.2.2.2.2.2 ++ [w_Script Z.2.1 As S]) (C := RX4) (T := TX4) (N := 12) hx hb hts zinX4 tyX4 tyX4_ok nmX4 hown hK hP hD hS 0 rfl rfl 1 (by decide) (hts _ k_f_X4_15) (fun _ h9 => h9) rfl (tyX4_ok 1 (by decide)) rfl rfl (Nat.le_of_ble_eq_true rfl) rfl (z_d hX4_gather_0 5 rfl) (fun H locs hP hD hS => ?_)
  refine lv_iconst (v := 0) hx hb (z_d hX4_gather_0 6 rfl) (by decide) ?_
  refine lv_istore_n (lv' := [(2, .int 0), (0, .ref (Ac 0)), (1, .ref (As 0))]) hx hb (z_d hX4_gather_0 7 rfl) rfl hl (by decide) rfl (fun ls hl => ?_)
  refine z_bnd hF (fun q14 hq14 hF => ?_)
  refine L12  _ _ _ hq14 _ _ ls hP hD hS (lv_sub hl [1, 2, 0] rfl) (fun H locs ls hP hD hS hl => ?_)
  obtain rfl := Option.some.inj hF
  subst hQ
  subst hA
  exact W.vret hx hb hr (fun t ht hW => zq_mu (by rw [ht]; exact zfl hP) (hS.F ht)) hS.2.2 (z_d hX4_gather_1 19 rfl)
def rm_X4_findCarriedNames : Room := { frames := 2, cells := 0, slots := 0, locals := 42 }
set_option maxRecDepth 100000 in
set_option maxHeartbeats 4000000 in
theorem c_X4_findCarriedNames (l : Launch) (Z : zZ) (Ac : Nat → Nat) (As : Nat → Nat) (C : t_Scenes) (S : t_Script) (R : t_Scenes) (hF : X4_findCarriedNames C S = some R) : zMU l yX4_findCarriedNames (zw yX4_findCarriedNames cX4_findCarriedNames 6 none) rm_X4_findCarriedNames Z [.ref (Ac 0), .ref (As 0)] (List.flatten [w_Scenes Z.2.1 Ac C, w_Script Z.2.1 As S]) (List.flatten [w_Scenes Z.2.1 Ac R, w_Script Z.2.1 As S]) none := by
  refine zMU_of (by decide) (Nat.le_of_ble_eq_true rfl) (fun p e s m below meth c hx hb hr hml hown hts hlocks hK A hA Q hQ ls hl hP hD hS => ?_)
  unfold X4_findCarriedNames at hF
  have hl : lv_has ls 6 [(0, .ref (Ac 0)), (1, .ref (As 0))] := hl
  have hown : s.vm.findClass RX4 = some m.cls := hown
  have hP : va_P Z.1 vwCl (l_Scenes Z.2.1 Ac C.1 C.2.1 C.2.2.1 C.2.2.2.1 C.2.2.2.2.1 C.2.2.2.2.2.1 C.2.2.2.2.2.2.1 C.2.2.2.2.2.2.2.1 C.2.2.2.2.2.2.2.2.1 C.2.2.2.2.2.2.2.2.2.1 C.2.2.2.2.2.2.2.2.2.2.1 C.2.2.2.2.2.2.2.2.2.2.2 ++ [w_Script Z.2.1 As S]).flatten s.heap := zfr hP
  have hD : va_D A (l_Scenes Z.2.1 Ac C.1 C.2.1 C.2.2.1 C.2.2.2.1 C.2.2.2.2.1 C.2.2.2.2.2.1 C.2.2.2.2.2.2.1 C.2.2.2.2.2.2.2.1 C.2.2.2.2.2.2.2.2.1 C.2.2.2.2.2.2.2.2.2.1 C.2.2.2.2.2.2.2.2.2.2.1 C.2.2.2.2.2.2.2.2.2.2.2 ++ [w_Script Z.2.1 As S]).flatten := zfrD hD
  have L9 : ∀  (n : Nat) (v : t_Scenes × Int32 × Int32) (X : t_Scenes) (hF : zloop (b_X4_findCarriedNames_9 S ) n v = some X) (H : Heap) (locs : List Loc) (ls : Array Slot) (hP : va_P Z.1 vwCl (l_Scenes Z.2.1 Ac v.1.1 v.1.2.1 v.1.2.2.1 v.1.2.2.2.1 v.1.2.2.2.2.1 v.1.2.2.2.2.2.1 v.1.2.2.2.2.2.2.1 v.1.2.2.2.2.2.2.2.1 v.1.2.2.2.2.2.2.2.2.1 v.1.2.2.2.2.2.2.2.2.2.1 v.1.2.2.2.2.2.2.2.2.2.2.1 v.1.2.2.2.2.2.2.2.2.2.2.2 ++ [w_Script Z.2.1 As S]).flatten H) (hD : va_D A (l_Scenes Z.2.1 Ac v.1.1 v.1.2.1 v.1.2.2.1 v.1.2.2.2.1 v.1.2.2.2.2.1 v.1.2.2.2.2.2.1 v.1.2.2.2.2.2.2.1 v.1.2.2.2.2.2.2.2.1 v.1.2.2.2.2.2.2.2.2.1 v.1.2.2.2.2.2.2.2.2.2.1 v.1.2.2.2.2.2.2.2.2.2.2.1 v.1.2.2.2.2.2.2.2.2.2.2.2 ++ [w_Script Z.2.1 As S]).flatten) (hS : va_S A s.heap H locs) (hl : lv_has ls 6 [(0, .ref (Ac 0)), (1, .ref (As 0)), (2, .int v.2.1), (3, .int v.2.2)]) (K1 : ∀ (H : Heap) (locs : List Loc) (ls : Array Slot) (hP : va_P Z.1 vwCl (l_Scenes Z.2.1 Ac X.1 X.2.1 X.2.2.1 X.2.2.2.1 X.2.2.2.2.1 X.2.2.2.2.2.1 X.2.2.2.2.2.2.1 X.2.2.2.2.2.2.2.1 X.2.2.2.2.2.2.2.2.1 X.2.2.2.2.2.2.2.2.2.1 X.2.2.2.2.2.2.2.2.2.2.1 X.2.2.2.2.2.2.2.2.2.2.2 ++ [w_Script Z.2.1 As S]).flatten H) (hD : va_D A (l_Scenes Z.2.1 Ac X.1 X.2.1 X.2.2.1 X.2.2.2.1 X.2.2.2.2.1 X.2.2.2.2.2.1 X.2.2.2.2.2.2.1 X.2.2.2.2.2.2.2.1 X.2.2.2.2.2.2.2.2.1 X.2.2.2.2.2.2.2.2.2.1 X.2.2.2.2.2.2.2.2.2.2.1 X.2.2.2.2.2.2.2.2.2.2.2 ++ [w_Script Z.2.1 As S]).flatten) (hS : va_S A s.heap H locs) (hl : lv_has ls 6 [(0, .ref (Ac 0)), (1, .ref (As 0))]), W p l e rm_X4_findCarriedNames s m ([.ref (Ac 0), .ref (As 0)] : List Value).toArray below meth c H locs 0 0 Q (F0 m 119 ls [])), W p l e rm_X4_findCarriedNames s m ([.ref (Ac 0), .ref (As 0)] : List Value).toArray below meth c H locs 0 0 Q (F0 m 9 ls []) := by
    skip
    refine z_loopE (fun rec ih v X hF H locs ls hP hD hS hl K1 => ?_)
    unfold b_X4_findCarriedNames_9 at hF
    have J91 : ∀ (C : t_Scenes) (x2 : Int32) (x3 : Int32) (x4 : Int32) (hF : j_X4_findCarriedNames_91 S rec C x2 x3 x4 = some X) (H : Heap) (locs : List Loc) (ls : Array Slot) (hP : va_P Z.1 vwCl (l_Scenes Z.2.1 Ac C.1 C.2.1 C.2.2.1 C.2.2.2.1 C.2.2.2.2.1 C.2.2.2.2.2.1 C.2.2.2.2.2.2.1 C.2.2.2.2.2.2.2.1 C.2.2.2.2.2.2.2.2.1 C.2.2.2.2.2.2.2.2.2.1 C.2.2.2.2.2.2.2.2.2.2.1 C.2.2.2.2.2.2.2.2.2.2.2 ++ [w_Script Z.2.1 As S]).flatten H) (hD : va_D A (l_Scenes Z.2.1 Ac C.1 C.2.1 C.2.2.1 C.2.2.2.1 C.2.2.2.2.1 C.2.2.2.2.2.1 C.2.2.2.2.2.2.1 C.2.2.2.2.2.2.2.1 C.2.2.2.2.2.2.2.2.1 C.2.2.2.2.2.2.2.2.2.1 C.2.2.2.2.2.2.2.2.2.2.1 C.2.2.2.2.2.2.2.2.2.2.2 ++ [w_Script Z.2.1 As S]).flatten) (hS : va_S A s.heap H locs) (hl : lv_has ls 6 [(0, .ref (Ac 0)), (1, .ref (As 0)), (2, .int x2), (3, .int x3), (4, .int x4)]), W p l e rm_X4_findCarriedNames s m ([.ref (Ac 0), .ref (As 0)] : List Value).toArray below meth c H locs 0 0 Q (F0 m 91 ls []) := by
      intro C x2 x3 x4 hF H locs ls hP hD hS hl
      unfold j_X4_findCarriedNames_91 at hF
      refine lv_aload_n hx hb (z_d hX4_findCarriedNames_0 49 rfl) rfl (lv_at hl 1 rfl) ?_
      refine lv_iload_n hx hb (z_d hX4_findCarriedNames_0 50 rfl) rfl (lv_at hl 3 rfl) ?_
      refine z_let hF (fun q3 hq3 hF => ?_)
      refine z_ro_i (z_rV (As := [.int x3]) (rest := []) hx hb hml hown hts vt_X5_isHeading (c_X5_isHeading l Z As S x3 _ hq3) rfl rfl ⟨Nat.le_of_ble_eq_true rfl, Nat.le_of_ble_eq_true rfl⟩ k_m_X4_76 zPro_blind (z_recv (q := (RX5, TX5, 10)) (ci := 5) (q0 := 0) hK (zP_reg (L := l_Script Z.2.1 As S.1 S.2.1 S.2.2.1 S.2.2.2.1 S.2.2.2.2.1 S.2.2.2.2.2.1 S.2.2.2.2.2.2.1 S.2.2.2.2.2.2.2.1 S.2.2.2.2.2.2.2.2.1 S.2.2.2.2.2.2.2.2.2) (zP_reg hP 10 rfl) 0 rfl) rfl rfl) (z_prec hK (zP_reg hP 10 rfl)) rfl hl.1 (Nat.le_of_ble_eq_true rfl) (z_d hX4_findCarriedNames_0 51 rfl) ⟨Nat.zero_le _, Nat.zero_le _⟩) hS hP (fun H locs hP hS => ?_)
      refine lv_if_eq (tgt := 104) hx hb (z_d hX4_findCarriedNames_0 52 rfl) (by decide) (fun hc96 => ?_) (fun hc96 => ?_)
      · have hF := z_pos hc96 hF
        refine lv_iload hx hb (z_d hX4_findCarriedNames_0 56 rfl) (lv_at hl 4 rfl) ?_
        refine lv_iconst (v := (-1)) hx hb (z_d hX4_findCarriedNames_0 57 rfl) (by decide) ?_
        refine lv_icmp_eq (tgt := 113) hx hb (z_d hX4_findCarriedNames_0 58 rfl) (by decide) (fun hc107 => ?_) (fun hc107 => ?_)
        · have hF := z_pos hc107 hF
          refine z_let hF (fun u4 hu4 hF => ?_)
          refine lv_iinc (v := u4) (lv' := [(3, .int u4), (0, .ref (Ac 0)), (1, .ref (As 0)), (2, .int x2), (4, .int x4)]) hx hb (z_d hX4_findCarriedNames_1 1 rfl) hl (k := 3) rfl (z_inc1 hu4) (by decide) rfl (fun ls hl => ?_)
          refine lv_goto (tgt := 9) hx hb (z_d hX4_findCarriedNames_1 2 rfl) (by decide) ?_
          exact ih _ _ hF _ _ ls hP hD hS (lv_sub hl [1, 2, 3, 0] rfl) K1
        · have hF := z_neg hc107 hF
          refine lv_iload hx hb (z_d hX4_findCarriedNames_0 59 rfl) (lv_at hl 4 rfl) ?_
          refine lv_istore_n (lv' := [(2, .int x4), (0, .ref (Ac 0)), (1, .ref (As 0)), (3, .int x3), (4, .int x4)]) hx hb (z_d hX4_findCarriedNames_1 0 rfl) rfl hl (by decide) rfl (fun ls hl => ?_)
          refine z_let hF (fun u5 hu5 hF => ?_)
          refine lv_iinc (v := u5) (lv' := [(3, .int u5), (2, .int x4), (0, .ref (Ac 0)), (1, .ref (As 0)), (4, .int x4)]) hx hb (z_d hX4_findCarriedNames_1 1 rfl) hl (k := 3) rfl (z_inc1 hu5) (by decide) rfl (fun ls hl => ?_)
          refine lv_goto (tgt := 9) hx hb (z_d hX4_findCarriedNames_1 2 rfl) (by decide) ?_
          exact ih _ _ hF _ _ ls hP hD hS (lv_sub hl [2, 3, 1, 0] rfl) K1
      · have hF := z_neg hc96 hF
        refine lv_iconst (v := (-1)) hx hb (z_d hX4_findCarriedNames_0 53 rfl) (by decide) ?_
        refine lv_istore_n (lv' := [(2, .int (-1)), (0, .ref (Ac 0)), (1, .ref (As 0)), (3, .int x3), (4, .int x4)]) hx hb (z_d hX4_findCarriedNames_0 54 rfl) rfl hl (by decide) rfl (fun ls hl => ?_)
        refine lv_goto (tgt := 113) hx hb (z_d hX4_findCarriedNames_0 55 rfl) (by decide) ?_
        refine z_let hF (fun u6 hu6 hF => ?_)
        refine lv_iinc (v := u6) (lv' := [(3, .int u6), (2, .int (-1)), (0, .ref (Ac 0)), (1, .ref (As 0)), (4, .int x4)]) hx hb (z_d hX4_findCarriedNames_1 1 rfl) hl (k := 3) rfl (z_inc1 hu6) (by decide) rfl (fun ls hl => ?_)
        refine lv_goto (tgt := 9) hx hb (z_d hX4_findCarriedNames_1 2 rfl) (by decide) ?_
        exact ih _ _ hF _ _ ls hP hD hS (lv_sub hl [2, 3, 1, 0] rfl) K1
    have J73 : ∀ (C : t_Scenes) (x2 : Int32) (x3 : Int32) (x4 : Int32) (x5 : Int32) (z0 : Int32) (z1 : Int32) (hF : j_X4_findCarriedNames_73 S rec C x2 x3 x4 x5 z0 z1 = some X) (H : Heap) (locs : List Loc) (ls : Array Slot) (hP : va_P Z.1 vwCl (l_Scenes Z.2.1 Ac C.1 C.2.1 C.2.2.1 C.2.2.2.1 C.2.2.2.2.1 C.2.2.2.2.2.1 C.2.2.2.2.2.2.1 C.2.2.2.2.2.2.2.1 C.2.2.2.2.2.2.2.2.1 C.2.2.2.2.2.2.2.2.2.1 C.2.2.2.2.2.2.2.2.2.2.1 C.2.2.2.2.2.2.2.2.2.2.2 ++ [w_Script Z.2.1 As S]).flatten H) (hD : va_D A (l_Scenes Z.2.1 Ac C.1 C.2.1 C.2.2.1 C.2.2.2.1 C.2.2.2.2.1 C.2.2.2.2.2.1 C.2.2.2.2.2.2.1 C.2.2.2.2.2.2.2.1 C.2.2.2.2.2.2.2.2.1 C.2.2.2.2.2.2.2.2.2.1 C.2.2.2.2.2.2.2.2.2.2.1 C.2.2.2.2.2.2.2.2.2.2.2 ++ [w_Script Z.2.1 As S]).flatten) (hS : va_S A s.heap H locs) (hl : lv_has ls 6 [(0, .ref (Ac 0)), (1, .ref (As 0)), (2, .int x2), (3, .int x3), (4, .int x4), (5, .int x5)]), W p l e rm_X4_findCarriedNames s m ([.ref (Ac 0), .ref (As 0)] : List Value).toArray below meth c H locs 0 0 Q (F0 m 73 ls [.int z0, .int z1, .ref (Ac 17)]) := by
      intro C x2 x3 x4 x5 z0 z1 hF H locs ls hP hD hS hl
      unfold j_X4_findCarriedNames_73 at hF
      refine z_let hF (fun q2 hq2 hF => ?_)
      refine z_mu1 (L := l_Scenes Z.2.1 Ac C.1 C.2.1 C.2.2.1 C.2.2.2.1 C.2.2.2.2.1 C.2.2.2.2.2.1 C.2.2.2.2.2.2.1 C.2.2.2.2.2.2.2.1 C.2.2.2.2.2.2.2.2.1 C.2.2.2.2.2.2.2.2.2.1 C.2.2.2.2.2.2.2.2.2.2.1 C.2.2.2.2.2.2.2.2.2.2.2 ++ [w_Script Z.2.1 As S]) (L' := l_Scenes Z.2.1 Ac C.1 C.2.1 C.2.2.1 C.2.2.2.1 C.2.2.2.2.1 C.2.2.2.2.2.1 C.2.2.2.2.2.2.1 C.2.2.2.2.2.2.2.1 C.2.2.2.2.2.2.2.2.1 C.2.2.2.2.2.2.2.2.2.1 C.2.2.2.2.2.2.2.2.2.2.1 q2 ++ [w_Script Z.2.1 As S]) (z_rV (As := [.int z1, .int z0]) (rest := []) hx hb hml hown hts vt_X3_put (c_rPut l Z 60 (Ac 17) (Ac 18) (by decide) C.2.2.2.2.2.2.2.2.2.2.2 z1 z0 _ hq2) rfl rfl ⟨Nat.le_of_ble_eq_true rfl, Nat.le_of_ble_eq_true rfl⟩ k_m_X4_80 zPmu_blind (z_recv (q := (RX3, TX3, 1)) (ci := 3) (q0 := 0) hK (zP_reg hP 9 rfl) rfl rfl) (z_prem hK (zP_reg hP 9 rfl) (zD_one hD 9 _ rfl)) rfl hl.1 (Nat.le_of_ble_eq_true rfl) (z_d hX4_findCarriedNames_0 40 rfl) ⟨Nat.zero_le _, Nat.zero_le _⟩) hS hP hD 9 rfl rfl rfl (fun H locs hP hD hS => ?_)
      refine W.eq (g2 := F0 m 76 ls []) rfl ?_
      refine lv_iload hx hb (z_d hX4_findCarriedNames_0 41 rfl) (lv_at hl 5 rfl) ?_
      refine lv_if_eq (tgt := 91) hx hb (z_d hX4_findCarriedNames_0 42 rfl) (by decide) (fun hc78 => ?_) (fun hc78 => ?_)
      · have hF := z_pos hc78 hF
        exact J91 (C.1, C.2.1, C.2.2.1, C.2.2.2.1, C.2.2.2.2.1, C.2.2.2.2.2.1, C.2.2.2.2.2.2.1, C.2.2.2.2.2.2.2.1, C.2.2.2.2.2.2.2.2.1, C.2.2.2.2.2.2.2.2.2.1, C.2.2.2.2.2.2.2.2.2.2.1, q2) x2 x3 x4 hF _ _ ls hP hD hS (lv_sub hl [0, 1, 2, 3, 4] rfl)
      · have hF := z_neg hc78 hF
        refine lv_aload_n hx hb (z_d hX4_findCarriedNames_0 43 rfl) rfl (lv_at hl 0 rfl) ?_
        refine lv_dup hx hb (z_d hX4_findCarriedNames_0 44 rfl) rfl ?_
        refine va_get (D := Z.1) (ci := 4) (v := .int C.2.2.1) (C := RX4) (T := TX4) (N := 12) hx hb hts zinX4 hown hK.1 (zP_reg hP 0 rfl) 0 rfl rfl 2 (by decide) (hts _ k_f_X4_18) (fun _ h9 => h9) rfl (z_d hX4_findCarriedNames_0 45 rfl) ?_
        refine lv_iconst (v := 1) hx hb (z_d hX4_findCarriedNames_0 46 rfl) (by decide) ?_
        refine lv_iadd hx hb (z_d hX4_findCarriedNames_0 47 rfl) ?_
        refine z_let hF (fun u7 hu7 hF => ?_)
        refine lv_topE hu7 ?_
        refine z_put (Z := Z) (ci := 4) (v := .int u7) (ty := .int) (L := l_Scenes Z.2.1 Ac C.1 C.2.1 C.2.2.1 C.2.2.2.1 C.2.2.2.2.1 C.2.2.2.2.2.1 C.2.2.2.2.2.2.1 C.2.2.2.2.2.2.2.1 C.2.2.2.2.2.2.2.2.1 C.2.2.2.2.2.2.2.2.2.1 C.2.2.2.2.2.2.2.2.2.2.1 q2 ++ [w_Script Z.2.1 As S]) (L' := l_Scenes Z.2.1 Ac C.1 C.2.1 u7 C.2.2.2.1 C.2.2.2.2.1 C.2.2.2.2.2.1 C.2.2.2.2.2.2.1 C.2.2.2.2.2.2.2.1 C.2.2.2.2.2.2.2.2.1 C.2.2.2.2.2.2.2.2.2.1 C.2.2.2.2.2.2.2.2.2.2.1 q2 ++ [w_Script Z.2.1 As S]) (C := RX4) (T := TX4) (N := 12) hx hb hts zinX4 tyX4 tyX4_ok nmX4 hown hK hP hD hS 0 rfl rfl 2 (by decide) (hts _ k_f_X4_18) (fun _ h9 => h9) rfl (tyX4_ok 2 (by decide)) rfl rfl (Nat.le_of_ble_eq_true rfl) rfl (z_d hX4_findCarriedNames_0 48 rfl) (fun H locs hP hD hS => ?_)
        exact J91 (C.1, C.2.1, u7, C.2.2.2.1, C.2.2.2.2.1, C.2.2.2.2.2.1, C.2.2.2.2.2.2.1, C.2.2.2.2.2.2.2.1, C.2.2.2.2.2.2.2.2.1, C.2.2.2.2.2.2.2.2.2.1, C.2.2.2.2.2.2.2.2.2.2.1, q2) x2 x3 x4 hF _ _ ls hP hD hS (lv_sub hl [0, 1, 2, 3, 4] rfl)
    have J56 : ∀ (C : t_Scenes) (x2 : Int32) (x3 : Int32) (x4 : Int32) (z0 : Int32) (hF : j_X4_findCarriedNames_56 S rec C x2 x3 x4 z0 = some X) (H : Heap) (locs : List Loc) (ls : Array Slot) (hP : va_P Z.1 vwCl (l_Scenes Z.2.1 Ac C.1 C.2.1 C.2.2.1 C.2.2.2.1 C.2.2.2.2.1 C.2.2.2.2.2.1 C.2.2.2.2.2.2.1 C.2.2.2.2.2.2.2.1 C.2.2.2.2.2.2.2.2.1 C.2.2.2.2.2.2.2.2.2.1 C.2.2.2.2.2.2.2.2.2.2.1 C.2.2.2.2.2.2.2.2.2.2.2 ++ [w_Script Z.2.1 As S]).flatten H) (hD : va_D A (l_Scenes Z.2.1 Ac C.1 C.2.1 C.2.2.1 C.2.2.2.1 C.2.2.2.2.1 C.2.2.2.2.2.1 C.2.2.2.2.2.2.1 C.2.2.2.2.2.2.2.1 C.2.2.2.2.2.2.2.2.1 C.2.2.2.2.2.2.2.2.2.1 C.2.2.2.2.2.2.2.2.2.2.1 C.2.2.2.2.2.2.2.2.2.2.2 ++ [w_Script Z.2.1 As S]).flatten) (hS : va_S A s.heap H locs) (hl : lv_has ls 6 [(0, .ref (Ac 0)), (1, .ref (As 0)), (2, .int x2), (3, .int x3), (4, .int x4)]), W p l e rm_X4_findCarriedNames s m ([.ref (Ac 0), .ref (As 0)] : List Value).toArray below meth c H locs 0 0 Q (F0 m 56 ls [.int z0]) := by
      intro C x2 x3 x4 z0 hF H locs ls hP hD hS hl
      unfold j_X4_findCarriedNames_56 at hF
      refine lv_istore (lv' := [(5, .int z0), (0, .ref (Ac 0)), (1, .ref (As 0)), (2, .int x2), (3, .int x3), (4, .int x4)]) hx hb (z_d hX4_findCarriedNames_0 31 rfl) hl (by decide) rfl (fun ls hl => ?_)
      refine lv_aload_n hx hb (z_d hX4_findCarriedNames_0 32 rfl) rfl (lv_at hl 1 rfl) ?_
      refine va_get (D := Z.1) (ci := 4) (v := .ref (Ac 17)) (C := RX4) (T := TX4) (N := 12) hx hb hts zinX4 hown hK.1 (zP_reg hP 0 rfl) 0 rfl rfl 11 (by decide) (hts _ k_f_X4_51) (fun _ h9 => h9) rfl (z_d hX4_findCarriedNames_0 33 rfl) ?_
      refine lv_iload_n hx hb (z_d hX4_findCarriedNames_0 34 rfl) rfl (lv_at hl 4 rfl) ?_
      refine lv_iload hx hb (z_d hX4_findCarriedNames_0 35 rfl) (lv_at hl 0 rfl) ?_
      refine lv_if_eq (tgt := 72) hx hb (z_d hX4_findCarriedNames_0 36 rfl) (by decide) (fun hc65 => ?_) (fun hc65 => ?_)
      · have hF := z_pos hc65 hF
        refine lv_iconst (v := 0) hx hb (z_d hX4_findCarriedNames_0 39 rfl) (by decide) ?_
        exact J73 C x2 x3 x4 z0 0 x3 hF _ _ ls hP hD hS (lv_sub hl [1, 2, 3, 4, 5, 0] rfl)
      · have hF := z_neg hc65 hF
        refine lv_iconst (v := 1) hx hb (z_d hX4_findCarriedNames_0 37 rfl) (by decide) ?_
        refine lv_goto (tgt := 73) hx hb (z_d hX4_findCarriedNames_0 38 rfl) (by decide) ?_
        exact J73 C x2 x3 x4 z0 1 x3 hF _ _ ls hP hD hS (lv_sub hl [1, 2, 3, 4, 5, 0] rfl)
    have J55 : ∀ (C : t_Scenes) (x2 : Int32) (x3 : Int32) (x4 : Int32) (hF : j_X4_findCarriedNames_55 S rec C x2 x3 x4 = some X) (H : Heap) (locs : List Loc) (ls : Array Slot) (hP : va_P Z.1 vwCl (l_Scenes Z.2.1 Ac C.1 C.2.1 C.2.2.1 C.2.2.2.1 C.2.2.2.2.1 C.2.2.2.2.2.1 C.2.2.2.2.2.2.1 C.2.2.2.2.2.2.2.1 C.2.2.2.2.2.2.2.2.1 C.2.2.2.2.2.2.2.2.2.1 C.2.2.2.2.2.2.2.2.2.2.1 C.2.2.2.2.2.2.2.2.2.2.2 ++ [w_Script Z.2.1 As S]).flatten H) (hD : va_D A (l_Scenes Z.2.1 Ac C.1 C.2.1 C.2.2.1 C.2.2.2.1 C.2.2.2.2.1 C.2.2.2.2.2.1 C.2.2.2.2.2.2.1 C.2.2.2.2.2.2.2.1 C.2.2.2.2.2.2.2.2.1 C.2.2.2.2.2.2.2.2.2.1 C.2.2.2.2.2.2.2.2.2.2.1 C.2.2.2.2.2.2.2.2.2.2.2 ++ [w_Script Z.2.1 As S]).flatten) (hS : va_S A s.heap H locs) (hl : lv_has ls 6 [(0, .ref (Ac 0)), (1, .ref (As 0)), (2, .int x2), (3, .int x3), (4, .int x4)]), W p l e rm_X4_findCarriedNames s m ([.ref (Ac 0), .ref (As 0)] : List Value).toArray below meth c H locs 0 0 Q (F0 m 55 ls []) := by
      intro C x2 x3 x4 hF H locs ls hP hD hS hl
      unfold j_X4_findCarriedNames_55 at hF
      refine lv_iconst (v := 0) hx hb (z_d hX4_findCarriedNames_0 30 rfl) (by decide) ?_
      exact J56 C x2 x3 x4 0 hF _ _ ls hP hD hS (lv_sub hl [0, 1, 2, 3, 4] rfl)
    refine lv_iload_n hx hb (z_d hX4_findCarriedNames_0 7 rfl) rfl (lv_at hl 3 rfl) ?_
    refine lv_aload_n hx hb (z_d hX4_findCarriedNames_0 8 rfl) rfl (lv_at hl 1 rfl) ?_
    refine va_getN (D := Z.1) (ci := 5) (v := .int S.1) (C := RX5) (T := TX5) (N := 10) hx hb hts zinX5 hown hK.1 (zP_reg (L := l_Script Z.2.1 As S.1 S.2.1 S.2.2.1 S.2.2.2.1 S.2.2.2.2.1 S.2.2.2.2.2.1 S.2.2.2.2.2.2.1 S.2.2.2.2.2.2.2.1 S.2.2.2.2.2.2.2.2.1 S.2.2.2.2.2.2.2.2.2) (zP_reg hP 10 rfl) 0 rfl) 0 rfl rfl 0 (by decide) (kn_X4_71 hK.2) (fun _ h9 => h9) rfl (z_d hX4_findCarriedNames_0 9 rfl) ?_
    refine lv_icmp_ge (tgt := 119) hx hb (z_d hX4_findCarriedNames_0 10 rfl) (by decide) (fun hc14 => ?_) (fun hc14 => ?_)
    · have hF := z_pos hc14 hF
      obtain rfl := Option.some.inj hF
      exact K1 _ _ ls hP hD hS (lv_sub hl [0, 1] rfl)
    · have hF := z_neg hc14 hF
      refine lv_aload_n hx hb (z_d hX4_findCarriedNames_0 11 rfl) rfl (lv_at hl 1 rfl) ?_
      refine va_getN (D := Z.1) (ci := 5) (v := .ref (As 5)) (C := RX5) (T := TX5) (N := 10) hx hb hts zinX5 hown hK.1 (zP_reg (L := l_Script Z.2.1 As S.1 S.2.1 S.2.2.1 S.2.2.2.1 S.2.2.2.2.1 S.2.2.2.2.2.1 S.2.2.2.2.2.2.1 S.2.2.2.2.2.2.2.1 S.2.2.2.2.2.2.2.2.1 S.2.2.2.2.2.2.2.2.2) (zP_reg hP 10 rfl) 0 rfl) 0 rfl rfl 4 (by decide) (kn_X4_94 hK.2) (fun _ h9 => h9) rfl (z_d hX4_findCarriedNames_0 12 rfl) ?_
      refine lv_iload_n hx hb (z_d hX4_findCarriedNames_0 13 rfl) rfl (lv_at hl 3 rfl) ?_
      refine z_let hF (fun q1 hq1 hF => ?_)
      refine z_ro_i (z_rV (As := [.int v.2.2]) (rest := []) hx hb hml hown hts vt_X3_at (c_rAt l Z 60 (As 5) (As 6) (by decide) S.2.2.2.2.1 v.2.2 _ hq1) rfl rfl ⟨Nat.le_of_ble_eq_true rfl, Nat.le_of_ble_eq_true rfl⟩ k_m_X4_97 zPro_blind (z_recv (q := (RX3, TX3, 1)) (ci := 3) (q0 := 0) hK (zP_reg (L := l_Script Z.2.1 As S.1 S.2.1 S.2.2.1 S.2.2.2.1 S.2.2.2.2.1 S.2.2.2.2.2.1 S.2.2.2.2.2.2.1 S.2.2.2.2.2.2.2.1 S.2.2.2.2.2.2.2.2.1 S.2.2.2.2.2.2.2.2.2) (zP_reg hP 10 rfl) 3 rfl) rfl rfl) (z_prec hK (zP_reg (L := l_Script Z.2.1 As S.1 S.2.1 S.2.2.1 S.2.2.2.1 S.2.2.2.2.1 S.2.2.2.2.2.1 S.2.2.2.2.2.2.1 S.2.2.2.2.2.2.2.1 S.2.2.2.2.2.2.2.2.1 S.2.2.2.2.2.2.2.2.2) (zP_reg hP 10 rfl) 3 rfl)) rfl hl.1 (Nat.le_of_ble_eq_true rfl) (z_d hX4_findCarriedNames_0 14 rfl) ⟨Nat.zero_le _, Nat.zero_le _⟩) hS hP (fun H locs hP hS => ?_)
      refine lv_istore (lv' := [(4, .int q1), (0, .ref (Ac 0)), (1, .ref (As 0)), (2, .int v.2.1), (3, .int v.2.2)]) hx hb (z_d hX4_findCarriedNames_0 15 rfl) hl (by decide) rfl (fun ls hl => ?_)
      refine lv_iload hx hb (z_d hX4_findCarriedNames_0 16 rfl) (lv_at hl 0 rfl) ?_
      refine lv_iconst (v := (-1)) hx hb (z_d hX4_findCarriedNames_0 17 rfl) (by decide) ?_
      refine lv_icmp_eq (tgt := 55) hx hb (z_d hX4_findCarriedNames_0 18 rfl) (by decide) (fun hc30 => ?_) (fun hc30 => ?_)
      · have hF := z_pos hc30 hF
        exact J55 v.1 v.2.1 v.2.2 q1 hF _ _ ls hP hD hS (lv_sub hl [1, 2, 3, 4, 0] rfl)
      · have hF := z_neg hc30 hF
        refine lv_iload hx hb (z_d hX4_findCarriedNames_0 19 rfl) (lv_at hl 0 rfl) ?_
        refine lv_iload_n hx hb (z_d hX4_findCarriedNames_0 20 rfl) rfl (lv_at hl 3 rfl) ?_
        refine lv_icmp_ne (tgt := 55) hx hb (z_d hX4_findCarriedNames_0 21 rfl) (by decide) (fun hc36 => ?_) (fun hc36 => ?_)
        · have hF := z_neg hc36 hF
          exact J55 v.1 v.2.1 v.2.2 q1 hF _ _ ls hP hD hS (lv_sub hl [1, 2, 3, 4, 0] rfl)
        · have hF := z_pos hc36 hF
          refine lv_aload_n hx hb (z_d hX4_findCarriedNames_0 22 rfl) rfl (lv_at hl 1 rfl) ?_
          refine va_get (D := Z.1) (ci := 4) (v := .ref (Ac 15)) (C := RX4) (T := TX4) (N := 12) hx hb hts zinX4 hown hK.1 (zP_reg hP 0 rfl) 0 rfl rfl 10 (by decide) (hts _ k_f_X4_48) (fun _ h9 => h9) rfl (z_d hX4_findCarriedNames_0 23 rfl) ?_
          refine lv_iload_n hx hb (z_d hX4_findCarriedNames_0 24 rfl) rfl (lv_at hl 4 rfl) ?_
          refine z_let hF (fun q8 hq8 hF => ?_)
          refine z_ro_i (z_rV (As := [.int v.2.2]) (rest := []) hx hb hml hown hts vt_X3_at (c_rAt l Z 60 (Ac 15) (Ac 16) (by decide) v.1.2.2.2.2.2.2.2.2.2.2.1 v.2.2 _ hq8) rfl rfl ⟨Nat.le_of_ble_eq_true rfl, Nat.le_of_ble_eq_true rfl⟩ k_m_X4_97 zPro_blind (z_recv (q := (RX3, TX3, 1)) (ci := 3) (q0 := 0) hK (zP_reg hP 8 rfl) rfl rfl) (z_prec hK (zP_reg hP 8 rfl)) rfl hl.1 (Nat.le_of_ble_eq_true rfl) (z_d hX4_findCarriedNames_0 25 rfl) ⟨Nat.zero_le _, Nat.zero_le _⟩) hS hP (fun H locs hP hS => ?_)
          refine lv_iconst (v := (-1)) hx hb (z_d hX4_findCarriedNames_0 26 rfl) (by decide) ?_
          refine lv_icmp_eq (tgt := 55) hx hb (z_d hX4_findCarriedNames_0 27 rfl) (by decide) (fun hc48 => ?_) (fun hc48 => ?_)
          · have hF := z_pos hc48 hF
            exact J55 v.1 v.2.1 v.2.2 q1 hF _ _ ls hP hD hS (lv_sub hl [1, 2, 3, 4, 0] rfl)
          · have hF := z_neg hc48 hF
            refine lv_iconst (v := 1) hx hb (z_d hX4_findCarriedNames_0 28 rfl) (by decide) ?_
            refine lv_goto (tgt := 56) hx hb (z_d hX4_findCarriedNames_0 29 rfl) (by decide) ?_
            exact J56 v.1 v.2.1 v.2.2 q1 1 hF _ _ ls hP hD hS (lv_sub hl [1, 2, 3, 4, 0] rfl)
  refine lv_aload_n hx hb (z_d hX4_findCarriedNames_0 0 rfl) rfl (lv_at hl 0 rfl) ?_
  refine lv_iconst (v := 0) hx hb (z_d hX4_findCarriedNames_0 1 rfl) (by decide) ?_
  refine z_put (Z := Z) (ci := 4) (v := .int 0) (ty := .int) (L := l_Scenes Z.2.1 Ac C.1 C.2.1 C.2.2.1 C.2.2.2.1 C.2.2.2.2.1 C.2.2.2.2.2.1 C.2.2.2.2.2.2.1 C.2.2.2.2.2.2.2.1 C.2.2.2.2.2.2.2.2.1 C.2.2.2.2.2.2.2.2.2.1 C.2.2.2.2.2.2.2.2.2.2.1 C.2.2.2.2.2.2.2.2.2.2.2 ++ [w_Script Z.2.1 As S]) (L' := l_Scenes Z.2.1 Ac C.1 C.2.1 0 C.2.2.2.1 C.2.2.2.2.1 C.2.2.2.2.2.1 C.2.2.2.2.2.2.1 C.2.2.2.2.2.2.2.1 C.2.2.2.2.2.2.2.2.1 C.2.2.2.2.2.2.2.2.2.1 C.2.2.2.2.2.2.2.2.2.2.1 C.2.2.2.2.2.2.2.2.2.2.2 ++ [w_Script Z.2.1 As S]) (C := RX4) (T := TX4) (N := 12) hx hb hts zinX4 tyX4 tyX4_ok nmX4 hown hK hP hD hS 0 rfl rfl 2 (by decide) (hts _ k_f_X4_18) (fun _ h9 => h9) rfl (tyX4_ok 2 (by decide)) rfl rfl (Nat.le_of_ble_eq_true rfl) rfl (z_d hX4_findCarriedNames_0 2 rfl) (fun H locs hP hD hS => ?_)
  refine lv_iconst (v := (-1)) hx hb (z_d hX4_findCarriedNames_0 3 rfl) (by decide) ?_
  refine lv_istore_n (lv' := [(2, .int (-1)), (0, .ref (Ac 0)), (1, .ref (As 0))]) hx hb (z_d hX4_findCarriedNames_0 4 rfl) rfl hl (by decide) rfl (fun ls hl => ?_)
  refine lv_iconst (v := 0) hx hb (z_d hX4_findCarriedNames_0 5 rfl) (by decide) ?_
  refine lv_istore_n (lv' := [(3, .int 0), (2, .int (-1)), (0, .ref (Ac 0)), (1, .ref (As 0))]) hx hb (z_d hX4_findCarriedNames_0 6 rfl) rfl hl (by decide) rfl (fun ls hl => ?_)
  refine z_bnd hF (fun q9 hq9 hF => ?_)
  refine L9  _ _ _ hq9 _ _ ls hP hD hS (lv_sub hl [2, 3, 1, 0] rfl) (fun H locs ls hP hD hS hl => ?_)
  obtain rfl := Option.some.inj hF
  subst hQ
  subst hA
  exact W.vret hx hb hr (fun t ht hW => zq_mu (by rw [ht]; exact zfl hP) (hS.F ht)) hS.2.2 (z_d hX4_findCarriedNames_1 3 rfl)
def rm_X4_findLimits : Room := { frames := 2, cells := 0, slots := 0, locals := 42 }
set_option maxRecDepth 100000 in
set_option maxHeartbeats 4000000 in
theorem c_X4_findLimits (l : Launch) (Z : zZ) (Ac : Nat → Nat) (As : Nat → Nat) (C : t_Scenes) (S : t_Script) (R : t_Scenes) (hF : X4_findLimits C S = some R) : zMU l yX4_findLimits (zw yX4_findLimits cX4_findLimits 5 none) rm_X4_findLimits Z [.ref (Ac 0), .ref (As 0)] (List.flatten [w_Scenes Z.2.1 Ac C, w_Script Z.2.1 As S]) (List.flatten [w_Scenes Z.2.1 Ac R, w_Script Z.2.1 As S]) none := by
  refine zMU_of (by decide) (Nat.le_of_ble_eq_true rfl) (fun p e s m below meth c hx hb hr hml hown hts hlocks hK A hA Q hQ ls hl hP hD hS => ?_)
  unfold X4_findLimits at hF
  have hl : lv_has ls 5 [(0, .ref (Ac 0)), (1, .ref (As 0))] := hl
  have hown : s.vm.findClass RX4 = some m.cls := hown
  have hP : va_P Z.1 vwCl (l_Scenes Z.2.1 Ac C.1 C.2.1 C.2.2.1 C.2.2.2.1 C.2.2.2.2.1 C.2.2.2.2.2.1 C.2.2.2.2.2.2.1 C.2.2.2.2.2.2.2.1 C.2.2.2.2.2.2.2.2.1 C.2.2.2.2.2.2.2.2.2.1 C.2.2.2.2.2.2.2.2.2.2.1 C.2.2.2.2.2.2.2.2.2.2.2 ++ [w_Script Z.2.1 As S]).flatten s.heap := zfr hP
  have hD : va_D A (l_Scenes Z.2.1 Ac C.1 C.2.1 C.2.2.1 C.2.2.2.1 C.2.2.2.2.1 C.2.2.2.2.2.1 C.2.2.2.2.2.2.1 C.2.2.2.2.2.2.2.1 C.2.2.2.2.2.2.2.2.1 C.2.2.2.2.2.2.2.2.2.1 C.2.2.2.2.2.2.2.2.2.2.1 C.2.2.2.2.2.2.2.2.2.2.2 ++ [w_Script Z.2.1 As S]).flatten := zfrD hD
  have L9 : ∀  (n : Nat) (v : t_Scenes × Int32 × Int32) (X : t_Scenes) (hF : zloop (b_X4_findLimits_9 S ) n v = some X) (H : Heap) (locs : List Loc) (ls : Array Slot) (hP : va_P Z.1 vwCl (l_Scenes Z.2.1 Ac v.1.1 v.1.2.1 v.1.2.2.1 v.1.2.2.2.1 v.1.2.2.2.2.1 v.1.2.2.2.2.2.1 v.1.2.2.2.2.2.2.1 v.1.2.2.2.2.2.2.2.1 v.1.2.2.2.2.2.2.2.2.1 v.1.2.2.2.2.2.2.2.2.2.1 v.1.2.2.2.2.2.2.2.2.2.2.1 v.1.2.2.2.2.2.2.2.2.2.2.2 ++ [w_Script Z.2.1 As S]).flatten H) (hD : va_D A (l_Scenes Z.2.1 Ac v.1.1 v.1.2.1 v.1.2.2.1 v.1.2.2.2.1 v.1.2.2.2.2.1 v.1.2.2.2.2.2.1 v.1.2.2.2.2.2.2.1 v.1.2.2.2.2.2.2.2.1 v.1.2.2.2.2.2.2.2.2.1 v.1.2.2.2.2.2.2.2.2.2.1 v.1.2.2.2.2.2.2.2.2.2.2.1 v.1.2.2.2.2.2.2.2.2.2.2.2 ++ [w_Script Z.2.1 As S]).flatten) (hS : va_S A s.heap H locs) (hl : lv_has ls 5 [(0, .ref (Ac 0)), (1, .ref (As 0)), (2, .int v.2.1), (3, .int v.2.2)]) (K1 : ∀ (H : Heap) (locs : List Loc) (ls : Array Slot) (hP : va_P Z.1 vwCl (l_Scenes Z.2.1 Ac X.1 X.2.1 X.2.2.1 X.2.2.2.1 X.2.2.2.2.1 X.2.2.2.2.2.1 X.2.2.2.2.2.2.1 X.2.2.2.2.2.2.2.1 X.2.2.2.2.2.2.2.2.1 X.2.2.2.2.2.2.2.2.2.1 X.2.2.2.2.2.2.2.2.2.2.1 X.2.2.2.2.2.2.2.2.2.2.2 ++ [w_Script Z.2.1 As S]).flatten H) (hD : va_D A (l_Scenes Z.2.1 Ac X.1 X.2.1 X.2.2.1 X.2.2.2.1 X.2.2.2.2.1 X.2.2.2.2.2.1 X.2.2.2.2.2.2.1 X.2.2.2.2.2.2.2.1 X.2.2.2.2.2.2.2.2.1 X.2.2.2.2.2.2.2.2.2.1 X.2.2.2.2.2.2.2.2.2.2.1 X.2.2.2.2.2.2.2.2.2.2.2 ++ [w_Script Z.2.1 As S]).flatten) (hS : va_S A s.heap H locs) (hl : lv_has ls 5 [(0, .ref (Ac 0)), (1, .ref (As 0))]), W p l e rm_X4_findLimits s m ([.ref (Ac 0), .ref (As 0)] : List Value).toArray below meth c H locs 0 0 Q (F0 m 57 ls [])), W p l e rm_X4_findLimits s m ([.ref (Ac 0), .ref (As 0)] : List Value).toArray below meth c H locs 0 0 Q (F0 m 9 ls []) := by
    skip
    refine z_loopE (fun rec ih v X hF H locs ls hP hD hS hl K1 => ?_)
    unfold b_X4_findLimits_9 at hF
    refine lv_iload_n hx hb (z_d hX4_findLimits_0 7 rfl) rfl (lv_at hl 3 rfl) ?_
    refine lv_if_lt (tgt := 57) hx hb (z_d hX4_findLimits_0 8 rfl) (by decide) (fun hc10 => ?_) (fun hc10 => ?_)
    · have hF := z_pos hc10 hF
      obtain rfl := Option.some.inj hF
      exact K1 _ _ ls hP hD hS (lv_sub hl [0, 1] rfl)
    · have hF := z_neg hc10 hF
      refine lv_aload_n hx hb (z_d hX4_findLimits_0 9 rfl) rfl (lv_at hl 0 rfl) ?_
      refine va_get (D := Z.1) (ci := 4) (v := .ref (Ac 13)) (C := RX4) (T := TX4) (N := 12) hx hb hts zinX4 hown hK.1 (zP_reg hP 0 rfl) 0 rfl rfl 9 (by decide) (hts _ k_f_X4_45) (fun _ h9 => h9) rfl (z_d hX4_findLimits_0 10 rfl) ?_
      refine lv_iload_n hx hb (z_d hX4_findLimits_0 11 rfl) rfl (lv_at hl 3 rfl) ?_
      refine lv_iload_n hx hb (z_d hX4_findLimits_0 12 rfl) rfl (lv_at hl 2 rfl) ?_
      refine z_let hF (fun q2 hq2 hF => ?_)
      refine z_mu1 (L := l_Scenes Z.2.1 Ac v.1.1 v.1.2.1 v.1.2.2.1 v.1.2.2.2.1 v.1.2.2.2.2.1 v.1.2.2.2.2.2.1 v.1.2.2.2.2.2.2.1 v.1.2.2.2.2.2.2.2.1 v.1.2.2.2.2.2.2.2.2.1 v.1.2.2.2.2.2.2.2.2.2.1 v.1.2.2.2.2.2.2.2.2.2.2.1 v.1.2.2.2.2.2.2.2.2.2.2.2 ++ [w_Script Z.2.1 As S]) (L' := l_Scenes Z.2.1 Ac v.1.1 v.1.2.1 v.1.2.2.1 v.1.2.2.2.1 v.1.2.2.2.2.1 v.1.2.2.2.2.2.1 v.1.2.2.2.2.2.2.1 v.1.2.2.2.2.2.2.2.1 v.1.2.2.2.2.2.2.2.2.1 q2 v.1.2.2.2.2.2.2.2.2.2.2.1 v.1.2.2.2.2.2.2.2.2.2.2.2 ++ [w_Script Z.2.1 As S]) (z_rV (As := [.int v.2.2, .int v.2.1]) (rest := []) hx hb hml hown hts vt_X3_put (c_rPut l Z 60 (Ac 13) (Ac 14) (by decide) v.1.2.2.2.2.2.2.2.2.2.1 v.2.2 v.2.1 _ hq2) rfl rfl ⟨Nat.le_of_ble_eq_true rfl, Nat.le_of_ble_eq_true rfl⟩ k_m_X4_80 zPmu_blind (z_recv (q := (RX3, TX3, 1)) (ci := 3) (q0 := 0) hK (zP_reg hP 7 rfl) rfl rfl) (z_prem hK (zP_reg hP 7 rfl) (zD_one hD 7 _ rfl)) rfl hl.1 (Nat.le_of_ble_eq_true rfl) (z_d hX4_findLimits_0 13 rfl) ⟨Nat.zero_le _, Nat.zero_le _⟩) hS hP hD 7 rfl rfl rfl (fun H locs hP hD hS => ?_)
      refine W.eq (g2 := F0 m 22 ls []) rfl ?_
      refine lv_aload_n hx hb (z_d hX4_findLimits_0 14 rfl) rfl (lv_at hl 0 rfl) ?_
      refine va_get (D := Z.1) (ci := 4) (v := .ref (Ac 1)) (C := RX4) (T := TX4) (N := 12) hx hb hts zinX4 hown hK.1 (zP_reg hP 0 rfl) 0 rfl rfl 3 (by decide) (hts _ k_f_X4_26) (fun _ h9 => h9) rfl (z_d hX4_findLimits_0 15 rfl) ?_
      refine lv_iload_n hx hb (z_d hX4_findLimits_0 16 rfl) rfl (lv_at hl 3 rfl) ?_
      refine z_let hF (fun q3 hq3 hF => ?_)
      refine z_ro_i (z_rV (As := [.int v.2.2]) (rest := []) hx hb hml hown hts vt_X3_at (c_rAt l Z 60 (Ac 1) (Ac 2) (by decide) v.1.2.2.2.1 v.2.2 _ hq3) rfl rfl ⟨Nat.le_of_ble_eq_true rfl, Nat.le_of_ble_eq_true rfl⟩ k_m_X4_97 zPro_blind (z_recv (q := (RX3, TX3, 1)) (ci := 3) (q0 := 0) hK (zP_reg hP 1 rfl) rfl rfl) (z_prec hK (zP_reg hP 1 rfl)) rfl hl.1 (Nat.le_of_ble_eq_true rfl) (z_d hX4_findLimits_0 17 rfl) ⟨Nat.zero_le _, Nat.zero_le _⟩) hS hP (fun H locs hP hS => ?_)
      refine lv_istore (lv' := [(4, .int q3), (0, .ref (Ac 0)), (1, .ref (As 0)), (2, .int v.2.1), (3, .int v.2.2)]) hx hb (z_d hX4_findLimits_0 18 rfl) hl (by decide) rfl (fun ls hl => ?_)
      refine lv_aload_n hx hb (z_d hX4_findLimits_0 19 rfl) rfl (lv_at hl 2 rfl) ?_
      refine lv_iload hx hb (z_d hX4_findLimits_0 20 rfl) (lv_at hl 0 rfl) ?_
      refine z_let hF (fun q4 hq4 hF => ?_)
      refine z_ro_i (z_rV (As := [.int q3]) (rest := []) hx hb hml hown hts vt_X5_isLocked (c_X5_isLocked l Z As S q3 _ hq4) rfl rfl ⟨Nat.le_of_ble_eq_true rfl, Nat.le_of_ble_eq_true rfl⟩ k_m_X4_84 zPro_blind (z_recv (q := (RX5, TX5, 10)) (ci := 5) (q0 := 0) hK (zP_reg (L := l_Script Z.2.1 As S.1 S.2.1 S.2.2.1 S.2.2.2.1 S.2.2.2.2.1 S.2.2.2.2.2.1 S.2.2.2.2.2.2.1 S.2.2.2.2.2.2.2.1 S.2.2.2.2.2.2.2.2.1 S.2.2.2.2.2.2.2.2.2) (zP_reg hP 10 rfl) 0 rfl) rfl rfl) (z_prec hK (zP_reg hP 10 rfl)) rfl hl.1 (Nat.le_of_ble_eq_true rfl) (z_d hX4_findLimits_0 21 rfl) ⟨Nat.zero_le _, Nat.zero_le _⟩) hS hP (fun H locs hP hS => ?_)
      refine lv_if_eq (tgt := 51) hx hb (z_d hX4_findLimits_0 22 rfl) (by decide) (fun hc38 => ?_) (fun hc38 => ?_)
      · have hF := z_pos hc38 hF
        refine z_let hF (fun u5 hu5 hF => ?_)
        refine lv_iinc (v := u5) (lv' := [(3, .int u5), (4, .int q3), (0, .ref (Ac 0)), (1, .ref (As 0)), (2, .int v.2.1)]) hx hb (z_d hX4_findLimits_0 28 rfl) hl (k := 4) rfl (z_incm1 hu5) (by decide) rfl (fun ls hl => ?_)
        refine lv_goto (tgt := 9) hx hb (z_d hX4_findLimits_0 29 rfl) (by decide) ?_
        exact ih _ _ hF _ _ ls hP hD hS (lv_sub hl [2, 3, 4, 0] rfl) K1
      · have hF := z_neg hc38 hF
        refine lv_aload_n hx hb (z_d hX4_findLimits_0 23 rfl) rfl (lv_at hl 2 rfl) ?_
        refine va_getN (D := Z.1) (ci := 5) (v := .ref (As 11)) (C := RX5) (T := TX5) (N := 10) hx hb hts zinX5 hown hK.1 (zP_reg (L := l_Script Z.2.1 As S.1 S.2.1 S.2.2.1 S.2.2.2.1 S.2.2.2.2.1 S.2.2.2.2.2.1 S.2.2.2.2.2.2.1 S.2.2.2.2.2.2.2.1 S.2.2.2.2.2.2.2.2.1 S.2.2.2.2.2.2.2.2.2) (zP_reg hP 10 rfl) 0 rfl) 0 rfl rfl 7 (by decide) (kn_X4_100 hK.2) (fun _ h9 => h9) rfl (z_d hX4_findLimits_0 24 rfl) ?_
        refine lv_iload hx hb (z_d hX4_findLimits_0 25 rfl) (lv_at hl 0 rfl) ?_
        refine z_let hF (fun q6 hq6 hF => ?_)
        refine z_ro_i (z_rV (As := [.int q3]) (rest := []) hx hb hml hown hts vt_X3_at (c_rAt l Z 60 (As 11) (As 12) (by decide) S.2.2.2.2.2.2.2.1 q3 _ hq6) rfl rfl ⟨Nat.le_of_ble_eq_true rfl, Nat.le_of_ble_eq_true rfl⟩ k_m_X4_97 zPro_blind (z_recv (q := (RX3, TX3, 1)) (ci := 3) (q0 := 0) hK (zP_reg (L := l_Script Z.2.1 As S.1 S.2.1 S.2.2.1 S.2.2.2.1 S.2.2.2.2.1 S.2.2.2.2.2.1 S.2.2.2.2.2.2.1 S.2.2.2.2.2.2.2.1 S.2.2.2.2.2.2.2.2.1 S.2.2.2.2.2.2.2.2.2) (zP_reg hP 10 rfl) 6 rfl) rfl rfl) (z_prec hK (zP_reg (L := l_Script Z.2.1 As S.1 S.2.1 S.2.2.1 S.2.2.2.1 S.2.2.2.2.1 S.2.2.2.2.2.1 S.2.2.2.2.2.2.1 S.2.2.2.2.2.2.2.1 S.2.2.2.2.2.2.2.2.1 S.2.2.2.2.2.2.2.2.2) (zP_reg hP 10 rfl) 6 rfl)) rfl hl.1 (Nat.le_of_ble_eq_true rfl) (z_d hX4_findLimits_0 26 rfl) ⟨Nat.zero_le _, Nat.zero_le _⟩) hS hP (fun H locs hP hS => ?_)
        refine lv_istore_n (lv' := [(2, .int q6), (4, .int q3), (0, .ref (Ac 0)), (1, .ref (As 0)), (3, .int v.2.2)]) hx hb (z_d hX4_findLimits_0 27 rfl) rfl hl (by decide) rfl (fun ls hl => ?_)
        refine z_let hF (fun u7 hu7 hF => ?_)
        refine lv_iinc (v := u7) (lv' := [(3, .int u7), (2, .int q6), (4, .int q3), (0, .ref (Ac 0)), (1, .ref (As 0))]) hx hb (z_d hX4_findLimits_0 28 rfl) hl (k := 4) rfl (z_incm1 hu7) (by decide) rfl (fun ls hl => ?_)
        refine lv_goto (tgt := 9) hx hb (z_d hX4_findLimits_0 29 rfl) (by decide) ?_
        exact ih _ _ hF _ _ ls hP hD hS (lv_sub hl [3, 4, 1, 0] rfl) K1
  refine lv_iconst (v := (-1)) hx hb (z_d hX4_findLimits_0 0 rfl) (by decide) ?_
  refine lv_istore_n (lv' := [(2, .int (-1)), (0, .ref (Ac 0)), (1, .ref (As 0))]) hx hb (z_d hX4_findLimits_0 1 rfl) rfl hl (by decide) rfl (fun ls hl => ?_)
  refine lv_aload_n hx hb (z_d hX4_findLimits_0 2 rfl) rfl (lv_at hl 1 rfl) ?_
  refine va_get (D := Z.1) (ci := 4) (v := .int C.1) (C := RX4) (T := TX4) (N := 12) hx hb hts zinX4 hown hK.1 (zP_reg hP 0 rfl) 0 rfl rfl 0 (by decide) (hts _ k_f_X4_9) (fun _ h9 => h9) rfl (z_d hX4_findLimits_0 3 rfl) ?_
  refine lv_iconst (v := 1) hx hb (z_d hX4_findLimits_0 4 rfl) (by decide) ?_
  refine lv_isub hx hb (z_d hX4_findLimits_0 5 rfl) ?_
  refine z_let hF (fun u1 hu1 hF => ?_)
  refine lv_topE hu1 ?_
  refine lv_istore_n (lv' := [(3, .int u1), (2, .int (-1)), (0, .ref (Ac 0)), (1, .ref (As 0))]) hx hb (z_d hX4_findLimits_0 6 rfl) rfl hl (by decide) rfl (fun ls hl => ?_)
  refine z_bnd hF (fun q8 hq8 hF => ?_)
  refine L9  _ _ _ hq8 _ _ ls hP hD hS (lv_sub hl [2, 3, 1, 0] rfl) (fun H locs ls hP hD hS hl => ?_)
  obtain rfl := Option.some.inj hF
  subst hQ
  subst hA
  exact W.vret hx hb hr (fun t ht hW => zq_mu (by rw [ht]; exact zfl hP) (hS.F ht)) hS.2.2 (z_d hX4_findLimits_0 30 rfl)
def rm_X4_putLabel : Room := { frames := 1, cells := 0, slots := 0, locals := 22 }
set_option maxRecDepth 100000 in
set_option maxHeartbeats 4000000 in
theorem c_X4_putLabel (l : Launch) (Z : zZ) (Ac : Nat → Nat) (C : t_Scenes) (p1 : Int32) (p2 : Int32) (p3 : Int32) (p4 : Int32) (R : t_Scenes) (hF : X4_putLabel C p1 p2 p3 p4 = R) : zMU l yX4_putLabel (zw yX4_putLabel cX4_putLabel 5 none) rm_X4_putLabel Z [.ref (Ac 0), .int p1, .int p2, .int p3, .int p4] (w_Scenes Z.2.1 Ac C) (w_Scenes Z.2.1 Ac R) none := by
  refine zMU_of (by decide) (Nat.le_of_ble_eq_true rfl) (fun p e s m below meth c hx hb hr hml hown hts hlocks hK A hA Q hQ ls hl hP hD hS => ?_)
  unfold X4_putLabel at hF
  have hl : lv_has ls 5 [(0, .ref (Ac 0)), (1, .int p1), (2, .int p2), (3, .int p3), (4, .int p4)] := hl
  have hown : s.vm.findClass RX4 = some m.cls := hown
  have hP : va_P Z.1 vwCl (l_Scenes Z.2.1 Ac C.1 C.2.1 C.2.2.1 C.2.2.2.1 C.2.2.2.2.1 C.2.2.2.2.2.1 C.2.2.2.2.2.2.1 C.2.2.2.2.2.2.2.1 C.2.2.2.2.2.2.2.2.1 C.2.2.2.2.2.2.2.2.2.1 C.2.2.2.2.2.2.2.2.2.2.1 C.2.2.2.2.2.2.2.2.2.2.2).flatten s.heap := hP
  have hD : va_D A (l_Scenes Z.2.1 Ac C.1 C.2.1 C.2.2.1 C.2.2.2.1 C.2.2.2.2.1 C.2.2.2.2.2.1 C.2.2.2.2.2.2.1 C.2.2.2.2.2.2.2.1 C.2.2.2.2.2.2.2.2.1 C.2.2.2.2.2.2.2.2.2.1 C.2.2.2.2.2.2.2.2.2.2.1 C.2.2.2.2.2.2.2.2.2.2.2).flatten := hD
  refine lv_aload_n hx hb (z_d hX4_putLabel_0 0 rfl) rfl (lv_at hl 0 rfl) ?_
  refine va_get (D := Z.1) (ci := 4) (v := .ref (Ac 7)) (C := RX4) (T := TX4) (N := 12) hx hb hts zinX4 hown hK.1 (zP_reg hP 0 rfl) 0 rfl rfl 6 (by decide) (hts _ k_f_X4_36) (fun _ h9 => h9) rfl (z_d hX4_putLabel_0 1 rfl) ?_
  refine lv_iload_n hx hb (z_d hX4_putLabel_0 2 rfl) rfl (lv_at hl 1 rfl) ?_
  refine lv_iload_n hx hb (z_d hX4_putLabel_0 3 rfl) rfl (lv_at hl 2 rfl) ?_
  refine z_let hF (fun q1 hq1 hF => ?_)
  refine z_mu1 (L := l_Scenes Z.2.1 Ac C.1 C.2.1 C.2.2.1 C.2.2.2.1 C.2.2.2.2.1 C.2.2.2.2.2.1 C.2.2.2.2.2.2.1 C.2.2.2.2.2.2.2.1 C.2.2.2.2.2.2.2.2.1 C.2.2.2.2.2.2.2.2.2.1 C.2.2.2.2.2.2.2.2.2.2.1 C.2.2.2.2.2.2.2.2.2.2.2) (L' := l_Scenes Z.2.1 Ac C.1 C.2.1 C.2.2.1 C.2.2.2.1 C.2.2.2.2.1 C.2.2.2.2.2.1 q1 C.2.2.2.2.2.2.2.1 C.2.2.2.2.2.2.2.2.1 C.2.2.2.2.2.2.2.2.2.1 C.2.2.2.2.2.2.2.2.2.2.1 C.2.2.2.2.2.2.2.2.2.2.2) (z_rV (As := [.int p1, .int p2]) (rest := []) hx hb hml hown hts vt_X3_put (c_rPut l Z 60 (Ac 7) (Ac 8) (by decide) C.2.2.2.2.2.2.1 p1 p2 _ hq1) rfl rfl ⟨Nat.le_of_ble_eq_true rfl, Nat.le_of_ble_eq_true rfl⟩ k_m_X4_80 zPmu_blind (z_recv (q := (RX3, TX3, 1)) (ci := 3) (q0 := 0) hK (zP_reg hP 4 rfl) rfl rfl) (z_prem hK (zP_reg hP 4 rfl) (zD_one hD 4 _ rfl)) rfl hl.1 (Nat.le_of_ble_eq_true rfl) (z_d hX4_putLabel_0 4 rfl) ⟨Nat.zero_le _, Nat.zero_le _⟩) hS hP hD 4 rfl rfl rfl (fun H locs hP hD hS => ?_)
  refine W.eq (g2 := F0 m 9 ls []) rfl ?_
  refine lv_aload_n hx hb (z_d hX4_putLabel_0 5 rfl) rfl (lv_at hl 0 rfl) ?_
  refine va_get (D := Z.1) (ci := 4) (v := .ref (Ac 9)) (C := RX4) (T := TX4) (N := 12) hx hb hts zinX4 hown hK.1 (zP_reg hP 0 rfl) 0 rfl rfl 7 (by decide) (hts _ k_f_X4_39) (fun _ h9 => h9) rfl (z_d hX4_putLabel_0 6 rfl) ?_
  refine lv_iload_n hx hb (z_d hX4_putLabel_0 7 rfl) rfl (lv_at hl 1 rfl) ?_
  refine lv_iload_n hx hb (z_d hX4_putLabel_0 8 rfl) rfl (lv_at hl 3 rfl) ?_
  refine z_let hF (fun q2 hq2 hF => ?_)
  refine z_mu1 (L := l_Scenes Z.2.1 Ac C.1 C.2.1 C.2.2.1 C.2.2.2.1 C.2.2.2.2.1 C.2.2.2.2.2.1 q1 C.2.2.2.2.2.2.2.1 C.2.2.2.2.2.2.2.2.1 C.2.2.2.2.2.2.2.2.2.1 C.2.2.2.2.2.2.2.2.2.2.1 C.2.2.2.2.2.2.2.2.2.2.2) (L' := l_Scenes Z.2.1 Ac C.1 C.2.1 C.2.2.1 C.2.2.2.1 C.2.2.2.2.1 C.2.2.2.2.2.1 q1 q2 C.2.2.2.2.2.2.2.2.1 C.2.2.2.2.2.2.2.2.2.1 C.2.2.2.2.2.2.2.2.2.2.1 C.2.2.2.2.2.2.2.2.2.2.2) (z_rV (As := [.int p1, .int p3]) (rest := []) hx hb hml hown hts vt_X3_put (c_rPut l Z 60 (Ac 9) (Ac 10) (by decide) C.2.2.2.2.2.2.2.1 p1 p3 _ hq2) rfl rfl ⟨Nat.le_of_ble_eq_true rfl, Nat.le_of_ble_eq_true rfl⟩ k_m_X4_80 zPmu_blind (z_recv (q := (RX3, TX3, 1)) (ci := 3) (q0 := 0) hK (zP_reg hP 5 rfl) rfl rfl) (z_prem hK (zP_reg hP 5 rfl) (zD_one hD 5 _ rfl)) rfl hl.1 (Nat.le_of_ble_eq_true rfl) (z_d hX4_putLabel_0 9 rfl) ⟨Nat.zero_le _, Nat.zero_le _⟩) hS hP hD 5 rfl rfl rfl (fun H locs hP hD hS => ?_)
  refine W.eq (g2 := F0 m 18 ls []) rfl ?_
  refine lv_aload_n hx hb (z_d hX4_putLabel_0 10 rfl) rfl (lv_at hl 0 rfl) ?_
  refine va_get (D := Z.1) (ci := 4) (v := .ref (Ac 11)) (C := RX4) (T := TX4) (N := 12) hx hb hts zinX4 hown hK.1 (zP_reg hP 0 rfl) 0 rfl rfl 8 (by decide) (hts _ k_f_X4_42) (fun _ h9 => h9) rfl (z_d hX4_putLabel_0 11 rfl) ?_
  refine lv_iload_n hx hb (z_d hX4_putLabel_0 12 rfl) rfl (lv_at hl 1 rfl) ?_
  refine lv_iload hx hb (z_d hX4_putLabel_0 13 rfl) (lv_at hl 4 rfl) ?_
  refine z_let hF (fun q3 hq3 hF => ?_)
  refine z_mu1 (L := l_Scenes Z.2.1 Ac C.1 C.2.1 C.2.2.1 C.2.2.2.1 C.2.2.2.2.1 C.2.2.2.2.2.1 q1 q2 C.2.2.2.2.2.2.2.2.1 C.2.2.2.2.2.2.2.2.2.1 C.2.2.2.2.2.2.2.2.2.2.1 C.2.2.2.2.2.2.2.2.2.2.2) (L' := l_Scenes Z.2.1 Ac C.1 C.2.1 C.2.2.1 C.2.2.2.1 C.2.2.2.2.1 C.2.2.2.2.2.1 q1 q2 q3 C.2.2.2.2.2.2.2.2.2.1 C.2.2.2.2.2.2.2.2.2.2.1 C.2.2.2.2.2.2.2.2.2.2.2) (z_rV (As := [.int p1, .int p4]) (rest := []) hx hb hml hown hts vt_X3_put (c_rPut l Z 60 (Ac 11) (Ac 12) (by decide) C.2.2.2.2.2.2.2.2.1 p1 p4 _ hq3) rfl rfl ⟨Nat.le_of_ble_eq_true rfl, Nat.le_of_ble_eq_true rfl⟩ k_m_X4_80 zPmu_blind (z_recv (q := (RX3, TX3, 1)) (ci := 3) (q0 := 0) hK (zP_reg hP 6 rfl) rfl rfl) (z_prem hK (zP_reg hP 6 rfl) (zD_one hD 6 _ rfl)) rfl hl.1 (Nat.le_of_ble_eq_true rfl) (z_d hX4_putLabel_0 14 rfl) ⟨Nat.zero_le _, Nat.zero_le _⟩) hS hP hD 6 rfl rfl rfl (fun H locs hP hD hS => ?_)
  refine W.eq (g2 := F0 m 28 ls []) rfl ?_
  obtain rfl := hF
  subst hQ
  subst hA
  exact W.vret hx hb hr (fun t ht hW => zq_mu (by rw [ht]; exact hP) (hS.F ht)) hS.2.2 (z_d hX4_putLabel_0 15 rfl)
def rm_X4_labelOpen : Room := { frames := 2, cells := 0, slots := 0, locals := 46 }
set_option maxRecDepth 100000 in
set_option maxHeartbeats 4000000 in
theorem c_X4_labelOpen (l : Launch) (Z : zZ) (Ac : Nat → Nat) (C : t_Scenes) (p1 : Int32) (p2 : Int32) (p3 : Int32) (p4 : Int32) (p5 : Int32) (R : t_Scenes) (hF : X4_labelOpen C p1 p2 p3 p4 p5 = R) : zMU l yX4_labelOpen (zw yX4_labelOpen cX4_labelOpen 6 none) rm_X4_labelOpen Z [.ref (Ac 0), .int p1, .int p2, .int p3, .int p4, .int p5] (w_Scenes Z.2.1 Ac C) (w_Scenes Z.2.1 Ac R) none := by
  refine zMU_of (by decide) (Nat.le_of_ble_eq_true rfl) (fun p e s m below meth c hx hb hr hml hown hts hlocks hK A hA Q hQ ls hl hP hD hS => ?_)
  unfold X4_labelOpen at hF
  have hl : lv_has ls 6 [(0, .ref (Ac 0)), (1, .int p1), (2, .int p2), (3, .int p3), (4, .int p4), (5, .int p5)] := hl
  have hown : s.vm.findClass RX4 = some m.cls := hown
  have hP : va_P Z.1 vwCl (l_Scenes Z.2.1 Ac C.1 C.2.1 C.2.2.1 C.2.2.2.1 C.2.2.2.2.1 C.2.2.2.2.2.1 C.2.2.2.2.2.2.1 C.2.2.2.2.2.2.2.1 C.2.2.2.2.2.2.2.2.1 C.2.2.2.2.2.2.2.2.2.1 C.2.2.2.2.2.2.2.2.2.2.1 C.2.2.2.2.2.2.2.2.2.2.2).flatten s.heap := hP
  have hD : va_D A (l_Scenes Z.2.1 Ac C.1 C.2.1 C.2.2.1 C.2.2.2.1 C.2.2.2.2.1 C.2.2.2.2.2.1 C.2.2.2.2.2.2.1 C.2.2.2.2.2.2.2.1 C.2.2.2.2.2.2.2.2.1 C.2.2.2.2.2.2.2.2.2.1 C.2.2.2.2.2.2.2.2.2.2.1 C.2.2.2.2.2.2.2.2.2.2.2).flatten := hD
  refine lv_aload_n hx hb (z_d hX4_labelOpen_0 0 rfl) rfl (lv_at hl 0 rfl) ?_
  refine va_get (D := Z.1) (ci := 4) (v := .int C.2.1) (C := RX4) (T := TX4) (N := 12) hx hb hts zinX4 hown hK.1 (zP_reg hP 0 rfl) 0 rfl rfl 1 (by decide) (hts _ k_f_X4_15) (fun _ h9 => h9) rfl (z_d hX4_labelOpen_0 1 rfl) ?_
  refine lv_if_ne (tgt := 19) hx hb (z_d hX4_labelOpen_0 2 rfl) (by decide) (fun hc4 => ?_) (fun hc4 => ?_)
  · have hF := z_neg hc4 hF
    refine lv_aload_n hx hb (z_d hX4_labelOpen_0 10 rfl) rfl (lv_at hl 0 rfl) ?_
    refine va_get (D := Z.1) (ci := 4) (v := .ref (Ac 13)) (C := RX4) (T := TX4) (N := 12) hx hb hts zinX4 hown hK.1 (zP_reg hP 0 rfl) 0 rfl rfl 9 (by decide) (hts _ k_f_X4_45) (fun _ h9 => h9) rfl (z_d hX4_labelOpen_0 11 rfl) ?_
    refine lv_iload_n hx hb (z_d hX4_labelOpen_0 12 rfl) rfl (lv_at hl 1 rfl) ?_
    refine z_let hF (fun q1 hq1 hF => ?_)
    refine z_ro_i (z_rV (As := [.int p1]) (rest := []) hx hb hml hown hts vt_X3_at (c_rAt l Z 60 (Ac 13) (Ac 14) (by decide) C.2.2.2.2.2.2.2.2.2.1 p1 _ hq1) rfl rfl ⟨Nat.le_of_ble_eq_true rfl, Nat.le_of_ble_eq_true rfl⟩ k_m_X4_97 zPro_blind (z_recv (q := (RX3, TX3, 1)) (ci := 3) (q0 := 0) hK (zP_reg hP 7 rfl) rfl rfl) (z_prec hK (zP_reg hP 7 rfl)) rfl hl.1 (Nat.le_of_ble_eq_true rfl) (z_d hX4_labelOpen_0 13 rfl) ⟨Nat.zero_le _, Nat.zero_le _⟩) hS hP (fun H locs hP hS => ?_)
    refine lv_iload_n hx hb (z_d hX4_labelOpen_0 14 rfl) rfl (lv_at hl 2 rfl) ?_
    refine lv_icmp_ne (tgt := 46) hx hb (z_d hX4_labelOpen_0 15 rfl) (by decide) (fun hc28 => ?_) (fun hc28 => ?_)
    · have hF := z_neg hc28 hF
      refine lv_aload_n hx hb (z_d hX4_labelOpen_0 25 rfl) rfl (lv_at hl 0 rfl) ?_
      refine lv_iload_n hx hb (z_d hX4_labelOpen_0 26 rfl) rfl (lv_at hl 1 rfl) ?_
      refine lv_iload_n hx hb (z_d hX4_labelOpen_0 27 rfl) rfl (lv_at hl 2 rfl) ?_
      refine lv_iload_n hx hb (z_d hX4_labelOpen_0 28 rfl) rfl (lv_at hl 3 rfl) ?_
      refine lv_iload hx hb (z_d hX4_labelOpen_0 29 rfl) (lv_at hl 5 rfl) ?_
      refine lv_iadd hx hb (z_d hX4_labelOpen_0 30 rfl) ?_
      refine z_let hF (fun u2 hu2 hF => ?_)
      refine lv_topE hu2 ?_
      refine lv_iconst (v := 0) hx hb (z_d hX4_labelOpen_0 31 rfl) (by decide) ?_
      refine z_let hF (fun q3 hq3 hF => ?_)
      refine z_mu0 (z_rV (As := [.int p1, .int p2, .int u2, .int 0]) (rest := []) hx hb hml hown hts vt_X4_putLabel (c_X4_putLabel l Z Ac C p1 p2 u2 0 _ hq3) rfl rfl ⟨Nat.le_of_ble_eq_true rfl, Nat.le_of_ble_eq_true rfl⟩ k_m_X4_103 zPmu_blind (z_recv (q := (RX4, TX4, 12)) (ci := 4) (q0 := 0) hK (zP_reg hP 0 rfl) rfl rfl) (z_prem hK hP hD) rfl hl.1 (Nat.le_of_ble_eq_true rfl) (z_d hX4_labelOpen_0 32 rfl) ⟨Nat.zero_le _, Nat.zero_le _⟩) hS hD (adr_Scenes _ _ _ _) (fun H locs hP hD hS => ?_)
      have hP : va_P Z.1 vwCl (l_Scenes Z.2.1 Ac q3.1 q3.2.1 q3.2.2.1 q3.2.2.2.1 q3.2.2.2.2.1 q3.2.2.2.2.2.1 q3.2.2.2.2.2.2.1 q3.2.2.2.2.2.2.2.1 q3.2.2.2.2.2.2.2.2.1 q3.2.2.2.2.2.2.2.2.2.1 q3.2.2.2.2.2.2.2.2.2.2.1 q3.2.2.2.2.2.2.2.2.2.2.2).flatten H := hP
      have hD : va_D A (l_Scenes Z.2.1 Ac q3.1 q3.2.1 q3.2.2.1 q3.2.2.2.1 q3.2.2.2.2.1 q3.2.2.2.2.2.1 q3.2.2.2.2.2.2.1 q3.2.2.2.2.2.2.2.1 q3.2.2.2.2.2.2.2.2.1 q3.2.2.2.2.2.2.2.2.2.1 q3.2.2.2.2.2.2.2.2.2.2.1 q3.2.2.2.2.2.2.2.2.2.2.2).flatten := hD
      refine W.eq (g2 := F0 m 57 ls []) rfl ?_
      obtain rfl := hF
      subst hQ
      subst hA
      exact W.vret hx hb hr (fun t ht hW => zq_mu (by rw [ht]; exact hP) (hS.F ht)) hS.2.2 (z_d hX4_labelOpen_0 33 rfl)
    · have hF := z_pos hc28 hF
      refine lv_aload_n hx hb (z_d hX4_labelOpen_0 16 rfl) rfl (lv_at hl 0 rfl) ?_
      refine lv_iload_n hx hb (z_d hX4_labelOpen_0 17 rfl) rfl (lv_at hl 1 rfl) ?_
      refine lv_iload_n hx hb (z_d hX4_labelOpen_0 18 rfl) rfl (lv_at hl 2 rfl) ?_
      refine lv_iload_n hx hb (z_d hX4_labelOpen_0 19 rfl) rfl (lv_at hl 3 rfl) ?_
      refine lv_iload hx hb (z_d hX4_labelOpen_0 20 rfl) (lv_at hl 4 rfl) ?_
      refine lv_iload hx hb (z_d hX4_labelOpen_0 21 rfl) (lv_at hl 5 rfl) ?_
      refine lv_iadd hx hb (z_d hX4_labelOpen_0 22 rfl) ?_
      refine z_let hF (fun u4 hu4 hF => ?_)
      refine lv_topE hu4 ?_
      refine z_let hF (fun q5 hq5 hF => ?_)
      refine z_mu0 (z_rV (As := [.int p1, .int p2, .int p3, .int u4]) (rest := []) hx hb hml hown hts vt_X4_putLabel (c_X4_putLabel l Z Ac C p1 p2 p3 u4 _ hq5) rfl rfl ⟨Nat.le_of_ble_eq_true rfl, Nat.le_of_ble_eq_true rfl⟩ k_m_X4_103 zPmu_blind (z_recv (q := (RX4, TX4, 12)) (ci := 4) (q0 := 0) hK (zP_reg hP 0 rfl) rfl rfl) (z_prem hK hP hD) rfl hl.1 (Nat.le_of_ble_eq_true rfl) (z_d hX4_labelOpen_0 23 rfl) ⟨Nat.zero_le _, Nat.zero_le _⟩) hS hD (adr_Scenes _ _ _ _) (fun H locs hP hD hS => ?_)
      have hP : va_P Z.1 vwCl (l_Scenes Z.2.1 Ac q5.1 q5.2.1 q5.2.2.1 q5.2.2.2.1 q5.2.2.2.2.1 q5.2.2.2.2.2.1 q5.2.2.2.2.2.2.1 q5.2.2.2.2.2.2.2.1 q5.2.2.2.2.2.2.2.2.1 q5.2.2.2.2.2.2.2.2.2.1 q5.2.2.2.2.2.2.2.2.2.2.1 q5.2.2.2.2.2.2.2.2.2.2.2).flatten H := hP
      have hD : va_D A (l_Scenes Z.2.1 Ac q5.1 q5.2.1 q5.2.2.1 q5.2.2.2.1 q5.2.2.2.2.1 q5.2.2.2.2.2.1 q5.2.2.2.2.2.2.1 q5.2.2.2.2.2.2.2.1 q5.2.2.2.2.2.2.2.2.1 q5.2.2.2.2.2.2.2.2.2.1 q5.2.2.2.2.2.2.2.2.2.2.1 q5.2.2.2.2.2.2.2.2.2.2.2).flatten := hD
      refine W.eq (g2 := F0 m 43 ls []) rfl ?_
      refine lv_goto (tgt := 57) hx hb (z_d hX4_labelOpen_0 24 rfl) (by decide) ?_
      obtain rfl := hF
      subst hQ
      subst hA
      exact W.vret hx hb hr (fun t ht hW => zq_mu (by rw [ht]; exact hP) (hS.F ht)) hS.2.2 (z_d hX4_labelOpen_0 33 rfl)
  · have hF := z_pos hc4 hF
    refine lv_aload_n hx hb (z_d hX4_labelOpen_0 3 rfl) rfl (lv_at hl 0 rfl) ?_
    refine lv_iload_n hx hb (z_d hX4_labelOpen_0 4 rfl) rfl (lv_at hl 1 rfl) ?_
    refine lv_iload hx hb (z_d hX4_labelOpen_0 5 rfl) (lv_at hl 5 rfl) ?_
    refine lv_iconst (v := 0) hx hb (z_d hX4_labelOpen_0 6 rfl) (by decide) ?_
    refine lv_iconst (v := 0) hx hb (z_d hX4_labelOpen_0 7 rfl) (by decide) ?_
    refine z_let hF (fun q6 hq6 hF => ?_)
    refine z_mu0 (z_rV (As := [.int p1, .int p5, .int 0, .int 0]) (rest := []) hx hb hml hown hts vt_X4_putLabel (c_X4_putLabel l Z Ac C p1 p5 0 0 _ hq6) rfl rfl ⟨Nat.le_of_ble_eq_true rfl, Nat.le_of_ble_eq_true rfl⟩ k_m_X4_103 zPmu_blind (z_recv (q := (RX4, TX4, 12)) (ci := 4) (q0 := 0) hK (zP_reg hP 0 rfl) rfl rfl) (z_prem hK hP hD) rfl hl.1 (Nat.le_of_ble_eq_true rfl) (z_d hX4_labelOpen_0 8 rfl) ⟨Nat.zero_le _, Nat.zero_le _⟩) hS hD (adr_Scenes _ _ _ _) (fun H locs hP hD hS => ?_)
    have hP : va_P Z.1 vwCl (l_Scenes Z.2.1 Ac q6.1 q6.2.1 q6.2.2.1 q6.2.2.2.1 q6.2.2.2.2.1 q6.2.2.2.2.2.1 q6.2.2.2.2.2.2.1 q6.2.2.2.2.2.2.2.1 q6.2.2.2.2.2.2.2.2.1 q6.2.2.2.2.2.2.2.2.2.1 q6.2.2.2.2.2.2.2.2.2.2.1 q6.2.2.2.2.2.2.2.2.2.2.2).flatten H := hP
    have hD : va_D A (l_Scenes Z.2.1 Ac q6.1 q6.2.1 q6.2.2.1 q6.2.2.2.1 q6.2.2.2.2.1 q6.2.2.2.2.2.1 q6.2.2.2.2.2.2.1 q6.2.2.2.2.2.2.2.1 q6.2.2.2.2.2.2.2.2.1 q6.2.2.2.2.2.2.2.2.2.1 q6.2.2.2.2.2.2.2.2.2.2.1 q6.2.2.2.2.2.2.2.2.2.2.2).flatten := hD
    refine W.eq (g2 := F0 m 16 ls []) rfl ?_
    refine lv_goto (tgt := 57) hx hb (z_d hX4_labelOpen_0 9 rfl) (by decide) ?_
    obtain rfl := hF
    subst hQ
    subst hA
    exact W.vret hx hb hr (fun t ht hW => zq_mu (by rw [ht]; exact hP) (hS.F ht)) hS.2.2 (z_d hX4_labelOpen_0 33 rfl)
def rm_X4_label : Room := { frames := 3, cells := 0, slots := 0, locals := 71 }
set_option maxRecDepth 100000 in
set_option maxHeartbeats 4000000 in
theorem c_X4_label (l : Launch) (Z : zZ) (Ac : Nat → Nat) (As : Nat → Nat) (C : t_Scenes) (S : t_Script) (R : t_Scenes) (hF : X4_label C S = some R) : zMU l yX4_label (zw yX4_label cX4_label 8 none) rm_X4_label Z [.ref (Ac 0), .ref (As 0)] (List.flatten [w_Scenes Z.2.1 Ac C, w_Script Z.2.1 As S]) (List.flatten [w_Scenes Z.2.1 Ac R, w_Script Z.2.1 As S]) none := by
  refine zMU_of (by decide) (Nat.le_of_ble_eq_true rfl) (fun p e s m below meth c hx hb hr hml hown hts hlocks hK A hA Q hQ ls hl hP hD hS => ?_)
  unfold X4_label at hF
  have hl : lv_has ls 8 [(0, .ref (Ac 0)), (1, .ref (As 0))] := hl
  have hown : s.vm.findClass RX4 = some m.cls := hown
  have hP : va_P Z.1 vwCl (l_Scenes Z.2.1 Ac C.1 C.2.1 C.2.2.1 C.2.2.2.1 C.2.2.2.2.1 C.2.2.2.2.2.1 C.2.2.2.2.2.2.1 C.2.2.2.2.2.2.2.1 C.2.2.2.2.2.2.2.2.1 C.2.2.2.2.2.2.2.2.2.1 C.2.2.2.2.2.2.2.2.2.2.1 C.2.2.2.2.2.2.2.2.2.2.2 ++ [w_Script Z.2.1 As S]).flatten s.heap := zfr hP
  have hD : va_D A (l_Scenes Z.2.1 Ac C.1 C.2.1 C.2.2.1 C.2.2.2.1 C.2.2.2.2.1 C.2.2.2.2.2.1 C.2.2.2.2.2.2.1 C.2.2.2.2.2.2.2.1 C.2.2.2.2.2.2.2.2.1 C.2.2.2.2.2.2.2.2.2.1 C.2.2.2.2.2.2.2.2.2.2.1 C.2.2.2.2.2.2.2.2.2.2.2 ++ [w_Script Z.2.1 As S]).flatten := zfrD hD
  have L13 : ∀  (n : Nat) (v : t_Scenes × Int32 × Int32 × Int32 × Int32 × Int32) (X : t_Scenes) (hF : zloop (b_X4_label_13 S ) n v = some X) (H : Heap) (locs : List Loc) (ls : Array Slot) (hP : va_P Z.1 vwCl (l_Scenes Z.2.1 Ac v.1.1 v.1.2.1 v.1.2.2.1 v.1.2.2.2.1 v.1.2.2.2.2.1 v.1.2.2.2.2.2.1 v.1.2.2.2.2.2.2.1 v.1.2.2.2.2.2.2.2.1 v.1.2.2.2.2.2.2.2.2.1 v.1.2.2.2.2.2.2.2.2.2.1 v.1.2.2.2.2.2.2.2.2.2.2.1 v.1.2.2.2.2.2.2.2.2.2.2.2 ++ [w_Script Z.2.1 As S]).flatten H) (hD : va_D A (l_Scenes Z.2.1 Ac v.1.1 v.1.2.1 v.1.2.2.1 v.1.2.2.2.1 v.1.2.2.2.2.1 v.1.2.2.2.2.2.1 v.1.2.2.2.2.2.2.1 v.1.2.2.2.2.2.2.2.1 v.1.2.2.2.2.2.2.2.2.1 v.1.2.2.2.2.2.2.2.2.2.1 v.1.2.2.2.2.2.2.2.2.2.2.1 v.1.2.2.2.2.2.2.2.2.2.2.2 ++ [w_Script Z.2.1 As S]).flatten) (hS : va_S A s.heap H locs) (hl : lv_has ls 8 [(0, .ref (Ac 0)), (1, .ref (As 0)), (2, .int v.2.1), (3, .int v.2.2.1), (4, .int v.2.2.2.1), (5, .int v.2.2.2.2.1), (6, .int v.2.2.2.2.2)]) (K1 : ∀ (H : Heap) (locs : List Loc) (ls : Array Slot) (hP : va_P Z.1 vwCl (l_Scenes Z.2.1 Ac X.1 X.2.1 X.2.2.1 X.2.2.2.1 X.2.2.2.2.1 X.2.2.2.2.2.1 X.2.2.2.2.2.2.1 X.2.2.2.2.2.2.2.1 X.2.2.2.2.2.2.2.2.1 X.2.2.2.2.2.2.2.2.2.1 X.2.2.2.2.2.2.2.2.2.2.1 X.2.2.2.2.2.2.2.2.2.2.2 ++ [w_Script Z.2.1 As S]).flatten H) (hD : va_D A (l_Scenes Z.2.1 Ac X.1 X.2.1 X.2.2.1 X.2.2.2.1 X.2.2.2.2.1 X.2.2.2.2.2.1 X.2.2.2.2.2.2.1 X.2.2.2.2.2.2.2.1 X.2.2.2.2.2.2.2.2.1 X.2.2.2.2.2.2.2.2.2.1 X.2.2.2.2.2.2.2.2.2.2.1 X.2.2.2.2.2.2.2.2.2.2.2 ++ [w_Script Z.2.1 As S]).flatten) (hS : va_S A s.heap H locs) (hl : lv_has ls 8 [(0, .ref (Ac 0)), (1, .ref (As 0))]), W p l e rm_X4_label s m ([.ref (Ac 0), .ref (As 0)] : List Value).toArray below meth c H locs 0 0 Q (F0 m 110 ls [])), W p l e rm_X4_label s m ([.ref (Ac 0), .ref (As 0)] : List Value).toArray below meth c H locs 0 0 Q (F0 m 13 ls []) := by
    skip
    refine z_loopE (fun rec ih v X hF H locs ls hP hD hS hl K1 => ?_)
    unfold b_X4_label_13 at hF
    refine lv_iload hx hb (z_d hX4_label_0 10 rfl) (lv_at hl 6 rfl) ?_
    refine lv_aload_n hx hb (z_d hX4_label_0 11 rfl) rfl (lv_at hl 0 rfl) ?_
    refine va_get (D := Z.1) (ci := 4) (v := .int v.1.1) (C := RX4) (T := TX4) (N := 12) hx hb hts zinX4 hown hK.1 (zP_reg hP 0 rfl) 0 rfl rfl 0 (by decide) (hts _ k_f_X4_9) (fun _ h9 => h9) rfl (z_d hX4_label_0 12 rfl) ?_
    refine lv_icmp_ge (tgt := 110) hx hb (z_d hX4_label_0 13 rfl) (by decide) (fun hc19 => ?_) (fun hc19 => ?_)
    · have hF := z_pos hc19 hF
      obtain rfl := Option.some.inj hF
      exact K1 _ _ ls hP hD hS (lv_sub hl [0, 1] rfl)
    · have hF := z_neg hc19 hF
      refine lv_aload_n hx hb (z_d hX4_label_0 14 rfl) rfl (lv_at hl 0 rfl) ?_
      refine va_get (D := Z.1) (ci := 4) (v := .ref (Ac 1)) (C := RX4) (T := TX4) (N := 12) hx hb hts zinX4 hown hK.1 (zP_reg hP 0 rfl) 0 rfl rfl 3 (by decide) (hts _ k_f_X4_26) (fun _ h9 => h9) rfl (z_d hX4_label_0 15 rfl) ?_
      refine lv_iload hx hb (z_d hX4_label_0 16 rfl) (lv_at hl 6 rfl) ?_
      refine z_let hF (fun q1 hq1 hF => ?_)
      refine z_ro_i (z_rV (As := [.int v.2.2.2.2.2]) (rest := []) hx hb hml hown hts vt_X3_at (c_rAt l Z 60 (Ac 1) (Ac 2) (by decide) v.1.2.2.2.1 v.2.2.2.2.2 _ hq1) rfl rfl ⟨Nat.le_of_ble_eq_true rfl, Nat.le_of_ble_eq_true rfl⟩ k_m_X4_97 zPro_blind (z_recv (q := (RX3, TX3, 1)) (ci := 3) (q0 := 0) hK (zP_reg hP 1 rfl) rfl rfl) (z_prec hK (zP_reg hP 1 rfl)) rfl hl.1 (Nat.le_of_ble_eq_true rfl) (z_d hX4_label_0 17 rfl) ⟨Nat.zero_le _, Nat.zero_le _⟩) hS hP (fun H locs hP hS => ?_)
      refine lv_istore (lv' := [(7, .int q1), (0, .ref (Ac 0)), (1, .ref (As 0)), (2, .int v.2.1), (3, .int v.2.2.1), (4, .int v.2.2.2.1), (5, .int v.2.2.2.2.1), (6, .int v.2.2.2.2.2)]) hx hb (z_d hX4_label_0 18 rfl) hl (by decide) rfl (fun ls hl => ?_)
      refine lv_aload_n hx hb (z_d hX4_label_0 19 rfl) rfl (lv_at hl 2 rfl) ?_
      refine lv_iload hx hb (z_d hX4_label_0 20 rfl) (lv_at hl 0 rfl) ?_
      refine z_let hF (fun q2 hq2 hF => ?_)
      refine z_ro_i (z_rV (As := [.int q1]) (rest := []) hx hb hml hown hts vt_X5_isLocked (c_X5_isLocked l Z As S q1 _ hq2) rfl rfl ⟨Nat.le_of_ble_eq_true rfl, Nat.le_of_ble_eq_true rfl⟩ k_m_X4_84 zPro_blind (z_recv (q := (RX5, TX5, 10)) (ci := 5) (q0 := 0) hK (zP_reg (L := l_Script Z.2.1 As S.1 S.2.1 S.2.2.1 S.2.2.2.1 S.2.2.2.2.1 S.2.2.2.2.2.1 S.2.2.2.2.2.2.1 S.2.2.2.2.2.2.2.1 S.2.2.2.2.2.2.2.2.1 S.2.2.2.2.2.2.2.2.2) (zP_reg hP 10 rfl) 0 rfl) rfl rfl) (z_prec hK (zP_reg hP 10 rfl)) rfl hl.1 (Nat.le_of_ble_eq_true rfl) (z_d hX4_label_0 21 rfl) ⟨Nat.zero_le _, Nat.zero_le _⟩) hS hP (fun H locs hP hS => ?_)
      refine lv_if_eq (tgt := 89) hx hb (z_d hX4_label_0 22 rfl) (by decide) (fun hc39 => ?_) (fun hc39 => ?_)
      · have hF := z_pos hc39 hF
        refine z_let hF (fun u3 hu3 hF => ?_)
        refine lv_iinc (v := u3) (lv' := [(5, .int u3), (7, .int q1), (0, .ref (Ac 0)), (1, .ref (As 0)), (2, .int v.2.1), (3, .int v.2.2.1), (4, .int v.2.2.2.1), (6, .int v.2.2.2.2.2)]) hx hb (z_d hX4_label_0 47 rfl) hl (k := 6) rfl (z_inc1 hu3) (by decide) rfl (fun ls hl => ?_)
        refine lv_aload_n hx hb (z_d hX4_label_0 48 rfl) rfl (lv_at hl 2 rfl) ?_
        refine lv_iload hx hb (z_d hX4_label_0 49 rfl) (lv_at hl 7 rfl) ?_
        refine lv_iload_n hx hb (z_d hX4_label_0 50 rfl) rfl (lv_at hl 4 rfl) ?_
        refine lv_iload_n hx hb (z_d hX4_label_0 51 rfl) rfl (lv_at hl 5 rfl) ?_
        refine lv_iload hx hb (z_d hX4_label_0 52 rfl) (lv_at hl 6 rfl) ?_
        refine lv_iload hx hb (z_d hX4_label_0 53 rfl) (lv_at hl 0 rfl) ?_
        refine z_let hF (fun q4 hq4 hF => ?_)
        refine z_mu1 (L := [w_Scenes Z.2.1 Ac v.1, w_Script Z.2.1 As S]) (L' := [w_Scenes Z.2.1 Ac q4, w_Script Z.2.1 As S]) (z_rV (As := [.int v.2.2.2.2.2, .int v.2.1, .int v.2.2.1, .int v.2.2.2.1, .int u3]) (rest := []) hx hb hml hown hts vt_X4_labelOpen (c_X4_labelOpen l Z Ac v.1 v.2.2.2.2.2 v.2.1 v.2.2.1 v.2.2.2.1 u3 _ hq4) rfl rfl ⟨Nat.le_of_ble_eq_true rfl, Nat.le_of_ble_eq_true rfl⟩ k_m_X4_107 zPmu_blind (z_recv (q := (RX4, TX4, 12)) (ci := 4) (q0 := 0) hK (zP_reg hP 0 rfl) rfl rfl) (z_prem hK (zP_reg (zfl hP) 0 rfl) (zD_one (zflD hD) 0 _ rfl)) rfl hl.1 (Nat.le_of_ble_eq_true rfl) (z_d hX4_label_0 54 rfl) ⟨Nat.zero_le _, Nat.zero_le _⟩) hS (zfl hP) (zflD hD) 0 rfl rfl (adr_Scenes _ _ _ _) (fun H locs hP hD hS => ?_)
        have hP : va_P Z.1 vwCl (l_Scenes Z.2.1 Ac q4.1 q4.2.1 q4.2.2.1 q4.2.2.2.1 q4.2.2.2.2.1 q4.2.2.2.2.2.1 q4.2.2.2.2.2.2.1 q4.2.2.2.2.2.2.2.1 q4.2.2.2.2.2.2.2.2.1 q4.2.2.2.2.2.2.2.2.2.1 q4.2.2.2.2.2.2.2.2.2.2.1 q4.2.2.2.2.2.2.2.2.2.2.2 ++ [w_Script Z.2.1 As S]).flatten H := zfr hP
        have hD : va_D A (l_Scenes Z.2.1 Ac q4.1 q4.2.1 q4.2.2.1 q4.2.2.2.1 q4.2.2.2.2.1 q4.2.2.2.2.2.1 q4.2.2.2.2.2.2.1 q4.2.2.2.2.2.2.2.1 q4.2.2.2.2.2.2.2.2.1 q4.2.2.2.2.2.2.2.2.2.1 q4.2.2.2.2.2.2.2.2.2.2.1 q4.2.2.2.2.2.2.2.2.2.2.2 ++ [w_Script Z.2.1 As S]).flatten := zfrD hD
        refine W.eq (g2 := F0 m 104 ls []) rfl ?_
        refine z_let hF (fun u5 hu5 hF => ?_)
        refine lv_iinc (v := u5) (lv' := [(6, .int u5), (5, .int u3), (7, .int q1), (0, .ref (Ac 0)), (1, .ref (As 0)), (2, .int v.2.1), (3, .int v.2.2.1), (4, .int v.2.2.2.1)]) hx hb (z_d hX4_label_0 55 rfl) hl (k := 7) rfl (z_inc1 hu5) (by decide) rfl (fun ls hl => ?_)
        refine lv_goto (tgt := 13) hx hb (z_d hX4_label_0 56 rfl) (by decide) ?_
        exact ih _ _ hF _ _ ls hP hD hS (lv_sub hl [3, 4, 5, 6, 7, 1, 0] rfl) K1
      · have hF := z_neg hc39 hF
        refine lv_aload_n hx hb (z_d hX4_label_0 23 rfl) rfl (lv_at hl 2 rfl) ?_
        refine va_getN (D := Z.1) (ci := 5) (v := .ref (As 11)) (C := RX5) (T := TX5) (N := 10) hx hb hts zinX5 hown hK.1 (zP_reg (L := l_Script Z.2.1 As S.1 S.2.1 S.2.2.1 S.2.2.2.1 S.2.2.2.2.1 S.2.2.2.2.2.1 S.2.2.2.2.2.2.1 S.2.2.2.2.2.2.2.1 S.2.2.2.2.2.2.2.2.1 S.2.2.2.2.2.2.2.2.2) (zP_reg hP 10 rfl) 0 rfl) 0 rfl rfl 7 (by decide) (kn_X4_100 hK.2) (fun _ h9 => h9) rfl (z_d hX4_label_0 24 rfl) ?_
        refine lv_iload hx hb (z_d hX4_label_0 25 rfl) (lv_at hl 0 rfl) ?_
        refine z_let hF (fun q6 hq6 hF => ?_)
        refine z_ro_i (z_rV (As := [.int q1]) (rest := []) hx hb hml hown hts vt_X3_at (c_rAt l Z 60 (As 11) (As 12) (by decide) S.2.2.2.2.2.2.2.1 q1 _ hq6) rfl rfl ⟨Nat.le_of_ble_eq_true rfl, Nat.le_of_ble_eq_true rfl⟩ k_m_X4_97 zPro_blind (z_recv (q := (RX3, TX3, 1)) (ci := 3) (q0 := 0) hK (zP_reg (L := l_Script Z.2.1 As S.1 S.2.1 S.2.2.1 S.2.2.2.1 S.2.2.2.2.1 S.2.2.2.2.2.1 S.2.2.2.2.2.2.1 S.2.2.2.2.2.2.2.1 S.2.2.2.2.2.2.2.2.1 S.2.2.2.2.2.2.2.2.2) (zP_reg hP 10 rfl) 6 rfl) rfl rfl) (z_prec hK (zP_reg (L := l_Script Z.2.1 As S.1 S.2.1 S.2.2.1 S.2.2.2.1 S.2.2.2.2.1 S.2.2.2.2.2.1 S.2.2.2.2.2.2.1 S.2.2.2.2.2.2.2.1 S.2.2.2.2.2.2.2.2.1 S.2.2.2.2.2.2.2.2.2) (zP_reg hP 10 rfl) 6 rfl)) rfl hl.1 (Nat.le_of_ble_eq_true rfl) (z_d hX4_label_0 26 rfl) ⟨Nat.zero_le _, Nat.zero_le _⟩) hS hP (fun H locs hP hS => ?_)
        refine lv_istore_n (lv' := [(2, .int q6), (7, .int q1), (0, .ref (Ac 0)), (1, .ref (As 0)), (3, .int v.2.2.1), (4, .int v.2.2.2.1), (5, .int v.2.2.2.2.1), (6, .int v.2.2.2.2.2)]) hx hb (z_d hX4_label_0 27 rfl) rfl hl (by decide) rfl (fun ls hl => ?_)
        refine lv_aload_n hx hb (z_d hX4_label_0 28 rfl) rfl (lv_at hl 3 rfl) ?_
        refine va_getN (D := Z.1) (ci := 5) (v := .ref (As 13)) (C := RX5) (T := TX5) (N := 10) hx hb hts zinX5 hown hK.1 (zP_reg (L := l_Script Z.2.1 As S.1 S.2.1 S.2.2.1 S.2.2.2.1 S.2.2.2.2.1 S.2.2.2.2.2.1 S.2.2.2.2.2.2.1 S.2.2.2.2.2.2.2.1 S.2.2.2.2.2.2.2.2.1 S.2.2.2.2.2.2.2.2.2) (zP_reg hP 10 rfl) 0 rfl) 0 rfl rfl 8 (by decide) (kn_X4_101 hK.2) (fun _ h9 => h9) rfl (z_d hX4_label_0 29 rfl) ?_
        refine lv_iload hx hb (z_d hX4_label_0 30 rfl) (lv_at hl 1 rfl) ?_
        refine z_let hF (fun q7 hq7 hF => ?_)
        refine z_ro_i (z_rV (As := [.int q1]) (rest := []) hx hb hml hown hts vt_X3_at (c_rAt l Z 60 (As 13) (As 14) (by decide) S.2.2.2.2.2.2.2.2.1 q1 _ hq7) rfl rfl ⟨Nat.le_of_ble_eq_true rfl, Nat.le_of_ble_eq_true rfl⟩ k_m_X4_97 zPro_blind (z_recv (q := (RX3, TX3, 1)) (ci := 3) (q0 := 0) hK (zP_reg (L := l_Script Z.2.1 As S.1 S.2.1 S.2.2.1 S.2.2.2.1 S.2.2.2.2.1 S.2.2.2.2.2.1 S.2.2.2.2.2.2.1 S.2.2.2.2.2.2.2.1 S.2.2.2.2.2.2.2.2.1 S.2.2.2.2.2.2.2.2.2) (zP_reg hP 10 rfl) 7 rfl) rfl rfl) (z_prec hK (zP_reg (L := l_Script Z.2.1 As S.1 S.2.1 S.2.2.1 S.2.2.2.1 S.2.2.2.2.1 S.2.2.2.2.2.1 S.2.2.2.2.2.2.1 S.2.2.2.2.2.2.2.1 S.2.2.2.2.2.2.2.2.1 S.2.2.2.2.2.2.2.2.2) (zP_reg hP 10 rfl) 7 rfl)) rfl hl.1 (Nat.le_of_ble_eq_true rfl) (z_d hX4_label_0 31 rfl) ⟨Nat.zero_le _, Nat.zero_le _⟩) hS hP (fun H locs hP hS => ?_)
        refine lv_istore_n (lv' := [(3, .int q7), (2, .int q6), (7, .int q1), (0, .ref (Ac 0)), (1, .ref (As 0)), (4, .int v.2.2.2.1), (5, .int v.2.2.2.2.1), (6, .int v.2.2.2.2.2)]) hx hb (z_d hX4_label_0 32 rfl) rfl hl (by decide) rfl (fun ls hl => ?_)
        refine lv_aload_n hx hb (z_d hX4_label_0 33 rfl) rfl (lv_at hl 4 rfl) ?_
        refine va_getN (D := Z.1) (ci := 5) (v := .ref (As 15)) (C := RX5) (T := TX5) (N := 10) hx hb hts zinX5 hown hK.1 (zP_reg (L := l_Script Z.2.1 As S.1 S.2.1 S.2.2.1 S.2.2.2.1 S.2.2.2.2.1 S.2.2.2.2.2.1 S.2.2.2.2.2.2.1 S.2.2.2.2.2.2.2.1 S.2.2.2.2.2.2.2.2.1 S.2.2.2.2.2.2.2.2.2) (zP_reg hP 10 rfl) 0 rfl) 0 rfl rfl 9 (by decide) (kn_X4_102 hK.2) (fun _ h9 => h9) rfl (z_d hX4_label_0 34 rfl) ?_
        refine lv_iload hx hb (z_d hX4_label_0 35 rfl) (lv_at hl 2 rfl) ?_
        refine z_let hF (fun q8 hq8 hF => ?_)
        refine z_ro_i (z_rV (As := [.int q1]) (rest := []) hx hb hml hown hts vt_X3_at (c_rAt l Z 60 (As 15) (As 16) (by decide) S.2.2.2.2.2.2.2.2.2 q1 _ hq8) rfl rfl ⟨Nat.le_of_ble_eq_true rfl, Nat.le_of_ble_eq_true rfl⟩ k_m_X4_97 zPro_blind (z_recv (q := (RX3, TX3, 1)) (ci := 3) (q0 := 0) hK (zP_reg (L := l_Script Z.2.1 As S.1 S.2.1 S.2.2.1 S.2.2.2.1 S.2.2.2.2.1 S.2.2.2.2.2.1 S.2.2.2.2.2.2.1 S.2.2.2.2.2.2.2.1 S.2.2.2.2.2.2.2.2.1 S.2.2.2.2.2.2.2.2.2) (zP_reg hP 10 rfl) 8 rfl) rfl rfl) (z_prec hK (zP_reg (L := l_Script Z.2.1 As S.1 S.2.1 S.2.2.1 S.2.2.2.1 S.2.2.2.2.1 S.2.2.2.2.2.1 S.2.2.2.2.2.2.1 S.2.2.2.2.2.2.2.1 S.2.2.2.2.2.2.2.2.1 S.2.2.2.2.2.2.2.2.2) (zP_reg hP 10 rfl) 8 rfl)) rfl hl.1 (Nat.le_of_ble_eq_true rfl) (z_d hX4_label_0 36 rfl) ⟨Nat.zero_le _, Nat.zero_le _⟩) hS hP (fun H locs hP hS => ?_)
        refine lv_istore (lv' := [(4, .int q8), (3, .int q7), (2, .int q6), (7, .int q1), (0, .ref (Ac 0)), (1, .ref (As 0)), (5, .int v.2.2.2.2.1), (6, .int v.2.2.2.2.2)]) hx hb (z_d hX4_label_0 37 rfl) hl (by decide) rfl (fun ls hl => ?_)
        refine lv_iconst (v := 0) hx hb (z_d hX4_label_0 38 rfl) (by decide) ?_
        refine lv_istore (lv' := [(5, .int 0), (4, .int q8), (3, .int q7), (2, .int q6), (7, .int q1), (0, .ref (Ac 0)), (1, .ref (As 0)), (6, .int v.2.2.2.2.2)]) hx hb (z_d hX4_label_0 39 rfl) hl (by decide) rfl (fun ls hl => ?_)
        refine lv_aload_n hx hb (z_d hX4_label_0 40 rfl) rfl (lv_at hl 5 rfl) ?_
        refine lv_iload hx hb (z_d hX4_label_0 41 rfl) (lv_at hl 7 rfl) ?_
        refine lv_iload_n hx hb (z_d hX4_label_0 42 rfl) rfl (lv_at hl 3 rfl) ?_
        refine lv_iload_n hx hb (z_d hX4_label_0 43 rfl) rfl (lv_at hl 2 rfl) ?_
        refine lv_iload hx hb (z_d hX4_label_0 44 rfl) (lv_at hl 1 rfl) ?_
        refine z_let hF (fun q9 hq9 hF => ?_)
        refine z_mu1 (L := [w_Scenes Z.2.1 Ac v.1, w_Script Z.2.1 As S]) (L' := [w_Scenes Z.2.1 Ac q9, w_Script Z.2.1 As S]) (z_rV (As := [.int v.2.2.2.2.2, .int q6, .int q7, .int q8]) (rest := []) hx hb hml hown hts vt_X4_putLabel (c_X4_putLabel l Z Ac v.1 v.2.2.2.2.2 q6 q7 q8 _ hq9) rfl rfl ⟨Nat.le_of_ble_eq_true rfl, Nat.le_of_ble_eq_true rfl⟩ k_m_X4_103 zPmu_blind (z_recv (q := (RX4, TX4, 12)) (ci := 4) (q0 := 0) hK (zP_reg hP 0 rfl) rfl rfl) (z_prem hK (zP_reg (zfl hP) 0 rfl) (zD_one (zflD hD) 0 _ rfl)) rfl hl.1 (Nat.le_of_ble_eq_true rfl) (z_d hX4_label_0 45 rfl) ⟨Nat.zero_le _, Nat.zero_le _⟩) hS (zfl hP) (zflD hD) 0 rfl rfl (adr_Scenes _ _ _ _) (fun H locs hP hD hS => ?_)
        have hP : va_P Z.1 vwCl (l_Scenes Z.2.1 Ac q9.1 q9.2.1 q9.2.2.1 q9.2.2.2.1 q9.2.2.2.2.1 q9.2.2.2.2.2.1 q9.2.2.2.2.2.2.1 q9.2.2.2.2.2.2.2.1 q9.2.2.2.2.2.2.2.2.1 q9.2.2.2.2.2.2.2.2.2.1 q9.2.2.2.2.2.2.2.2.2.2.1 q9.2.2.2.2.2.2.2.2.2.2.2 ++ [w_Script Z.2.1 As S]).flatten H := zfr hP
        have hD : va_D A (l_Scenes Z.2.1 Ac q9.1 q9.2.1 q9.2.2.1 q9.2.2.2.1 q9.2.2.2.2.1 q9.2.2.2.2.2.1 q9.2.2.2.2.2.2.1 q9.2.2.2.2.2.2.2.1 q9.2.2.2.2.2.2.2.2.1 q9.2.2.2.2.2.2.2.2.2.1 q9.2.2.2.2.2.2.2.2.2.2.1 q9.2.2.2.2.2.2.2.2.2.2.2 ++ [w_Script Z.2.1 As S]).flatten := zfrD hD
        refine W.eq (g2 := F0 m 86 ls []) rfl ?_
        refine lv_goto (tgt := 104) hx hb (z_d hX4_label_0 46 rfl) (by decide) ?_
        refine z_let hF (fun u10 hu10 hF => ?_)
        refine lv_iinc (v := u10) (lv' := [(6, .int u10), (5, .int 0), (4, .int q8), (3, .int q7), (2, .int q6), (7, .int q1), (0, .ref (Ac 0)), (1, .ref (As 0))]) hx hb (z_d hX4_label_0 55 rfl) hl (k := 7) rfl (z_inc1 hu10) (by decide) rfl (fun ls hl => ?_)
        refine lv_goto (tgt := 13) hx hb (z_d hX4_label_0 56 rfl) (by decide) ?_
        exact ih _ _ hF _ _ ls hP hD hS (lv_sub hl [6, 7, 4, 3, 2, 1, 0] rfl) K1
  refine lv_iconst (v := 0) hx hb (z_d hX4_label_0 0 rfl) (by decide) ?_
  refine lv_istore_n (lv' := [(2, .int 0), (0, .ref (Ac 0)), (1, .ref (As 0))]) hx hb (z_d hX4_label_0 1 rfl) rfl hl (by decide) rfl (fun ls hl => ?_)
  refine lv_iconst (v := 0) hx hb (z_d hX4_label_0 2 rfl) (by decide) ?_
  refine lv_istore_n (lv' := [(3, .int 0), (2, .int 0), (0, .ref (Ac 0)), (1, .ref (As 0))]) hx hb (z_d hX4_label_0 3 rfl) rfl hl (by decide) rfl (fun ls hl => ?_)
  refine lv_iconst (v := 0) hx hb (z_d hX4_label_0 4 rfl) (by decide) ?_
  refine lv_istore (lv' := [(4, .int 0), (3, .int 0), (2, .int 0), (0, .ref (Ac 0)), (1, .ref (As 0))]) hx hb (z_d hX4_label_0 5 rfl) hl (by decide) rfl (fun ls hl => ?_)
  refine lv_iconst (v := 0) hx hb (z_d hX4_label_0 6 rfl) (by decide) ?_
  refine lv_istore (lv' := [(5, .int 0), (4, .int 0), (3, .int 0), (2, .int 0), (0, .ref (Ac 0)), (1, .ref (As 0))]) hx hb (z_d hX4_label_0 7 rfl) hl (by decide) rfl (fun ls hl => ?_)
  refine lv_iconst (v := 0) hx hb (z_d hX4_label_0 8 rfl) (by decide) ?_
  refine lv_istore (lv' := [(6, .int 0), (5, .int 0), (4, .int 0), (3, .int 0), (2, .int 0), (0, .ref (Ac 0)), (1, .ref (As 0))]) hx hb (z_d hX4_label_0 9 rfl) hl (by decide) rfl (fun ls hl => ?_)
  refine z_bnd hF (fun q11 hq11 hF => ?_)
  refine L13  _ _ _ hq11 _ _ ls hP hD hS (lv_sub hl [5, 6, 4, 3, 2, 1, 0] rfl) (fun H locs ls hP hD hS hl => ?_)
  obtain rfl := Option.some.inj hF
  subst hQ
  subst hA
  exact W.vret hx hb hr (fun t ht hW => zq_mu (by rw [ht]; exact zfl hP) (hS.F ht)) hS.2.2 (z_d hX4_label_0 57 rfl)
def rm_X4_survey : Room := { frames := 4, cells := 0, slots := 0, locals := 98 }
set_option maxRecDepth 100000 in
set_option maxHeartbeats 4000000 in
theorem c_X4_survey (l : Launch) (Z : zZ) (Ac : Nat → Nat) (As : Nat → Nat) (C : t_Scenes) (S : t_Script) (R : t_Scenes) (hF : X4_survey C S = some R) : zMU l yX4_survey (zw yX4_survey cX4_survey 2 none) rm_X4_survey Z [.ref (Ac 0), .ref (As 0)] (List.flatten [w_Scenes Z.2.1 Ac C, w_Script Z.2.1 As S]) (List.flatten [w_Scenes Z.2.1 Ac R, w_Script Z.2.1 As S]) none := by
  refine zMU_of (by decide) (Nat.le_of_ble_eq_true rfl) (fun p e s m below meth c hx hb hr hml hown hts hlocks hK A hA Q hQ ls hl hP hD hS => ?_)
  unfold X4_survey at hF
  have hl : lv_has ls 2 [(0, .ref (Ac 0)), (1, .ref (As 0))] := hl
  have hown : s.vm.findClass RX4 = some m.cls := hown
  have hP : va_P Z.1 vwCl (l_Scenes Z.2.1 Ac C.1 C.2.1 C.2.2.1 C.2.2.2.1 C.2.2.2.2.1 C.2.2.2.2.2.1 C.2.2.2.2.2.2.1 C.2.2.2.2.2.2.2.1 C.2.2.2.2.2.2.2.2.1 C.2.2.2.2.2.2.2.2.2.1 C.2.2.2.2.2.2.2.2.2.2.1 C.2.2.2.2.2.2.2.2.2.2.2 ++ [w_Script Z.2.1 As S]).flatten s.heap := zfr hP
  have hD : va_D A (l_Scenes Z.2.1 Ac C.1 C.2.1 C.2.2.1 C.2.2.2.1 C.2.2.2.2.1 C.2.2.2.2.2.1 C.2.2.2.2.2.2.1 C.2.2.2.2.2.2.2.1 C.2.2.2.2.2.2.2.2.1 C.2.2.2.2.2.2.2.2.2.1 C.2.2.2.2.2.2.2.2.2.2.1 C.2.2.2.2.2.2.2.2.2.2.2 ++ [w_Script Z.2.1 As S]).flatten := zfrD hD
  refine lv_aload_n hx hb (z_d hX4_survey_0 0 rfl) rfl (lv_at hl 0 rfl) ?_
  refine lv_aload_n hx hb (z_d hX4_survey_0 1 rfl) rfl (lv_at hl 1 rfl) ?_
  refine z_bnd hF (fun q1 hq1 hF => ?_)
  refine z_mu0 (z_rV (As := [.ref (As 0)]) (rest := []) hx hb hml hown hts vt_X4_gather (c_X4_gather l Z Ac As C S _ hq1) rfl rfl ⟨Nat.le_of_ble_eq_true rfl, Nat.le_of_ble_eq_true rfl⟩ k_m_X4_58 zPmu_blind (z_recv (q := (RX4, TX4, 12)) (ci := 4) (q0 := 0) hK (zP_reg hP 0 rfl) rfl rfl) (z_prem hK (zfl hP) (zflD hD)) rfl hl.1 (Nat.le_of_ble_eq_true rfl) (z_d hX4_survey_0 2 rfl) ⟨Nat.zero_le _, Nat.zero_le _⟩) hS (zflD hD) (zadr2 (adr_Scenes _ _ _ _) (adr_Script _ _ _ _)) (fun H locs hP hD hS => ?_)
  have hP : va_P Z.1 vwCl (l_Scenes Z.2.1 Ac q1.1 q1.2.1 q1.2.2.1 q1.2.2.2.1 q1.2.2.2.2.1 q1.2.2.2.2.2.1 q1.2.2.2.2.2.2.1 q1.2.2.2.2.2.2.2.1 q1.2.2.2.2.2.2.2.2.1 q1.2.2.2.2.2.2.2.2.2.1 q1.2.2.2.2.2.2.2.2.2.2.1 q1.2.2.2.2.2.2.2.2.2.2.2 ++ [w_Script Z.2.1 As S]).flatten H := zfr hP
  have hD : va_D A (l_Scenes Z.2.1 Ac q1.1 q1.2.1 q1.2.2.1 q1.2.2.2.1 q1.2.2.2.2.1 q1.2.2.2.2.2.1 q1.2.2.2.2.2.2.1 q1.2.2.2.2.2.2.2.1 q1.2.2.2.2.2.2.2.2.1 q1.2.2.2.2.2.2.2.2.2.1 q1.2.2.2.2.2.2.2.2.2.2.1 q1.2.2.2.2.2.2.2.2.2.2.2 ++ [w_Script Z.2.1 As S]).flatten := zfrD hD
  refine W.eq (g2 := F0 m 5 ls []) rfl ?_
  refine lv_aload_n hx hb (z_d hX4_survey_0 3 rfl) rfl (lv_at hl 0 rfl) ?_
  refine lv_aload_n hx hb (z_d hX4_survey_0 4 rfl) rfl (lv_at hl 1 rfl) ?_
  refine z_bnd hF (fun q2 hq2 hF => ?_)
  refine z_mu0 (z_rV (As := [.ref (As 0)]) (rest := []) hx hb hml hown hts vt_X4_findCarriedNames (c_X4_findCarriedNames l Z Ac As q1 S _ hq2) rfl rfl ⟨Nat.le_of_ble_eq_true rfl, Nat.le_of_ble_eq_true rfl⟩ k_m_X4_62 zPmu_blind (z_recv (q := (RX4, TX4, 12)) (ci := 4) (q0 := 0) hK (zP_reg hP 0 rfl) rfl rfl) (z_prem hK (zfl hP) (zflD hD)) rfl hl.1 (Nat.le_of_ble_eq_true rfl) (z_d hX4_survey_0 5 rfl) ⟨Nat.zero_le _, Nat.zero_le _⟩) hS (zflD hD) (zadr2 (adr_Scenes _ _ _ _) (adr_Script _ _ _ _)) (fun H locs hP hD hS => ?_)
  have hP : va_P Z.1 vwCl (l_Scenes Z.2.1 Ac q2.1 q2.2.1 q2.2.2.1 q2.2.2.2.1 q2.2.2.2.2.1 q2.2.2.2.2.2.1 q2.2.2.2.2.2.2.1 q2.2.2.2.2.2.2.2.1 q2.2.2.2.2.2.2.2.2.1 q2.2.2.2.2.2.2.2.2.2.1 q2.2.2.2.2.2.2.2.2.2.2.1 q2.2.2.2.2.2.2.2.2.2.2.2 ++ [w_Script Z.2.1 As S]).flatten H := zfr hP
  have hD : va_D A (l_Scenes Z.2.1 Ac q2.1 q2.2.1 q2.2.2.1 q2.2.2.2.1 q2.2.2.2.2.1 q2.2.2.2.2.2.1 q2.2.2.2.2.2.2.1 q2.2.2.2.2.2.2.2.1 q2.2.2.2.2.2.2.2.2.1 q2.2.2.2.2.2.2.2.2.2.1 q2.2.2.2.2.2.2.2.2.2.2.1 q2.2.2.2.2.2.2.2.2.2.2.2 ++ [w_Script Z.2.1 As S]).flatten := zfrD hD
  refine W.eq (g2 := F0 m 10 ls []) rfl ?_
  refine lv_aload_n hx hb (z_d hX4_survey_0 6 rfl) rfl (lv_at hl 0 rfl) ?_
  refine lv_aload_n hx hb (z_d hX4_survey_0 7 rfl) rfl (lv_at hl 1 rfl) ?_
  refine z_bnd hF (fun q3 hq3 hF => ?_)
  refine z_mu0 (z_rV (As := [.ref (As 0)]) (rest := []) hx hb hml hown hts vt_X4_findLimits (c_X4_findLimits l Z Ac As q2 S _ hq3) rfl rfl ⟨Nat.le_of_ble_eq_true rfl, Nat.le_of_ble_eq_true rfl⟩ k_m_X4_65 zPmu_blind (z_recv (q := (RX4, TX4, 12)) (ci := 4) (q0 := 0) hK (zP_reg hP 0 rfl) rfl rfl) (z_prem hK (zfl hP) (zflD hD)) rfl hl.1 (Nat.le_of_ble_eq_true rfl) (z_d hX4_survey_0 8 rfl) ⟨Nat.zero_le _, Nat.zero_le _⟩) hS (zflD hD) (zadr2 (adr_Scenes _ _ _ _) (adr_Script _ _ _ _)) (fun H locs hP hD hS => ?_)
  have hP : va_P Z.1 vwCl (l_Scenes Z.2.1 Ac q3.1 q3.2.1 q3.2.2.1 q3.2.2.2.1 q3.2.2.2.2.1 q3.2.2.2.2.2.1 q3.2.2.2.2.2.2.1 q3.2.2.2.2.2.2.2.1 q3.2.2.2.2.2.2.2.2.1 q3.2.2.2.2.2.2.2.2.2.1 q3.2.2.2.2.2.2.2.2.2.2.1 q3.2.2.2.2.2.2.2.2.2.2.2 ++ [w_Script Z.2.1 As S]).flatten H := zfr hP
  have hD : va_D A (l_Scenes Z.2.1 Ac q3.1 q3.2.1 q3.2.2.1 q3.2.2.2.1 q3.2.2.2.2.1 q3.2.2.2.2.2.1 q3.2.2.2.2.2.2.1 q3.2.2.2.2.2.2.2.1 q3.2.2.2.2.2.2.2.2.1 q3.2.2.2.2.2.2.2.2.2.1 q3.2.2.2.2.2.2.2.2.2.2.1 q3.2.2.2.2.2.2.2.2.2.2.2 ++ [w_Script Z.2.1 As S]).flatten := zfrD hD
  refine W.eq (g2 := F0 m 15 ls []) rfl ?_
  refine lv_aload_n hx hb (z_d hX4_survey_0 9 rfl) rfl (lv_at hl 0 rfl) ?_
  refine lv_aload_n hx hb (z_d hX4_survey_0 10 rfl) rfl (lv_at hl 1 rfl) ?_
  refine z_bnd hF (fun q4 hq4 hF => ?_)
  refine z_mu0 (z_rV (As := [.ref (As 0)]) (rest := []) hx hb hml hown hts vt_X4_label (c_X4_label l Z Ac As q3 S _ hq4) rfl rfl ⟨Nat.le_of_ble_eq_true rfl, Nat.le_of_ble_eq_true rfl⟩ k_m_X4_68 zPmu_blind (z_recv (q := (RX4, TX4, 12)) (ci := 4) (q0 := 0) hK (zP_reg hP 0 rfl) rfl rfl) (z_prem hK (zfl hP) (zflD hD)) rfl hl.1 (Nat.le_of_ble_eq_true rfl) (z_d hX4_survey_0 11 rfl) ⟨Nat.zero_le _, Nat.zero_le _⟩) hS (zflD hD) (zadr2 (adr_Scenes _ _ _ _) (adr_Script _ _ _ _)) (fun H locs hP hD hS => ?_)
  have hP : va_P Z.1 vwCl (l_Scenes Z.2.1 Ac q4.1 q4.2.1 q4.2.2.1 q4.2.2.2.1 q4.2.2.2.2.1 q4.2.2.2.2.2.1 q4.2.2.2.2.2.2.1 q4.2.2.2.2.2.2.2.1 q4.2.2.2.2.2.2.2.2.1 q4.2.2.2.2.2.2.2.2.2.1 q4.2.2.2.2.2.2.2.2.2.2.1 q4.2.2.2.2.2.2.2.2.2.2.2 ++ [w_Script Z.2.1 As S]).flatten H := zfr hP
  have hD : va_D A (l_Scenes Z.2.1 Ac q4.1 q4.2.1 q4.2.2.1 q4.2.2.2.1 q4.2.2.2.2.1 q4.2.2.2.2.2.1 q4.2.2.2.2.2.2.1 q4.2.2.2.2.2.2.2.1 q4.2.2.2.2.2.2.2.2.1 q4.2.2.2.2.2.2.2.2.2.1 q4.2.2.2.2.2.2.2.2.2.2.1 q4.2.2.2.2.2.2.2.2.2.2.2 ++ [w_Script Z.2.1 As S]).flatten := zfrD hD
  refine W.eq (g2 := F0 m 20 ls []) rfl ?_
  obtain rfl := Option.some.inj hF
  subst hQ
  subst hA
  exact W.vret hx hb hr (fun t ht hW => zq_mu (by rw [ht]; exact zfl hP) (hS.F ht)) hS.2.2 (z_d hX4_survey_0 12 rfl)
def rm_X4_areTwins : Room := { frames := 1, cells := 0, slots := 0, locals := 21 }
set_option maxRecDepth 100000 in
set_option maxHeartbeats 4000000 in
theorem c_X4_areTwins (l : Launch) (Z : zZ) (Ac : Nat → Nat) (C : t_Scenes) (p1 : Int32) (p2 : Int32) (R : Int32) (hF : X4_areTwins C p1 p2 = R) : zRO l yX4_areTwins (zw yX4_areTwins cX4_areTwins 3 (some .boolean)) rm_X4_areTwins Z [.ref (Ac 0), .int p1, .int p2] (w_Scenes Z.2.1 Ac C) (some (.int R)) := by
  refine zRO_of (by decide) (Nat.le_of_ble_eq_true rfl) (fun p e s m below meth c hx hb hr hml hown hts hlocks hK Q hQ ls hl hP hS => ?_)
  unfold X4_areTwins at hF
  have hl : lv_has ls 3 [(0, .ref (Ac 0)), (1, .int p1), (2, .int p2)] := hl
  have hown : s.vm.findClass RX4 = some m.cls := hown
  have hP : va_P Z.1 vwCl (l_Scenes Z.2.1 Ac C.1 C.2.1 C.2.2.1 C.2.2.2.1 C.2.2.2.2.1 C.2.2.2.2.2.1 C.2.2.2.2.2.2.1 C.2.2.2.2.2.2.2.1 C.2.2.2.2.2.2.2.2.1 C.2.2.2.2.2.2.2.2.2.1 C.2.2.2.2.2.2.2.2.2.2.1 C.2.2.2.2.2.2.2.2.2.2.2).flatten s.heap := hP
  refine lv_aload_n hx hb (z_d hX4_areTwins_0 0 rfl) rfl (lv_at hl 0 rfl) ?_
  refine va_get (D := Z.1) (ci := 4) (v := .ref (Ac 7)) (C := RX4) (T := TX4) (N := 12) hx hb hts zinX4 hown hK.1 (zP_reg hP 0 rfl) 0 rfl rfl 6 (by decide) (hts _ k_f_X4_36) (fun _ h9 => h9) rfl (z_d hX4_areTwins_0 1 rfl) ?_
  refine lv_iload_n hx hb (z_d hX4_areTwins_0 2 rfl) rfl (lv_at hl 1 rfl) ?_
  refine z_let hF (fun q1 hq1 hF => ?_)
  refine z_ro_i (z_rV (As := [.int p1]) (rest := []) hx hb hml hown hts vt_X3_at (c_rAt l Z 60 (Ac 7) (Ac 8) (by decide) C.2.2.2.2.2.2.1 p1 _ hq1) rfl rfl ⟨Nat.le_of_ble_eq_true rfl, Nat.le_of_ble_eq_true rfl⟩ k_m_X4_97 zPro_blind (z_recv (q := (RX3, TX3, 1)) (ci := 3) (q0 := 0) hK (zP_reg hP 4 rfl) rfl rfl) (z_prec hK (zP_reg hP 4 rfl)) rfl hl.1 (Nat.le_of_ble_eq_true rfl) (z_d hX4_areTwins_0 3 rfl) ⟨Nat.zero_le _, Nat.zero_le _⟩) hS hP (fun H locs hP hS => ?_)
  refine lv_aload_n hx hb (z_d hX4_areTwins_0 4 rfl) rfl (lv_at hl 0 rfl) ?_
  refine va_get (D := Z.1) (ci := 4) (v := .ref (Ac 7)) (C := RX4) (T := TX4) (N := 12) hx hb hts zinX4 hown hK.1 (zP_reg hP 0 rfl) 0 rfl rfl 6 (by decide) (hts _ k_f_X4_36) (fun _ h9 => h9) rfl (z_d hX4_areTwins_0 5 rfl) ?_
  refine lv_iload_n hx hb (z_d hX4_areTwins_0 6 rfl) rfl (lv_at hl 2 rfl) ?_
  refine z_let hF (fun q2 hq2 hF => ?_)
  refine z_ro_i (z_rV (As := [.int p2]) (rest := [.int q1]) hx hb hml hown hts vt_X3_at (c_rAt l Z 60 (Ac 7) (Ac 8) (by decide) C.2.2.2.2.2.2.1 p2 _ hq2) rfl rfl ⟨Nat.le_of_ble_eq_true rfl, Nat.le_of_ble_eq_true rfl⟩ k_m_X4_97 zPro_blind (z_recv (q := (RX3, TX3, 1)) (ci := 3) (q0 := 0) hK (zP_reg hP 4 rfl) rfl rfl) (z_prec hK (zP_reg hP 4 rfl)) rfl hl.1 (Nat.le_of_ble_eq_true rfl) (z_d hX4_areTwins_0 7 rfl) ⟨Nat.zero_le _, Nat.zero_le _⟩) hS hP (fun H locs hP hS => ?_)
  refine lv_icmp_ne (tgt := 61) hx hb (z_d hX4_areTwins_0 8 rfl) (by decide) (fun hc16 => ?_) (fun hc16 => ?_)
  · have hF := z_neg hc16 hF
    refine lv_iconst (v := 0) hx hb (z_d hX4_areTwins_0 29 rfl) (by decide) ?_
    have hz9 : narrow .boolean (.int 0) = .int 0 := rfl
    obtain rfl := hF
    subst hQ
    exact W.zret hx hb hr hz9 (fun t ht hW => zq_ro (hS.F ht)) hS.2.2 (z_d hX4_areTwins_0 30 rfl)
  · have hF := z_pos hc16 hF
    refine lv_aload_n hx hb (z_d hX4_areTwins_0 9 rfl) rfl (lv_at hl 0 rfl) ?_
    refine va_get (D := Z.1) (ci := 4) (v := .ref (Ac 9)) (C := RX4) (T := TX4) (N := 12) hx hb hts zinX4 hown hK.1 (zP_reg hP 0 rfl) 0 rfl rfl 7 (by decide) (hts _ k_f_X4_39) (fun _ h9 => h9) rfl (z_d hX4_areTwins_0 10 rfl) ?_
    refine lv_iload_n hx hb (z_d hX4_areTwins_0 11 rfl) rfl (lv_at hl 1 rfl) ?_
    refine z_let hF (fun q3 hq3 hF => ?_)
    refine z_ro_i (z_rV (As := [.int p1]) (rest := []) hx hb hml hown hts vt_X3_at (c_rAt l Z 60 (Ac 9) (Ac 10) (by decide) C.2.2.2.2.2.2.2.1 p1 _ hq3) rfl rfl ⟨Nat.le_of_ble_eq_true rfl, Nat.le_of_ble_eq_true rfl⟩ k_m_X4_97 zPro_blind (z_recv (q := (RX3, TX3, 1)) (ci := 3) (q0 := 0) hK (zP_reg hP 5 rfl) rfl rfl) (z_prec hK (zP_reg hP 5 rfl)) rfl hl.1 (Nat.le_of_ble_eq_true rfl) (z_d hX4_areTwins_0 12 rfl) ⟨Nat.zero_le _, Nat.zero_le _⟩) hS hP (fun H locs hP hS => ?_)
    refine lv_aload_n hx hb (z_d hX4_areTwins_0 13 rfl) rfl (lv_at hl 0 rfl) ?_
    refine va_get (D := Z.1) (ci := 4) (v := .ref (Ac 9)) (C := RX4) (T := TX4) (N := 12) hx hb hts zinX4 hown hK.1 (zP_reg hP 0 rfl) 0 rfl rfl 7 (by decide) (hts _ k_f_X4_39) (fun _ h9 => h9) rfl (z_d hX4_areTwins_0 14 rfl) ?_
    refine lv_iload_n hx hb (z_d hX4_areTwins_0 15 rfl) rfl (lv_at hl 2 rfl) ?_
    refine z_let hF (fun q4 hq4 hF => ?_)
    refine z_ro_i (z_rV (As := [.int p2]) (rest := [.int q3]) hx hb hml hown hts vt_X3_at (c_rAt l Z 60 (Ac 9) (Ac 10) (by decide) C.2.2.2.2.2.2.2.1 p2 _ hq4) rfl rfl ⟨Nat.le_of_ble_eq_true rfl, Nat.le_of_ble_eq_true rfl⟩ k_m_X4_97 zPro_blind (z_recv (q := (RX3, TX3, 1)) (ci := 3) (q0 := 0) hK (zP_reg hP 5 rfl) rfl rfl) (z_prec hK (zP_reg hP 5 rfl)) rfl hl.1 (Nat.le_of_ble_eq_true rfl) (z_d hX4_areTwins_0 16 rfl) ⟨Nat.zero_le _, Nat.zero_le _⟩) hS hP (fun H locs hP hS => ?_)
    refine lv_icmp_ne (tgt := 61) hx hb (z_d hX4_areTwins_0 17 rfl) (by decide) (fun hc35 => ?_) (fun hc35 => ?_)
    · have hF := z_neg hc35 hF
      refine lv_iconst (v := 0) hx hb (z_d hX4_areTwins_0 29 rfl) (by decide) ?_
      have hz9 : narrow .boolean (.int 0) = .int 0 := rfl
      obtain rfl := hF
      subst hQ
      exact W.zret hx hb hr hz9 (fun t ht hW => zq_ro (hS.F ht)) hS.2.2 (z_d hX4_areTwins_0 30 rfl)
    · have hF := z_pos hc35 hF
      refine lv_aload_n hx hb (z_d hX4_areTwins_0 18 rfl) rfl (lv_at hl 0 rfl) ?_
      refine va_get (D := Z.1) (ci := 4) (v := .ref (Ac 11)) (C := RX4) (T := TX4) (N := 12) hx hb hts zinX4 hown hK.1 (zP_reg hP 0 rfl) 0 rfl rfl 8 (by decide) (hts _ k_f_X4_42) (fun _ h9 => h9) rfl (z_d hX4_areTwins_0 19 rfl) ?_
      refine lv_iload_n hx hb (z_d hX4_areTwins_0 20 rfl) rfl (lv_at hl 1 rfl) ?_
      refine z_let hF (fun q5 hq5 hF => ?_)
      refine z_ro_i (z_rV (As := [.int p1]) (rest := []) hx hb hml hown hts vt_X3_at (c_rAt l Z 60 (Ac 11) (Ac 12) (by decide) C.2.2.2.2.2.2.2.2.1 p1 _ hq5) rfl rfl ⟨Nat.le_of_ble_eq_true rfl, Nat.le_of_ble_eq_true rfl⟩ k_m_X4_97 zPro_blind (z_recv (q := (RX3, TX3, 1)) (ci := 3) (q0 := 0) hK (zP_reg hP 6 rfl) rfl rfl) (z_prec hK (zP_reg hP 6 rfl)) rfl hl.1 (Nat.le_of_ble_eq_true rfl) (z_d hX4_areTwins_0 21 rfl) ⟨Nat.zero_le _, Nat.zero_le _⟩) hS hP (fun H locs hP hS => ?_)
      refine lv_aload_n hx hb (z_d hX4_areTwins_0 22 rfl) rfl (lv_at hl 0 rfl) ?_
      refine va_get (D := Z.1) (ci := 4) (v := .ref (Ac 11)) (C := RX4) (T := TX4) (N := 12) hx hb hts zinX4 hown hK.1 (zP_reg hP 0 rfl) 0 rfl rfl 8 (by decide) (hts _ k_f_X4_42) (fun _ h9 => h9) rfl (z_d hX4_areTwins_0 23 rfl) ?_
      refine lv_iload_n hx hb (z_d hX4_areTwins_0 24 rfl) rfl (lv_at hl 2 rfl) ?_
      refine z_let hF (fun q6 hq6 hF => ?_)
      refine z_ro_i (z_rV (As := [.int p2]) (rest := [.int q5]) hx hb hml hown hts vt_X3_at (c_rAt l Z 60 (Ac 11) (Ac 12) (by decide) C.2.2.2.2.2.2.2.2.1 p2 _ hq6) rfl rfl ⟨Nat.le_of_ble_eq_true rfl, Nat.le_of_ble_eq_true rfl⟩ k_m_X4_97 zPro_blind (z_recv (q := (RX3, TX3, 1)) (ci := 3) (q0 := 0) hK (zP_reg hP 6 rfl) rfl rfl) (z_prec hK (zP_reg hP 6 rfl)) rfl hl.1 (Nat.le_of_ble_eq_true rfl) (z_d hX4_areTwins_0 25 rfl) ⟨Nat.zero_le _, Nat.zero_le _⟩) hS hP (fun H locs hP hS => ?_)
      refine lv_icmp_ne (tgt := 61) hx hb (z_d hX4_areTwins_0 26 rfl) (by decide) (fun hc54 => ?_) (fun hc54 => ?_)
      · have hF := z_neg hc54 hF
        refine lv_iconst (v := 0) hx hb (z_d hX4_areTwins_0 29 rfl) (by decide) ?_
        have hz9 : narrow .boolean (.int 0) = .int 0 := rfl
        obtain rfl := hF
        subst hQ
        exact W.zret hx hb hr hz9 (fun t ht hW => zq_ro (hS.F ht)) hS.2.2 (z_d hX4_areTwins_0 30 rfl)
      · have hF := z_pos hc54 hF
        refine lv_iconst (v := 1) hx hb (z_d hX4_areTwins_0 27 rfl) (by decide) ?_
        refine lv_goto (tgt := 62) hx hb (z_d hX4_areTwins_0 28 rfl) (by decide) ?_
        have hz9 : narrow .boolean (.int 1) = .int 1 := rfl
        obtain rfl := hF
        subst hQ
        exact W.zret hx hb hr hz9 (fun t ht hW => zq_ro (hS.F ht)) hS.2.2 (z_d hX4_areTwins_0 30 rfl)
def rm_X4_hasTwins : Room := { frames := 2, cells := 0, slots := 0, locals := 43 }
set_option maxRecDepth 100000 in
set_option maxHeartbeats 4000000 in
theorem c_X4_hasTwins (l : Launch) (Z : zZ) (Ac : Nat → Nat) (C : t_Scenes) (R : Int32) (hF : X4_hasTwins C = some R) : zRO l yX4_hasTwins (zw yX4_hasTwins cX4_hasTwins 3 (some .boolean)) rm_X4_hasTwins Z [.ref (Ac 0)] (w_Scenes Z.2.1 Ac C) (some (.int R)) := by
  refine zRO_of (by decide) (Nat.le_of_ble_eq_true rfl) (fun p e s m below meth c hx hb hr hml hown hts hlocks hK Q hQ ls hl hP hS => ?_)
  unfold X4_hasTwins at hF
  have hl : lv_has ls 3 [(0, .ref (Ac 0))] := hl
  have hown : s.vm.findClass RX4 = some m.cls := hown
  have hP : va_P Z.1 vwCl (l_Scenes Z.2.1 Ac C.1 C.2.1 C.2.2.1 C.2.2.2.1 C.2.2.2.2.1 C.2.2.2.2.2.1 C.2.2.2.2.2.2.1 C.2.2.2.2.2.2.2.1 C.2.2.2.2.2.2.2.2.1 C.2.2.2.2.2.2.2.2.2.1 C.2.2.2.2.2.2.2.2.2.2.1 C.2.2.2.2.2.2.2.2.2.2.2).flatten s.heap := hP
  have L2 : ∀  (n : Nat) (v : Int32) (X : (Unit) ⊕ (Int32)) (hF : zloop (b_X4_hasTwins_2 C ) n v = some X) (H : Heap) (locs : List Loc) (ls : Array Slot) (hP : va_P Z.1 vwCl (l_Scenes Z.2.1 Ac C.1 C.2.1 C.2.2.1 C.2.2.2.1 C.2.2.2.2.1 C.2.2.2.2.2.1 C.2.2.2.2.2.2.1 C.2.2.2.2.2.2.2.1 C.2.2.2.2.2.2.2.2.1 C.2.2.2.2.2.2.2.2.2.1 C.2.2.2.2.2.2.2.2.2.2.1 C.2.2.2.2.2.2.2.2.2.2.2).flatten H) (hS : va_S (fun _ => False) s.heap H locs) (hl : lv_has ls 3 [(0, .ref (Ac 0)), (1, .int v)]) (K1 : ∀ Y, X = .inl Y → ∀ (H : Heap) (locs : List Loc) (ls : Array Slot) (hP : va_P Z.1 vwCl (l_Scenes Z.2.1 Ac C.1 C.2.1 C.2.2.1 C.2.2.2.1 C.2.2.2.2.1 C.2.2.2.2.2.1 C.2.2.2.2.2.2.1 C.2.2.2.2.2.2.2.1 C.2.2.2.2.2.2.2.2.1 C.2.2.2.2.2.2.2.2.2.1 C.2.2.2.2.2.2.2.2.2.2.1 C.2.2.2.2.2.2.2.2.2.2.2).flatten H) (hS : va_S (fun _ => False) s.heap H locs) (hl : lv_has ls 3 [(0, .ref (Ac 0))]), W p l e rm_X4_hasTwins s m ([.ref (Ac 0)] : List Value).toArray below meth c H locs 0 0 Q (F0 m 40 ls [])) (K2 : ∀ Y, X = .inr Y → ∀ (H : Heap) (locs : List Loc) (ls : Array Slot) (hP : va_P Z.1 vwCl (l_Scenes Z.2.1 Ac C.1 C.2.1 C.2.2.1 C.2.2.2.1 C.2.2.2.2.1 C.2.2.2.2.2.1 C.2.2.2.2.2.2.1 C.2.2.2.2.2.2.2.1 C.2.2.2.2.2.2.2.2.1 C.2.2.2.2.2.2.2.2.2.1 C.2.2.2.2.2.2.2.2.2.2.1 C.2.2.2.2.2.2.2.2.2.2.2).flatten H) (hS : va_S (fun _ => False) s.heap H locs) (hz9 : narrow .boolean (.int Y) = .int Y), W p l e rm_X4_hasTwins s m ([.ref (Ac 0)] : List Value).toArray below meth c H locs 0 0 Q (F0 m 27 ls [.int Y])), W p l e rm_X4_hasTwins s m ([.ref (Ac 0)] : List Value).toArray below meth c H locs 0 0 Q (F0 m 2 ls []) := by
    skip
    refine z_loopE (fun rec ih v X hF H locs ls hP hS hl K1 K2 => ?_)
    unfold b_X4_hasTwins_2 at hF
    have L12 : ∀ (x1 : Int32) (n : Nat) (v : Int32) (X : (Unit) ⊕ (Int32)) (hF : zloop (b_X4_hasTwins_12 C x1) n v = some X) (H : Heap) (locs : List Loc) (ls : Array Slot) (hP : va_P Z.1 vwCl (l_Scenes Z.2.1 Ac C.1 C.2.1 C.2.2.1 C.2.2.2.1 C.2.2.2.2.1 C.2.2.2.2.2.1 C.2.2.2.2.2.2.1 C.2.2.2.2.2.2.2.1 C.2.2.2.2.2.2.2.2.1 C.2.2.2.2.2.2.2.2.2.1 C.2.2.2.2.2.2.2.2.2.2.1 C.2.2.2.2.2.2.2.2.2.2.2).flatten H) (hS : va_S (fun _ => False) s.heap H locs) (hl : lv_has ls 3 [(0, .ref (Ac 0)), (1, .int x1), (2, .int v)]) (K1 : ∀ Y, X = .inl Y → ∀ (H : Heap) (locs : List Loc) (ls : Array Slot) (hP : va_P Z.1 vwCl (l_Scenes Z.2.1 Ac C.1 C.2.1 C.2.2.1 C.2.2.2.1 C.2.2.2.2.1 C.2.2.2.2.2.1 C.2.2.2.2.2.2.1 C.2.2.2.2.2.2.2.1 C.2.2.2.2.2.2.2.2.1 C.2.2.2.2.2.2.2.2.2.1 C.2.2.2.2.2.2.2.2.2.2.1 C.2.2.2.2.2.2.2.2.2.2.2).flatten H) (hS : va_S (fun _ => False) s.heap H locs) (hl : lv_has ls 3 [(0, .ref (Ac 0)), (1, .int x1)]), W p l e rm_X4_hasTwins s m ([.ref (Ac 0)] : List Value).toArray below meth c H locs 0 0 Q (F0 m 34 ls [])) (K2 : ∀ Y, X = .inr Y → ∀ (H : Heap) (locs : List Loc) (ls : Array Slot) (hP : va_P Z.1 vwCl (l_Scenes Z.2.1 Ac C.1 C.2.1 C.2.2.1 C.2.2.2.1 C.2.2.2.2.1 C.2.2.2.2.2.1 C.2.2.2.2.2.2.1 C.2.2.2.2.2.2.2.1 C.2.2.2.2.2.2.2.2.1 C.2.2.2.2.2.2.2.2.2.1 C.2.2.2.2.2.2.2.2.2.2.1 C.2.2.2.2.2.2.2.2.2.2.2).flatten H) (hS : va_S (fun _ => False) s.heap H locs) (hz9 : narrow .boolean (.int Y) = .int Y), W p l e rm_X4_hasTwins s m ([.ref (Ac 0)] : List Value).toArray below meth c H locs 0 0 Q (F0 m 27 ls [.int Y])), W p l e rm_X4_hasTwins s m ([.ref (Ac 0)] : List Value).toArray below meth c H locs 0 0 Q (F0 m 12 ls []) := by
      intro x1
      refine z_loopE (fun rec ih v X hF H locs ls hP hS hl K1 K2 => ?_)
      unfold b_X4_hasTwins_12 at hF
      refine lv_iload_n hx hb (z_d hX4_hasTwins_0 8 rfl) rfl (lv_at hl 2 rfl) ?_
      refine lv_iload_n hx hb (z_d hX4_hasTwins_0 9 rfl) rfl (lv_at hl 1 rfl) ?_
      refine lv_icmp_ge (tgt := 34) hx hb (z_d hX4_hasTwins_0 10 rfl) (by decide) (fun hc14 => ?_) (fun hc14 => ?_)
      · have hF := z_pos hc14 hF
        obtain rfl := Option.some.inj hF
        exact K1 _ rfl _ _ ls hP hS (lv_sub hl [0, 1] rfl)
      · have hF := z_neg hc14 hF
        refine lv_aload_n hx hb (z_d hX4_hasTwins_0 11 rfl) rfl (lv_at hl 0 rfl) ?_
        refine lv_iload_n hx hb (z_d hX4_hasTwins_0 12 rfl) rfl (lv_at hl 1 rfl) ?_
        refine lv_iload_n hx hb (z_d hX4_hasTwins_0 13 rfl) rfl (lv_at hl 2 rfl) ?_
        refine z_let hF (fun q1 hq1 hF => ?_)
        refine z_ro_i (z_rV (As := [.int x1, .int v]) (rest := []) hx hb hml hown hts vt_X4_areTwins (c_X4_areTwins l Z Ac C x1 v _ hq1) rfl rfl ⟨Nat.le_of_ble_eq_true rfl, Nat.le_of_ble_eq_true rfl⟩ k_m_X4_111 zPro_blind (z_recv (q := (RX4, TX4, 12)) (ci := 4) (q0 := 0) hK (zP_reg hP 0 rfl) rfl rfl) (z_prec hK hP) rfl hl.1 (Nat.le_of_ble_eq_true rfl) (z_d hX4_hasTwins_0 14 rfl) ⟨Nat.zero_le _, Nat.zero_le _⟩) hS hP (fun H locs hP hS => ?_)
        refine lv_if_eq (tgt := 28) hx hb (z_d hX4_hasTwins_0 15 rfl) (by decide) (fun hc23 => ?_) (fun hc23 => ?_)
        · have hF := z_pos hc23 hF
          refine z_let hF (fun u2 hu2 hF => ?_)
          refine lv_iinc (v := u2) (lv' := [(2, .int u2), (0, .ref (Ac 0)), (1, .int x1)]) hx hb (z_d hX4_hasTwins_0 18 rfl) hl (k := 2) rfl (z_inc1 hu2) (by decide) rfl (fun ls hl => ?_)
          refine lv_goto (tgt := 12) hx hb (z_d hX4_hasTwins_0 19 rfl) (by decide) ?_
          exact ih _ _ hF _ _ ls hP hS (lv_sub hl [1, 2, 0] rfl) K1 K2
        · have hF := z_neg hc23 hF
          refine lv_iconst (v := 1) hx hb (z_d hX4_hasTwins_0 16 rfl) (by decide) ?_
          have hz9 : narrow .boolean (.int 1) = .int 1 := rfl
          obtain rfl := Option.some.inj hF
          exact (K2 _ rfl _ _ ls hP hS hz9)
    refine lv_iload_n hx hb (z_d hX4_hasTwins_0 2 rfl) rfl (lv_at hl 1 rfl) ?_
    refine lv_aload_n hx hb (z_d hX4_hasTwins_0 3 rfl) rfl (lv_at hl 0 rfl) ?_
    refine va_get (D := Z.1) (ci := 4) (v := .int C.1) (C := RX4) (T := TX4) (N := 12) hx hb hts zinX4 hown hK.1 (zP_reg hP 0 rfl) 0 rfl rfl 0 (by decide) (hts _ k_f_X4_9) (fun _ h9 => h9) rfl (z_d hX4_hasTwins_0 4 rfl) ?_
    refine lv_icmp_ge (tgt := 40) hx hb (z_d hX4_hasTwins_0 5 rfl) (by decide) (fun hc7 => ?_) (fun hc7 => ?_)
    · have hF := z_pos hc7 hF
      obtain rfl := Option.some.inj hF
      exact K1 _ rfl _ _ ls hP hS (lv_sub hl [0] rfl)
    · have hF := z_neg hc7 hF
      refine lv_iconst (v := 0) hx hb (z_d hX4_hasTwins_0 6 rfl) (by decide) ?_
      refine lv_istore_n (lv' := [(2, .int 0), (0, .ref (Ac 0)), (1, .int v)]) hx hb (z_d hX4_hasTwins_0 7 rfl) rfl hl (by decide) rfl (fun ls hl => ?_)
      refine z_bnd hF (fun q3 hq3 hF => ?_)
      refine L12 v _ _ _ hq3 _ _ ls hP hS (lv_sub hl [1, 2, 0] rfl) (fun y4 e9 H locs ls hP hS hl => ?_) (fun r e9 H locs ls hP hS hz9 => ?_)
      · subst e9
        have hF := z_inl hF
        refine z_let hF (fun u5 hu5 hF => ?_)
        refine lv_iinc (v := u5) (lv' := [(1, .int u5), (0, .ref (Ac 0))]) hx hb (z_d hX4_hasTwins_0 20 rfl) hl (k := 1) rfl (z_inc1 hu5) (by decide) rfl (fun ls hl => ?_)
        refine lv_goto (tgt := 2) hx hb (z_d hX4_hasTwins_0 21 rfl) (by decide) ?_
        exact ih _ _ hF _ _ ls hP hS (lv_sub hl [1, 0] rfl) K1 K2
      · subst e9
        have hF := z_inr hF
        obtain rfl := Option.some.inj hF
        have h9 := K2 _ rfl _ _ ls hP hS hz9
        exact h9
  refine lv_iconst (v := 0) hx hb (z_d hX4_hasTwins_0 0 rfl) (by decide) ?_
  refine lv_istore_n (lv' := [(1, .int 0), (0, .ref (Ac 0))]) hx hb (z_d hX4_hasTwins_0 1 rfl) rfl hl (by decide) rfl (fun ls hl => ?_)
  refine z_bnd hF (fun q6 hq6 hF => ?_)
  refine L2  _ _ _ hq6 _ _ ls hP hS (lv_sub hl [1, 0] rfl) (fun y7 e9 H locs ls hP hS hl => ?_) (fun r e9 H locs ls hP hS hz9 => ?_)
  · subst e9
    have hF := z_inl hF
    refine lv_iconst (v := 0) hx hb (z_d hX4_hasTwins_0 22 rfl) (by decide) ?_
    have hz9 : narrow .boolean (.int 0) = .int 0 := rfl
    obtain rfl := Option.some.inj hF
    subst hQ
    exact W.zret hx hb hr hz9 (fun t ht hW => zq_ro (hS.F ht)) hS.2.2 (z_d hX4_hasTwins_0 23 rfl)
  · subst e9
    have hF := z_inr hF
    obtain rfl := Option.some.inj hF
    subst hQ
    exact W.zret hx hb hr hz9 (fun t ht hW => zq_ro (hS.F ht)) hS.2.2 (z_d hX4_hasTwins_0 17 rfl)

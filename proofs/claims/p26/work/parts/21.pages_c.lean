theorem vs_X1_leastPart : zSt yX1_leastPart cX1_leastPart 2 (some .int) 2 := ⟨zG_at 527 (by decide +kernel) (by decide +kernel), zG_at 30 (by decide +kernel) (by decide +kernel), zG_at 528 (by decide +kernel) (by decide +kernel), by decide +kernel⟩
theorem vs_X1_holdsNext : zSt yX1_holdsNext cX1_holdsNext 4 (some .boolean) 2 := ⟨zG_at 530 (by decide +kernel) (by decide +kernel), zG_at 30 (by decide +kernel) (by decide +kernel), zG_at 531 (by decide +kernel) (by decide +kernel), by decide +kernel⟩
theorem vt_X5_blanksAhead : zVt yX5_blanksAhead cX5_blanksAhead 2 (some .int) 1 := ⟨zG_at 540 (by decide +kernel) (by decide +kernel), zG_at 541 (by decide +kernel) (by decide +kernel), zG_at 27 (by decide +kernel) (by decide +kernel), zG_at 542 (by decide +kernel) (by decide +kernel), by decide +kernel⟩
theorem vt_X1_fill : zVt yX1_fill cX1_fill 2 none 1 := ⟨zG_at 558 (by decide +kernel) (by decide +kernel), zG_at 16 (by decide +kernel) (by decide +kernel), zG_at 30 (by decide +kernel) (by decide +kernel), zG_at 559 (by decide +kernel) (by decide +kernel), by decide +kernel⟩
theorem vt_X1_turnPage : zVt yX1_turnPage cX1_turnPage 1 none 0 := ⟨zG_at 550 (by decide +kernel) (by decide +kernel), zG_at 14 (by decide +kernel) (by decide +kernel), zG_at 30 (by decide +kernel) (by decide +kernel), zG_at 551 (by decide +kernel) (by decide +kernel), by decide +kernel⟩
theorem vs_X1_firstPart : zSt yX1_firstPart cX1_firstPart 3 (some .int) 3 := ⟨zG_at 561 (by decide +kernel) (by decide +kernel), zG_at 30 (by decide +kernel) (by decide +kernel), zG_at 562 (by decide +kernel) (by decide +kernel), by decide +kernel⟩
theorem vt_X1_noteBegin : zVt yX1_noteBegin cX1_noteBegin 4 none 2 := ⟨zG_at 568 (by decide +kernel) (by decide +kernel), zG_at 17 (by decide +kernel) (by decide +kernel), zG_at 30 (by decide +kernel) (by decide +kernel), zG_at 569 (by decide +kernel) (by decide +kernel), by decide +kernel⟩
theorem vt_X1_carryOver : zVt yX1_carryOver cX1_carryOver 4 none 2 := ⟨zG_at 573 (by decide +kernel) (by decide +kernel), zG_at 18 (by decide +kernel) (by decide +kernel), zG_at 30 (by decide +kernel) (by decide +kernel), zG_at 574 (by decide +kernel) (by decide +kernel), by decide +kernel⟩
theorem vt_X1_findNeeds : zVt yX1_findNeeds cX1_findNeeds 4 none 1 := ⟨zG_at 522 (by decide +kernel) (by decide +kernel), zG_at 12 (by decide +kernel) (by decide +kernel), zG_at 30 (by decide +kernel) (by decide +kernel), zG_at 523 (by decide +kernel) (by decide +kernel), by decide +kernel⟩
theorem vt_X1_setElement : zVt yX1_setElement cX1_setElement 6 none 2 := ⟨zG_at 554 (by decide +kernel) (by decide +kernel), zG_at 15 (by decide +kernel) (by decide +kernel), zG_at 30 (by decide +kernel) (by decide +kernel), zG_at 555 (by decide +kernel) (by decide +kernel), by decide +kernel⟩
theorem vt_X1_mustTurn : zVt yX1_mustTurn cX1_mustTurn 3 (some .boolean) 2 := ⟨zG_at 546 (by decide +kernel) (by decide +kernel), zG_at 13 (by decide +kernel) (by decide +kernel), zG_at 30 (by decide +kernel) (by decide +kernel), zG_at 547 (by decide +kernel) (by decide +kernel), by decide +kernel⟩
theorem vt_X1_countMarks : zVt yX1_countMarks cX1_countMarks 3 none 1 := ⟨zG_at 577 (by decide +kernel) (by decide +kernel), zG_at 19 (by decide +kernel) (by decide +kernel), zG_at 30 (by decide +kernel) (by decide +kernel), zG_at 578 (by decide +kernel) (by decide +kernel), by decide +kernel⟩
theorem vt_X1_label : zVt yX1_label cX1_label 6 none 1 := ⟨zG_at 581 (by decide +kernel) (by decide +kernel), zG_at 20 (by decide +kernel) (by decide +kernel), zG_at 30 (by decide +kernel) (by decide +kernel), zG_at 582 (by decide +kernel) (by decide +kernel), by decide +kernel⟩
theorem k_m_X1_113 : Cond.methodLink RX1 113 yX5_has ∈ zG := zG_at 532 (by decide +kernel) (by decide +kernel)
theorem k_m_X1_92 : Cond.methodLink RX1 92 yX3_at ∈ zG := zG_at 524 (by decide +kernel) (by decide +kernel)
theorem k_m_X1_96 : Cond.methodLink RX1 96 yX5_linesOf ∈ zG := zG_at 525 (by decide +kernel) (by decide +kernel)
theorem k_m_X1_99 : Cond.methodLink RX1 99 yX1_leastPart ∈ zG := zG_at 526 (by decide +kernel) (by decide +kernel)
theorem k_m_X1_103 : Cond.methodLink RX1 103 yX1_holdsNext ∈ zG := zG_at 529 (by decide +kernel) (by decide +kernel)
theorem k_f_X1_32 : Cond.fieldLink RX1 32 "ScriptPages$Pages" "needs" "LScriptPages$Row;" ∈ zG := zG_at 182 (by decide +kernel) (by decide +kernel)
theorem k_m_X1_109 : Cond.methodLink RX1 109 yX3_put ∈ zG := zG_at 543 (by decide +kernel) (by decide +kernel)
theorem k_m_X1_106 : Cond.methodLink RX1 106 yX5_blanksAhead ∈ zG := zG_at 539 (by decide +kernel) (by decide +kernel)
theorem k_f_X1_24 : Cond.fieldLink RX1 24 "ScriptPages$Pages" "filled" "I" ∈ zG := zG_at 181 (by decide +kernel) (by decide +kernel)
theorem k_f_X1_21 : Cond.fieldLink RX1 21 "ScriptPages$Pages" "limit" "I" ∈ zG := zG_at 180 (by decide +kernel) (by decide +kernel)
theorem k_f_X1_51 : Cond.fieldLink RX1 51 "ScriptPages$Pages" "fills" "LScriptPages$Row;" ∈ zG := zG_at 191 (by decide +kernel) (by decide +kernel)
theorem k_f_X1_9 : Cond.fieldLink RX1 9 "ScriptPages$Pages" "count" "I" ∈ zG := zG_at 174 (by decide +kernel) (by decide +kernel)
theorem k_f_X1_54 : Cond.fieldLink RX1 54 "ScriptPages$Pages" "firsts" "LScriptPages$Row;" ∈ zG := zG_at 192 (by decide +kernel) (by decide +kernel)
theorem k_f_X1_57 : Cond.fieldLink RX1 57 "ScriptPages$Pages" "begins" "LScriptPages$Row;" ∈ zG := zG_at 194 (by decide +kernel) (by decide +kernel)
theorem k_f_X1_36 : Cond.fieldLink RX1 36 "ScriptPages$Pages" "places" "LScriptPages$Row;" ∈ zG := zG_at 183 (by decide +kernel) (by decide +kernel)
theorem k_f_X1_39 : Cond.fieldLink RX1 39 "ScriptPages$Pages" "tops" "LScriptPages$Row;" ∈ zG := zG_at 185 (by decide +kernel) (by decide +kernel)
theorem k_f_X1_42 : Cond.fieldLink RX1 42 "ScriptPages$Pages" "parts" "LScriptPages$Row;" ∈ zG := zG_at 187 (by decide +kernel) (by decide +kernel)
theorem k_m_X1_138 : Cond.methodLink RX1 138 yX3_plus ∈ zG := zG_at 570 (by decide +kernel) (by decide +kernel)
theorem k_m_X1_120 : Cond.methodLink RX1 120 yX1_fill ∈ zG := zG_at 556 (by decide +kernel) (by decide +kernel)
theorem k_m_X1_76 : Cond.methodLink RX1 76 yX1_turnPage ∈ zG := zG_at 548 (by decide +kernel) (by decide +kernel)
theorem k_f_X1_18 : Cond.fieldLink RX1 18 "ScriptPages$Pages" "splitCount" "I" ∈ zG := zG_at 178 (by decide +kernel) (by decide +kernel)
theorem k_m_X1_123 : Cond.methodLink RX1 123 yX1_firstPart ∈ zG := zG_at 560 (by decide +kernel) (by decide +kernel)
theorem k_m_X1_127 : Cond.methodLink RX1 127 yX1_noteBegin ∈ zG := zG_at 566 (by decide +kernel) (by decide +kernel)
theorem k_m_X1_130 : Cond.methodLink RX1 130 yX1_carryOver ∈ zG := zG_at 571 (by decide +kernel) (by decide +kernel)
theorem k_f_X1_15 : Cond.fieldLink RX1 15 "ScriptPages$Pages" "markCount" "I" ∈ zG := zG_at 176 (by decide +kernel) (by decide +kernel)
theorem k_f_X1_45 : Cond.fieldLink RX1 45 "ScriptPages$Pages" "numbers" "LScriptPages$Row;" ∈ zG := zG_at 189 (by decide +kernel) (by decide +kernel)
theorem k_f_X1_48 : Cond.fieldLink RX1 48 "ScriptPages$Pages" "extras" "LScriptPages$Row;" ∈ zG := zG_at 190 (by decide +kernel) (by decide +kernel)
theorem k_m_X1_65 : Cond.methodLink RX1 65 yX1_findNeeds ∈ zG := zG_at 520 (by decide +kernel) (by decide +kernel)
theorem k_m_X1_79 : Cond.methodLink RX1 79 yX1_setElement ∈ zG := zG_at 552 (by decide +kernel) (by decide +kernel)
theorem k_m_X1_72 : Cond.methodLink RX1 72 yX1_mustTurn ∈ zG := zG_at 544 (by decide +kernel) (by decide +kernel)
theorem k_m_X1_83 : Cond.methodLink RX1 83 yX1_countMarks ∈ zG := zG_at 575 (by decide +kernel) (by decide +kernel)
theorem k_m_X1_86 : Cond.methodLink RX1 86 yX1_label ∈ zG := zG_at 579 (by decide +kernel) (by decide +kernel)
theorem kn_X1_117 {U : State} (h : zNW U) {args : Array Value} : (Cond.fieldLinkNest RX1 117 "ScriptPages$Script" "marks" "LScriptPages$Row;" "ScriptPages").before args U = true := h.fld 10 (by decide +kernel)
theorem kn_X1_89 {U : State} (h : zNW U) {args : Array Value} : (Cond.fieldLinkNest RX1 89 "ScriptPages$Script" "kinds" "LScriptPages$Row;" "ScriptPages").before args U = true := h.fld 5 (by decide +kernel)
theorem kn_X1_69 {U : State} (h : zNW U) {args : Array Value} : (Cond.fieldLinkNest RX1 69 "ScriptPages$Script" "size" "I" "ScriptPages").before args U = true := h.fld 1 (by decide +kernel)
theorem kn_X1_60 {U : State} (h : zNW U) {args : Array Value} : (Cond.fieldLinkNest RX1 60 "ScriptPages$Script" "pageLines" "I" "ScriptPages").before args U = true := h.fld 3 (by decide +kernel)
def rm_X1_holdsNext : Room := { frames := 2, cells := 0, slots := 0, locals := 42 }
set_option maxRecDepth 100000 in
set_option maxHeartbeats 4000000 in
theorem c_X1_holdsNext (l : Launch) (Z : zZ) (As : Nat → Nat) (S : t_Script) (p1 : Int32) (R : Int32) (hF : X1_holdsNext S p1 = R) : zRO l yX1_holdsNext (zw yX1_holdsNext cX1_holdsNext 4 (some .boolean)) rm_X1_holdsNext Z [.ref (As 0), .int p1] (w_Script Z.2.1 As S) (some (.int R)) := by
  refine zRO_of (by decide) (Nat.le_of_ble_eq_true rfl) (fun p e s m below meth c hx hb hr hml hown hts hlocks hK Q hQ ls hl hP hS => ?_)
  unfold X1_holdsNext at hF
  have hl : lv_has ls 4 [(0, .ref (As 0)), (1, .int p1)] := hl
  have hown : s.vm.findClass RX1 = some m.cls := hown
  have hP : va_P Z.1 vwCl (l_Script Z.2.1 As S.1 S.2.1 S.2.2.1 S.2.2.2.1 S.2.2.2.2.1 S.2.2.2.2.2.1 S.2.2.2.2.2.2.1 S.2.2.2.2.2.2.2.1 S.2.2.2.2.2.2.2.2.1 S.2.2.2.2.2.2.2.2.2).flatten s.heap := hP
  refine lv_iload_n hx hb (z_d hX1_holdsNext_0 0 rfl) rfl (lv_at hl 1 rfl) ?_
  refine lv_iconst (v := 1) hx hb (z_d hX1_holdsNext_0 1 rfl) (by decide) ?_
  refine lv_iadd hx hb (z_d hX1_holdsNext_0 2 rfl) ?_
  refine z_let hF (fun u1 hu1 hF => ?_)
  refine lv_topE hu1 ?_
  refine lv_istore_n (lv' := [(2, .int u1), (0, .ref (As 0)), (1, .int p1)]) hx hb (z_d hX1_holdsNext_0 3 rfl) rfl hl (by decide) rfl (fun ls hl => ?_)
  refine lv_aload_n hx hb (z_d hX1_holdsNext_0 4 rfl) rfl (lv_at hl 1 rfl) ?_
  refine lv_iload_n hx hb (z_d hX1_holdsNext_0 5 rfl) rfl (lv_at hl 0 rfl) ?_
  refine z_let hF (fun q2 hq2 hF => ?_)
  refine z_ro_i (z_rV (As := [.int u1]) (rest := []) hx hb hml hown hts vt_X5_has (c_X5_has l Z As S u1 _ hq2) rfl rfl ⟨Nat.le_of_ble_eq_true rfl, Nat.le_of_ble_eq_true rfl⟩ k_m_X1_113 zPro_blind (z_recv (q := (RX5, TX5, 10)) (ci := 5) (q0 := 0) hK (zP_reg hP 0 rfl) rfl rfl) (z_prec hK hP) rfl hl.1 (Nat.le_of_ble_eq_true rfl) (z_d hX1_holdsNext_0 6 rfl) ⟨Nat.zero_le _, Nat.zero_le _⟩) hS hP (fun H locs hP hS => ?_)
  refine lv_if_eq (tgt := 24) hx hb (z_d hX1_holdsNext_0 7 rfl) (by decide) (fun hc9 => ?_) (fun hc9 => ?_)
  · have hF := z_pos hc9 hF
    refine lv_iconst (v := 0) hx hb (z_d hX1_holdsNext_0 14 rfl) (by decide) ?_
    have hz9 : narrow .boolean (.int 0) = .int 0 := rfl
    obtain rfl := hF
    subst hQ
    exact W.zret hx hb hr hz9 (fun t ht hW => zq_ro (hS.F ht)) hS.2.2 (z_d hX1_holdsNext_0 15 rfl)
  · have hF := z_neg hc9 hF
    refine lv_aload_n hx hb (z_d hX1_holdsNext_0 8 rfl) rfl (lv_at hl 1 rfl) ?_
    refine va_getN (D := Z.1) (ci := 5) (v := .ref (As 7)) (C := RX5) (T := TX5) (N := 10) hx hb hts zinX5 hown hK.1 (zP_reg hP 0 rfl) 0 rfl rfl 5 (by decide) (kn_X1_117 hK.2) (fun _ h9 => h9) rfl (z_d hX1_holdsNext_0 9 rfl) ?_
    refine lv_iload_n hx hb (z_d hX1_holdsNext_0 10 rfl) rfl (lv_at hl 0 rfl) ?_
    refine z_let hF (fun q3 hq3 hF => ?_)
    refine z_ro_i (z_rV (As := [.int u1]) (rest := []) hx hb hml hown hts vt_X3_at (c_rAt l Z 60 (As 7) (As 8) (by decide) S.2.2.2.2.2.1 u1 _ hq3) rfl rfl ⟨Nat.le_of_ble_eq_true rfl, Nat.le_of_ble_eq_true rfl⟩ k_m_X1_92 zPro_blind (z_recv (q := (RX3, TX3, 1)) (ci := 3) (q0 := 0) hK (zP_reg hP 4 rfl) rfl rfl) (z_prec hK (zP_reg hP 4 rfl)) rfl hl.1 (Nat.le_of_ble_eq_true rfl) (z_d hX1_holdsNext_0 11 rfl) ⟨Nat.zero_le _, Nat.zero_le _⟩) hS hP (fun H locs hP hS => ?_)
    refine lv_iconst (v := (-1)) hx hb (z_d hX1_holdsNext_0 12 rfl) (by decide) ?_
    refine lv_icmp_eq (tgt := 26) hx hb (z_d hX1_holdsNext_0 13 rfl) (by decide) (fun hc21 => ?_) (fun hc21 => ?_)
    · have hF := z_pos hc21 hF
      refine lv_aload_n hx hb (z_d hX1_holdsNext_0 16 rfl) rfl (lv_at hl 1 rfl) ?_
      refine va_getN (D := Z.1) (ci := 5) (v := .ref (As 1)) (C := RX5) (T := TX5) (N := 10) hx hb hts zinX5 hown hK.1 (zP_reg hP 0 rfl) 0 rfl rfl 2 (by decide) (kn_X1_89 hK.2) (fun _ h9 => h9) rfl (z_d hX1_holdsNext_0 17 rfl) ?_
      refine lv_iload_n hx hb (z_d hX1_holdsNext_0 18 rfl) rfl (lv_at hl 0 rfl) ?_
      refine z_let hF (fun q4 hq4 hF => ?_)
      refine z_ro_i (z_rV (As := [.int u1]) (rest := []) hx hb hml hown hts vt_X3_at (c_rAt l Z 60 (As 1) (As 2) (by decide) S.2.2.1 u1 _ hq4) rfl rfl ⟨Nat.le_of_ble_eq_true rfl, Nat.le_of_ble_eq_true rfl⟩ k_m_X1_92 zPro_blind (z_recv (q := (RX3, TX3, 1)) (ci := 3) (q0 := 0) hK (zP_reg hP 1 rfl) rfl rfl) (z_prec hK (zP_reg hP 1 rfl)) rfl hl.1 (Nat.le_of_ble_eq_true rfl) (z_d hX1_holdsNext_0 19 rfl) ⟨Nat.zero_le _, Nat.zero_le _⟩) hS hP (fun H locs hP hS => ?_)
      refine lv_istore_n (lv' := [(3, .int q4), (2, .int u1), (0, .ref (As 0)), (1, .int p1)]) hx hb (z_d hX1_holdsNext_0 20 rfl) rfl hl (by decide) rfl (fun ls hl => ?_)
      refine lv_aload_n hx hb (z_d hX1_holdsNext_0 21 rfl) rfl (lv_at hl 2 rfl) ?_
      refine va_getN (D := Z.1) (ci := 5) (v := .ref (As 1)) (C := RX5) (T := TX5) (N := 10) hx hb hts zinX5 hown hK.1 (zP_reg hP 0 rfl) 0 rfl rfl 2 (by decide) (kn_X1_89 hK.2) (fun _ h9 => h9) rfl (z_d hX1_holdsNext_0 22 rfl) ?_
      refine lv_iload_n hx hb (z_d hX1_holdsNext_0 23 rfl) rfl (lv_at hl 3 rfl) ?_
      refine z_let hF (fun q5 hq5 hF => ?_)
      refine z_ro_i (z_rV (As := [.int p1]) (rest := []) hx hb hml hown hts vt_X3_at (c_rAt l Z 60 (As 1) (As 2) (by decide) S.2.2.1 p1 _ hq5) rfl rfl ⟨Nat.le_of_ble_eq_true rfl, Nat.le_of_ble_eq_true rfl⟩ k_m_X1_92 zPro_blind (z_recv (q := (RX3, TX3, 1)) (ci := 3) (q0 := 0) hK (zP_reg hP 1 rfl) rfl rfl) (z_prec hK (zP_reg hP 1 rfl)) rfl hl.1 (Nat.le_of_ble_eq_true rfl) (z_d hX1_holdsNext_0 24 rfl) ⟨Nat.zero_le _, Nat.zero_le _⟩) hS hP (fun H locs hP hS => ?_)
      by_cases hs43_0 : q5 = 0
      · have hF := z_pos hs43_0 hF
        refine lv_tableIn (off := 33) (tgt := 76) hx hb (z_d hX1_holdsNext_0 25 rfl) (by rw [hs43_0]; decide) (by rw [hs43_0]; decide) (by rw [hs43_0]; first | done | rfl) (by decide) ?_
        refine lv_iload_n hx hb (z_d hX1_holdsNext_0 26 rfl) rfl (lv_at hl 0 rfl) ?_
        refine lv_if_eq (tgt := 84) hx hb (z_d hX1_holdsNext_0 27 rfl) (by decide) (fun hc77 => ?_) (fun hc77 => ?_)
        · have hF := z_pos hc77 hF
          refine lv_iconst (v := 0) hx hb (z_d hX1_holdsNext_0 30 rfl) (by decide) ?_
          have hz9 : narrow .boolean (.int 0) = .int 0 := rfl
          obtain rfl := hF
          subst hQ
          exact W.zret hx hb hr hz9 (fun t ht hW => zq_ro (hS.F ht)) hS.2.2 (z_d hX1_holdsNext_0 31 rfl)
        · have hF := z_neg hc77 hF
          refine lv_iconst (v := 1) hx hb (z_d hX1_holdsNext_0 28 rfl) (by decide) ?_
          refine lv_goto (tgt := 85) hx hb (z_d hX1_holdsNext_0 29 rfl) (by decide) ?_
          have hz9 : narrow .boolean (.int 1) = .int 1 := rfl
          obtain rfl := hF
          subst hQ
          exact W.zret hx hb hr hz9 (fun t ht hW => zq_ro (hS.F ht)) hS.2.2 (z_d hX1_holdsNext_0 31 rfl)
      have hF := z_neg hs43_0 hF
      by_cases hs43_1 : q5 = 1
      · have hF := z_pos hs43_1 hF
        refine lv_tableIn (off := 59) (tgt := 102) hx hb (z_d hX1_holdsNext_0 25 rfl) (by rw [hs43_1]; decide) (by rw [hs43_1]; decide) (by rw [hs43_1]; first | done | rfl) (by decide) ?_
        refine lv_iconst (v := 0) hx hb (z_d hX1_holdsNext_0 42 rfl) (by decide) ?_
        have hz9 : narrow .boolean (.int 0) = .int 0 := rfl
        obtain rfl := hF
        subst hQ
        exact W.zret hx hb hr hz9 (fun t ht hW => zq_ro (hS.F ht)) hS.2.2 (z_d hX1_holdsNext_0 43 rfl)
      have hF := z_neg hs43_1 hF
      by_cases hs43_2 : q5 = 2
      · have hF := z_pos hs43_2 hF
        refine lv_tableIn (off := 43) (tgt := 86) hx hb (z_d hX1_holdsNext_0 25 rfl) (by rw [hs43_2]; decide) (by rw [hs43_2]; decide) (by rw [hs43_2]; first | done | rfl) (by decide) ?_
        refine lv_iload_n hx hb (z_d hX1_holdsNext_0 32 rfl) rfl (lv_at hl 0 rfl) ?_
        refine lv_iconst (v := 4) hx hb (z_d hX1_holdsNext_0 33 rfl) (by decide) ?_
        refine lv_icmp_eq (tgt := 96) hx hb (z_d hX1_holdsNext_0 34 rfl) (by decide) (fun hc88 => ?_) (fun hc88 => ?_)
        · have hF := z_pos hc88 hF
          refine lv_iconst (v := 1) hx hb (z_d hX1_holdsNext_0 38 rfl) (by decide) ?_
          refine lv_goto (tgt := 101) hx hb (z_d hX1_holdsNext_0 39 rfl) (by decide) ?_
          have hz9 : narrow .boolean (.int 1) = .int 1 := rfl
          obtain rfl := hF
          subst hQ
          exact W.zret hx hb hr hz9 (fun t ht hW => zq_ro (hS.F ht)) hS.2.2 (z_d hX1_holdsNext_0 41 rfl)
        · have hF := z_neg hc88 hF
          refine lv_iload_n hx hb (z_d hX1_holdsNext_0 35 rfl) rfl (lv_at hl 0 rfl) ?_
          refine lv_iconst (v := 3) hx hb (z_d hX1_holdsNext_0 36 rfl) (by decide) ?_
          refine lv_icmp_ne (tgt := 100) hx hb (z_d hX1_holdsNext_0 37 rfl) (by decide) (fun hc93 => ?_) (fun hc93 => ?_)
          · have hF := z_neg hc93 hF
            refine lv_iconst (v := 0) hx hb (z_d hX1_holdsNext_0 40 rfl) (by decide) ?_
            have hz9 : narrow .boolean (.int 0) = .int 0 := rfl
            obtain rfl := hF
            subst hQ
            exact W.zret hx hb hr hz9 (fun t ht hW => zq_ro (hS.F ht)) hS.2.2 (z_d hX1_holdsNext_0 41 rfl)
          · have hF := z_pos hc93 hF
            refine lv_iconst (v := 1) hx hb (z_d hX1_holdsNext_0 38 rfl) (by decide) ?_
            refine lv_goto (tgt := 101) hx hb (z_d hX1_holdsNext_0 39 rfl) (by decide) ?_
            have hz9 : narrow .boolean (.int 1) = .int 1 := rfl
            obtain rfl := hF
            subst hQ
            exact W.zret hx hb hr hz9 (fun t ht hW => zq_ro (hS.F ht)) hS.2.2 (z_d hX1_holdsNext_0 41 rfl)
      have hF := z_neg hs43_2 hF
      by_cases hs43_3 : q5 = 3
      · have hF := z_pos hs43_3 hF
        refine lv_tableIn (off := 59) (tgt := 102) hx hb (z_d hX1_holdsNext_0 25 rfl) (by rw [hs43_3]; decide) (by rw [hs43_3]; decide) (by rw [hs43_3]; first | done | rfl) (by decide) ?_
        refine lv_iconst (v := 0) hx hb (z_d hX1_holdsNext_0 42 rfl) (by decide) ?_
        have hz9 : narrow .boolean (.int 0) = .int 0 := rfl
        obtain rfl := hF
        subst hQ
        exact W.zret hx hb hr hz9 (fun t ht hW => zq_ro (hS.F ht)) hS.2.2 (z_d hX1_holdsNext_0 43 rfl)
      have hF := z_neg hs43_3 hF
      by_cases hs43_4 : q5 = 4
      · have hF := z_pos hs43_4 hF
        refine lv_tableIn (off := 43) (tgt := 86) hx hb (z_d hX1_holdsNext_0 25 rfl) (by rw [hs43_4]; decide) (by rw [hs43_4]; decide) (by rw [hs43_4]; first | done | rfl) (by decide) ?_
        refine lv_iload_n hx hb (z_d hX1_holdsNext_0 32 rfl) rfl (lv_at hl 0 rfl) ?_
        refine lv_iconst (v := 4) hx hb (z_d hX1_holdsNext_0 33 rfl) (by decide) ?_
        refine lv_icmp_eq (tgt := 96) hx hb (z_d hX1_holdsNext_0 34 rfl) (by decide) (fun hc88 => ?_) (fun hc88 => ?_)
        · have hF := z_pos hc88 hF
          refine lv_iconst (v := 1) hx hb (z_d hX1_holdsNext_0 38 rfl) (by decide) ?_
          refine lv_goto (tgt := 101) hx hb (z_d hX1_holdsNext_0 39 rfl) (by decide) ?_
          have hz9 : narrow .boolean (.int 1) = .int 1 := rfl
          obtain rfl := hF
          subst hQ
          exact W.zret hx hb hr hz9 (fun t ht hW => zq_ro (hS.F ht)) hS.2.2 (z_d hX1_holdsNext_0 41 rfl)
        · have hF := z_neg hc88 hF
          refine lv_iload_n hx hb (z_d hX1_holdsNext_0 35 rfl) rfl (lv_at hl 0 rfl) ?_
          refine lv_iconst (v := 3) hx hb (z_d hX1_holdsNext_0 36 rfl) (by decide) ?_
          refine lv_icmp_ne (tgt := 100) hx hb (z_d hX1_holdsNext_0 37 rfl) (by decide) (fun hc93 => ?_) (fun hc93 => ?_)
          · have hF := z_neg hc93 hF
            refine lv_iconst (v := 0) hx hb (z_d hX1_holdsNext_0 40 rfl) (by decide) ?_
            have hz9 : narrow .boolean (.int 0) = .int 0 := rfl
            obtain rfl := hF
            subst hQ
            exact W.zret hx hb hr hz9 (fun t ht hW => zq_ro (hS.F ht)) hS.2.2 (z_d hX1_holdsNext_0 41 rfl)
          · have hF := z_pos hc93 hF
            refine lv_iconst (v := 1) hx hb (z_d hX1_holdsNext_0 38 rfl) (by decide) ?_
            refine lv_goto (tgt := 101) hx hb (z_d hX1_holdsNext_0 39 rfl) (by decide) ?_
            have hz9 : narrow .boolean (.int 1) = .int 1 := rfl
            obtain rfl := hF
            subst hQ
            exact W.zret hx hb hr hz9 (fun t ht hW => zq_ro (hS.F ht)) hS.2.2 (z_d hX1_holdsNext_0 41 rfl)
      have hF := z_neg hs43_4 hF
      have n0 := lv_neT (a := 0) hs43_0 (by decide)
      have n1 := lv_neT (a := 1) hs43_1 (by decide)
      have n2 := lv_neT (a := 2) hs43_2 (by decide)
      have n3 := lv_neT (a := 3) hs43_3 (by decide)
      have n4 := lv_neT (a := 4) hs43_4 (by decide)
      refine lv_tableOut (tgt := 102) hx hb (z_d hX1_holdsNext_0 25 rfl) (by omega) (by decide) ?_
      refine lv_iconst (v := 0) hx hb (z_d hX1_holdsNext_0 42 rfl) (by decide) ?_
      have hz9 : narrow .boolean (.int 0) = .int 0 := rfl
      obtain rfl := hF
      subst hQ
      exact W.zret hx hb hr hz9 (fun t ht hW => zq_ro (hS.F ht)) hS.2.2 (z_d hX1_holdsNext_0 43 rfl)
    · have hF := z_neg hc21 hF
      refine lv_iconst (v := 0) hx hb (z_d hX1_holdsNext_0 14 rfl) (by decide) ?_
      have hz9 : narrow .boolean (.int 0) = .int 0 := rfl
      obtain rfl := hF
      subst hQ
      exact W.zret hx hb hr hz9 (fun t ht hW => zq_ro (hS.F ht)) hS.2.2 (z_d hX1_holdsNext_0 15 rfl)
def rm_X1_findNeeds : Room := { frames := 3, cells := 0, slots := 0, locals := 65 }
set_option maxRecDepth 100000 in
set_option maxHeartbeats 4000000 in
theorem c_X1_findNeeds (l : Launch) (Z : zZ) (Ag : Nat → Nat) (As : Nat → Nat) (G : t_Pages) (S : t_Script) (R : t_Pages) (hF : X1_findNeeds G S = some R) : zMU l yX1_findNeeds (zw yX1_findNeeds cX1_findNeeds 4 none) rm_X1_findNeeds Z [.ref (Ag 0), .ref (As 0)] (List.flatten [w_Pages Z.2.1 Ag G, w_Script Z.2.1 As S]) (List.flatten [w_Pages Z.2.1 Ag R, w_Script Z.2.1 As S]) none := by
  refine zMU_of (by decide) (Nat.le_of_ble_eq_true rfl) (fun p e s m below meth c hx hb hr hml hown hts hlocks hK A hA Q hQ ls hl hP hD hS => ?_)
  unfold X1_findNeeds at hF
  have hl : lv_has ls 4 [(0, .ref (Ag 0)), (1, .ref (As 0))] := hl
  have hown : s.vm.findClass RX1 = some m.cls := hown
  have hP : va_P Z.1 vwCl (l_Pages Z.2.1 Ag G.1 G.2.1 G.2.2.1 G.2.2.2.1 G.2.2.2.2.1 G.2.2.2.2.2.1 G.2.2.2.2.2.2.1 G.2.2.2.2.2.2.2.1 G.2.2.2.2.2.2.2.2.1 G.2.2.2.2.2.2.2.2.2.1 G.2.2.2.2.2.2.2.2.2.2.1 G.2.2.2.2.2.2.2.2.2.2.2.1 G.2.2.2.2.2.2.2.2.2.2.2.2.1 G.2.2.2.2.2.2.2.2.2.2.2.2.2 ++ [w_Script Z.2.1 As S]).flatten s.heap := zfr hP
  have hD : va_D A (l_Pages Z.2.1 Ag G.1 G.2.1 G.2.2.1 G.2.2.2.1 G.2.2.2.2.1 G.2.2.2.2.2.1 G.2.2.2.2.2.2.1 G.2.2.2.2.2.2.2.1 G.2.2.2.2.2.2.2.2.1 G.2.2.2.2.2.2.2.2.2.1 G.2.2.2.2.2.2.2.2.2.2.1 G.2.2.2.2.2.2.2.2.2.2.2.1 G.2.2.2.2.2.2.2.2.2.2.2.2.1 G.2.2.2.2.2.2.2.2.2.2.2.2.2 ++ [w_Script Z.2.1 As S]).flatten := zfrD hD
  have L7 : ∀  (n : Nat) (v : t_Pages × Int32) (X : t_Pages) (hF : zloop (b_X1_findNeeds_7 S ) n v = some X) (H : Heap) (locs : List Loc) (ls : Array Slot) (hP : va_P Z.1 vwCl (l_Pages Z.2.1 Ag v.1.1 v.1.2.1 v.1.2.2.1 v.1.2.2.2.1 v.1.2.2.2.2.1 v.1.2.2.2.2.2.1 v.1.2.2.2.2.2.2.1 v.1.2.2.2.2.2.2.2.1 v.1.2.2.2.2.2.2.2.2.1 v.1.2.2.2.2.2.2.2.2.2.1 v.1.2.2.2.2.2.2.2.2.2.2.1 v.1.2.2.2.2.2.2.2.2.2.2.2.1 v.1.2.2.2.2.2.2.2.2.2.2.2.2.1 v.1.2.2.2.2.2.2.2.2.2.2.2.2.2 ++ [w_Script Z.2.1 As S]).flatten H) (hD : va_D A (l_Pages Z.2.1 Ag v.1.1 v.1.2.1 v.1.2.2.1 v.1.2.2.2.1 v.1.2.2.2.2.1 v.1.2.2.2.2.2.1 v.1.2.2.2.2.2.2.1 v.1.2.2.2.2.2.2.2.1 v.1.2.2.2.2.2.2.2.2.1 v.1.2.2.2.2.2.2.2.2.2.1 v.1.2.2.2.2.2.2.2.2.2.2.1 v.1.2.2.2.2.2.2.2.2.2.2.2.1 v.1.2.2.2.2.2.2.2.2.2.2.2.2.1 v.1.2.2.2.2.2.2.2.2.2.2.2.2.2 ++ [w_Script Z.2.1 As S]).flatten) (hS : va_S A s.heap H locs) (hl : lv_has ls 4 [(0, .ref (Ag 0)), (1, .ref (As 0)), (2, .int v.2)]) (K1 : ∀ (H : Heap) (locs : List Loc) (ls : Array Slot) (hP : va_P Z.1 vwCl (l_Pages Z.2.1 Ag X.1 X.2.1 X.2.2.1 X.2.2.2.1 X.2.2.2.2.1 X.2.2.2.2.2.1 X.2.2.2.2.2.2.1 X.2.2.2.2.2.2.2.1 X.2.2.2.2.2.2.2.2.1 X.2.2.2.2.2.2.2.2.2.1 X.2.2.2.2.2.2.2.2.2.2.1 X.2.2.2.2.2.2.2.2.2.2.2.1 X.2.2.2.2.2.2.2.2.2.2.2.2.1 X.2.2.2.2.2.2.2.2.2.2.2.2.2 ++ [w_Script Z.2.1 As S]).flatten H) (hD : va_D A (l_Pages Z.2.1 Ag X.1 X.2.1 X.2.2.1 X.2.2.2.1 X.2.2.2.2.1 X.2.2.2.2.2.1 X.2.2.2.2.2.2.1 X.2.2.2.2.2.2.2.1 X.2.2.2.2.2.2.2.2.1 X.2.2.2.2.2.2.2.2.2.1 X.2.2.2.2.2.2.2.2.2.2.1 X.2.2.2.2.2.2.2.2.2.2.2.1 X.2.2.2.2.2.2.2.2.2.2.2.2.1 X.2.2.2.2.2.2.2.2.2.2.2.2.2 ++ [w_Script Z.2.1 As S]).flatten) (hS : va_S A s.heap H locs) (hl : lv_has ls 4 [(0, .ref (Ag 0)), (1, .ref (As 0))]), W p l e rm_X1_findNeeds s m ([.ref (Ag 0), .ref (As 0)] : List Value).toArray below meth c H locs 0 0 Q (F0 m 72 ls [])), W p l e rm_X1_findNeeds s m ([.ref (Ag 0), .ref (As 0)] : List Value).toArray below meth c H locs 0 0 Q (F0 m 7 ls []) := by
    skip
    refine z_loopE (fun rec ih v X hF H locs ls hP hD hS hl K1 => ?_)
    unfold b_X1_findNeeds_7 at hF
    have J57 : ∀ (G : t_Pages) (x2 : Int32) (x3 : Int32) (hF : j_X1_findNeeds_57 S rec G x2 x3 = some X) (H : Heap) (locs : List Loc) (ls : Array Slot) (hP : va_P Z.1 vwCl (l_Pages Z.2.1 Ag G.1 G.2.1 G.2.2.1 G.2.2.2.1 G.2.2.2.2.1 G.2.2.2.2.2.1 G.2.2.2.2.2.2.1 G.2.2.2.2.2.2.2.1 G.2.2.2.2.2.2.2.2.1 G.2.2.2.2.2.2.2.2.2.1 G.2.2.2.2.2.2.2.2.2.2.1 G.2.2.2.2.2.2.2.2.2.2.2.1 G.2.2.2.2.2.2.2.2.2.2.2.2.1 G.2.2.2.2.2.2.2.2.2.2.2.2.2 ++ [w_Script Z.2.1 As S]).flatten H) (hD : va_D A (l_Pages Z.2.1 Ag G.1 G.2.1 G.2.2.1 G.2.2.2.1 G.2.2.2.2.1 G.2.2.2.2.2.1 G.2.2.2.2.2.2.1 G.2.2.2.2.2.2.2.1 G.2.2.2.2.2.2.2.2.1 G.2.2.2.2.2.2.2.2.2.1 G.2.2.2.2.2.2.2.2.2.2.1 G.2.2.2.2.2.2.2.2.2.2.2.1 G.2.2.2.2.2.2.2.2.2.2.2.2.1 G.2.2.2.2.2.2.2.2.2.2.2.2.2 ++ [w_Script Z.2.1 As S]).flatten) (hS : va_S A s.heap H locs) (hl : lv_has ls 4 [(0, .ref (Ag 0)), (1, .ref (As 0)), (2, .int x2), (3, .int x3)]), W p l e rm_X1_findNeeds s m ([.ref (Ag 0), .ref (As 0)] : List Value).toArray below meth c H locs 0 0 Q (F0 m 57 ls []) := by
      intro G x2 x3 hF H locs ls hP hD hS hl
      unfold j_X1_findNeeds_57 at hF
      refine lv_aload_n hx hb (z_d hX1_findNeeds_0 35 rfl) rfl (lv_at hl 0 rfl) ?_
      refine va_get (D := Z.1) (ci := 1) (v := .ref (Ag 1)) (C := RX1) (T := TX1) (N := 14) hx hb hts zinX1 hown hK.1 (zP_reg hP 0 rfl) 0 rfl rfl 5 (by decide) (hts _ k_f_X1_32) (fun _ h9 => h9) rfl (z_d hX1_findNeeds_0 36 rfl) ?_
      refine lv_iload_n hx hb (z_d hX1_findNeeds_0 37 rfl) rfl (lv_at hl 2 rfl) ?_
      refine lv_iload_n hx hb (z_d hX1_findNeeds_0 38 rfl) rfl (lv_at hl 3 rfl) ?_
      refine z_let hF (fun q6 hq6 hF => ?_)
      refine z_mu1 (L := l_Pages Z.2.1 Ag G.1 G.2.1 G.2.2.1 G.2.2.2.1 G.2.2.2.2.1 G.2.2.2.2.2.1 G.2.2.2.2.2.2.1 G.2.2.2.2.2.2.2.1 G.2.2.2.2.2.2.2.2.1 G.2.2.2.2.2.2.2.2.2.1 G.2.2.2.2.2.2.2.2.2.2.1 G.2.2.2.2.2.2.2.2.2.2.2.1 G.2.2.2.2.2.2.2.2.2.2.2.2.1 G.2.2.2.2.2.2.2.2.2.2.2.2.2 ++ [w_Script Z.2.1 As S]) (L' := l_Pages Z.2.1 Ag G.1 G.2.1 G.2.2.1 G.2.2.2.1 G.2.2.2.2.1 q6 G.2.2.2.2.2.2.1 G.2.2.2.2.2.2.2.1 G.2.2.2.2.2.2.2.2.1 G.2.2.2.2.2.2.2.2.2.1 G.2.2.2.2.2.2.2.2.2.2.1 G.2.2.2.2.2.2.2.2.2.2.2.1 G.2.2.2.2.2.2.2.2.2.2.2.2.1 G.2.2.2.2.2.2.2.2.2.2.2.2.2 ++ [w_Script Z.2.1 As S]) (z_rV (As := [.int x2, .int x3]) (rest := []) hx hb hml hown hts vt_X3_put (c_rPut l Z 60 (Ag 1) (Ag 2) (by decide) G.2.2.2.2.2.1 x2 x3 _ hq6) rfl rfl ⟨Nat.le_of_ble_eq_true rfl, Nat.le_of_ble_eq_true rfl⟩ k_m_X1_109 zPmu_blind (z_recv (q := (RX3, TX3, 1)) (ci := 3) (q0 := 0) hK (zP_reg hP 1 rfl) rfl rfl) (z_prem hK (zP_reg hP 1 rfl) (zD_one hD 1 _ rfl)) rfl hl.1 (Nat.le_of_ble_eq_true rfl) (z_d hX1_findNeeds_0 39 rfl) ⟨Nat.zero_le _, Nat.zero_le _⟩) hS hP hD 1 rfl rfl rfl (fun H locs hP hD hS => ?_)
      refine W.eq (g2 := F0 m 66 ls []) rfl ?_
      refine z_let hF (fun u7 hu7 hF => ?_)
      refine lv_iinc (v := u7) (lv' := [(2, .int u7), (0, .ref (Ag 0)), (1, .ref (As 0)), (3, .int x3)]) hx hb (z_d hX1_findNeeds_0 40 rfl) hl (k := 2) rfl (z_incm1 hu7) (by decide) rfl (fun ls hl => ?_)
      refine lv_goto (tgt := 7) hx hb (z_d hX1_findNeeds_0 41 rfl) (by decide) ?_
      exact ih _ _ hF _ _ ls hP hD hS (lv_sub hl [1, 2, 0] rfl) K1
    refine lv_iload_n hx hb (z_d hX1_findNeeds_0 5 rfl) rfl (lv_at hl 2 rfl) ?_
    refine lv_if_lt (tgt := 72) hx hb (z_d hX1_findNeeds_0 6 rfl) (by decide) (fun hc8 => ?_) (fun hc8 => ?_)
    · have hF := z_pos hc8 hF
      obtain rfl := Option.some.inj hF
      exact K1 _ _ ls hP hD hS (lv_sub hl [0, 1] rfl)
    · have hF := z_neg hc8 hF
      refine lv_aload_n hx hb (z_d hX1_findNeeds_0 7 rfl) rfl (lv_at hl 1 rfl) ?_
      refine va_getN (D := Z.1) (ci := 5) (v := .ref (As 1)) (C := RX5) (T := TX5) (N := 10) hx hb hts zinX5 hown hK.1 (zP_reg (L := l_Script Z.2.1 As S.1 S.2.1 S.2.2.1 S.2.2.2.1 S.2.2.2.2.1 S.2.2.2.2.2.1 S.2.2.2.2.2.2.1 S.2.2.2.2.2.2.2.1 S.2.2.2.2.2.2.2.2.1 S.2.2.2.2.2.2.2.2.2) (zP_reg hP 10 rfl) 0 rfl) 0 rfl rfl 2 (by decide) (kn_X1_89 hK.2) (fun _ h9 => h9) rfl (z_d hX1_findNeeds_0 8 rfl) ?_
      refine lv_iload_n hx hb (z_d hX1_findNeeds_0 9 rfl) rfl (lv_at hl 2 rfl) ?_
      refine z_let hF (fun q2 hq2 hF => ?_)
      refine z_ro_i (z_rV (As := [.int v.2]) (rest := []) hx hb hml hown hts vt_X3_at (c_rAt l Z 60 (As 1) (As 2) (by decide) S.2.2.1 v.2 _ hq2) rfl rfl ⟨Nat.le_of_ble_eq_true rfl, Nat.le_of_ble_eq_true rfl⟩ k_m_X1_92 zPro_blind (z_recv (q := (RX3, TX3, 1)) (ci := 3) (q0 := 0) hK (zP_reg (L := l_Script Z.2.1 As S.1 S.2.1 S.2.2.1 S.2.2.2.1 S.2.2.2.2.1 S.2.2.2.2.2.1 S.2.2.2.2.2.2.1 S.2.2.2.2.2.2.2.1 S.2.2.2.2.2.2.2.2.1 S.2.2.2.2.2.2.2.2.2) (zP_reg hP 10 rfl) 1 rfl) rfl rfl) (z_prec hK (zP_reg (L := l_Script Z.2.1 As S.1 S.2.1 S.2.2.1 S.2.2.2.1 S.2.2.2.2.1 S.2.2.2.2.2.1 S.2.2.2.2.2.2.1 S.2.2.2.2.2.2.2.1 S.2.2.2.2.2.2.2.2.1 S.2.2.2.2.2.2.2.2.2) (zP_reg hP 10 rfl) 1 rfl)) rfl hl.1 (Nat.le_of_ble_eq_true rfl) (z_d hX1_findNeeds_0 10 rfl) ⟨Nat.zero_le _, Nat.zero_le _⟩) hS hP (fun H locs hP hS => ?_)
      refine lv_aload_n hx hb (z_d hX1_findNeeds_0 11 rfl) rfl (lv_at hl 1 rfl) ?_
      refine lv_iload_n hx hb (z_d hX1_findNeeds_0 12 rfl) rfl (lv_at hl 2 rfl) ?_
      refine z_let hF (fun q3 hq3 hF => ?_)
      refine z_ro_i (z_rV (As := [.int v.2]) (rest := [.int q2]) hx hb hml hown hts vt_X5_linesOf (c_X5_linesOf l Z As S v.2 _ hq3) rfl rfl ⟨Nat.le_of_ble_eq_true rfl, Nat.le_of_ble_eq_true rfl⟩ k_m_X1_96 zPro_blind (z_recv (q := (RX5, TX5, 10)) (ci := 5) (q0 := 0) hK (zP_reg (L := l_Script Z.2.1 As S.1 S.2.1 S.2.2.1 S.2.2.2.1 S.2.2.2.2.1 S.2.2.2.2.2.1 S.2.2.2.2.2.2.1 S.2.2.2.2.2.2.2.1 S.2.2.2.2.2.2.2.2.1 S.2.2.2.2.2.2.2.2.2) (zP_reg hP 10 rfl) 0 rfl) rfl rfl) (z_prec hK (zP_reg hP 10 rfl)) rfl hl.1 (Nat.le_of_ble_eq_true rfl) (z_d hX1_findNeeds_0 13 rfl) ⟨Nat.zero_le _, Nat.zero_le _⟩) hS hP (fun H locs hP hS => ?_)
      refine z_let hF (fun q4 hq4 hF => ?_)
      refine z_ro_i (z_rS (As := [.int q2, .int q3]) (rest := []) hx hb hml hown hts vs_X1_leastPart (c_X1_leastPart l Z q2 q3 _ hq4) rfl rfl ⟨Nat.le_of_ble_eq_true rfl, Nat.le_of_ble_eq_true rfl⟩ k_m_X1_99 zPro_blind (z_prec hK zP_nil) rfl hl.1 (Nat.le_of_ble_eq_true rfl) (z_d hX1_findNeeds_0 14 rfl) ⟨Nat.zero_le _, Nat.zero_le _⟩) hS hP (fun H locs hP hS => ?_)
      refine lv_istore_n (lv' := [(3, .int q4), (0, .ref (Ag 0)), (1, .ref (As 0)), (2, .int v.2)]) hx hb (z_d hX1_findNeeds_0 15 rfl) rfl hl (by decide) rfl (fun ls hl => ?_)
      refine lv_aload_n hx hb (z_d hX1_findNeeds_0 16 rfl) rfl (lv_at hl 2 rfl) ?_
      refine lv_iload_n hx hb (z_d hX1_findNeeds_0 17 rfl) rfl (lv_at hl 3 rfl) ?_
      refine z_let hF (fun q5 hq5 hF => ?_)
      refine z_ro_i (z_rS (As := [.ref (As 0), .int v.2]) (rest := []) hx hb hml hown hts vs_X1_holdsNext (c_X1_holdsNext l Z As S v.2 _ hq5) rfl rfl ⟨Nat.le_of_ble_eq_true rfl, Nat.le_of_ble_eq_true rfl⟩ k_m_X1_103 zPro_blind (z_prec hK (zP_reg hP 10 rfl)) rfl hl.1 (Nat.le_of_ble_eq_true rfl) (z_d hX1_findNeeds_0 18 rfl) ⟨Nat.zero_le _, Nat.zero_le _⟩) hS hP (fun H locs hP hS => ?_)
      refine lv_if_eq (tgt := 57) hx hb (z_d hX1_findNeeds_0 19 rfl) (by decide) (fun hc33 => ?_) (fun hc33 => ?_)
      · have hF := z_pos hc33 hF
        exact J57 v.1 v.2 q4 hF _ _ ls hP hD hS (lv_sub hl [1, 2, 3, 0] rfl)
      · have hF := z_neg hc33 hF
        refine lv_iload_n hx hb (z_d hX1_findNeeds_0 20 rfl) rfl (lv_at hl 0 rfl) ?_
        refine lv_aload_n hx hb (z_d hX1_findNeeds_0 21 rfl) rfl (lv_at hl 2 rfl) ?_
        refine lv_iload_n hx hb (z_d hX1_findNeeds_0 22 rfl) rfl (lv_at hl 3 rfl) ?_
        refine lv_iconst (v := 1) hx hb (z_d hX1_findNeeds_0 23 rfl) (by decide) ?_
        refine lv_iadd hx hb (z_d hX1_findNeeds_0 24 rfl) ?_
        refine z_let hF (fun u8 hu8 hF => ?_)
        refine lv_topE hu8 ?_
        refine z_let hF (fun q9 hq9 hF => ?_)
        refine z_ro_i (z_rV (As := [.int u8]) (rest := [.int q4]) hx hb hml hown hts vt_X5_blanksAhead (c_X5_blanksAhead l Z As S u8 _ hq9) rfl rfl ⟨Nat.le_of_ble_eq_true rfl, Nat.le_of_ble_eq_true rfl⟩ k_m_X1_106 zPro_blind (z_recv (q := (RX5, TX5, 10)) (ci := 5) (q0 := 0) hK (zP_reg (L := l_Script Z.2.1 As S.1 S.2.1 S.2.2.1 S.2.2.2.1 S.2.2.2.2.1 S.2.2.2.2.2.1 S.2.2.2.2.2.2.1 S.2.2.2.2.2.2.2.1 S.2.2.2.2.2.2.2.2.1 S.2.2.2.2.2.2.2.2.2) (zP_reg hP 10 rfl) 0 rfl) rfl rfl) (z_prec hK (zP_reg hP 10 rfl)) rfl hl.1 (Nat.le_of_ble_eq_true rfl) (z_d hX1_findNeeds_0 25 rfl) ⟨Nat.zero_le _, Nat.zero_le _⟩) hS hP (fun H locs hP hS => ?_)
        refine lv_aload_n hx hb (z_d hX1_findNeeds_0 26 rfl) rfl (lv_at hl 1 rfl) ?_
        refine va_get (D := Z.1) (ci := 1) (v := .ref (Ag 1)) (C := RX1) (T := TX1) (N := 14) hx hb hts zinX1 hown hK.1 (zP_reg hP 0 rfl) 0 rfl rfl 5 (by decide) (hts _ k_f_X1_32) (fun _ h9 => h9) rfl (z_d hX1_findNeeds_0 27 rfl) ?_
        refine lv_iload_n hx hb (z_d hX1_findNeeds_0 28 rfl) rfl (lv_at hl 3 rfl) ?_
        refine lv_iconst (v := 1) hx hb (z_d hX1_findNeeds_0 29 rfl) (by decide) ?_
        refine lv_iadd hx hb (z_d hX1_findNeeds_0 30 rfl) ?_
        refine z_let hF (fun u10 hu10 hF => ?_)
        refine lv_topE hu10 ?_
        refine z_let hF (fun q11 hq11 hF => ?_)
        refine z_ro_i (z_rV (As := [.int u10]) (rest := [.int q9, .int q4]) hx hb hml hown hts vt_X3_at (c_rAt l Z 60 (Ag 1) (Ag 2) (by decide) v.1.2.2.2.2.2.1 u10 _ hq11) rfl rfl ⟨Nat.le_of_ble_eq_true rfl, Nat.le_of_ble_eq_true rfl⟩ k_m_X1_92 zPro_blind (z_recv (q := (RX3, TX3, 1)) (ci := 3) (q0 := 0) hK (zP_reg hP 1 rfl) rfl rfl) (z_prec hK (zP_reg hP 1 rfl)) rfl hl.1 (Nat.le_of_ble_eq_true rfl) (z_d hX1_findNeeds_0 31 rfl) ⟨Nat.zero_le _, Nat.zero_le _⟩) hS hP (fun H locs hP hS => ?_)
        refine lv_iadd hx hb (z_d hX1_findNeeds_0 32 rfl) ?_
        refine z_let hF (fun u12 hu12 hF => ?_)
        refine lv_topE hu12 ?_
        refine lv_iadd hx hb (z_d hX1_findNeeds_0 33 rfl) ?_
        refine z_let hF (fun u13 hu13 hF => ?_)
        refine lv_topE hu13 ?_
        refine lv_istore_n (lv' := [(3, .int u13), (0, .ref (Ag 0)), (1, .ref (As 0)), (2, .int v.2)]) hx hb (z_d hX1_findNeeds_0 34 rfl) rfl hl (by decide) rfl (fun ls hl => ?_)
        exact J57 v.1 v.2 u13 hF _ _ ls hP hD hS (lv_sub hl [1, 2, 3, 0] rfl)
  refine lv_aload_n hx hb (z_d hX1_findNeeds_0 0 rfl) rfl (lv_at hl 1 rfl) ?_
  refine va_getN (D := Z.1) (ci := 5) (v := .int S.1) (C := RX5) (T := TX5) (N := 10) hx hb hts zinX5 hown hK.1 (zP_reg (L := l_Script Z.2.1 As S.1 S.2.1 S.2.2.1 S.2.2.2.1 S.2.2.2.2.1 S.2.2.2.2.2.1 S.2.2.2.2.2.2.1 S.2.2.2.2.2.2.2.1 S.2.2.2.2.2.2.2.2.1 S.2.2.2.2.2.2.2.2.2) (zP_reg hP 10 rfl) 0 rfl) 0 rfl rfl 0 (by decide) (kn_X1_69 hK.2) (fun _ h9 => h9) rfl (z_d hX1_findNeeds_0 1 rfl) ?_
  refine lv_iconst (v := 1) hx hb (z_d hX1_findNeeds_0 2 rfl) (by decide) ?_
  refine lv_isub hx hb (z_d hX1_findNeeds_0 3 rfl) ?_
  refine z_let hF (fun u1 hu1 hF => ?_)
  refine lv_topE hu1 ?_
  refine lv_istore_n (lv' := [(2, .int u1), (0, .ref (Ag 0)), (1, .ref (As 0))]) hx hb (z_d hX1_findNeeds_0 4 rfl) rfl hl (by decide) rfl (fun ls hl => ?_)
  refine z_bnd hF (fun q14 hq14 hF => ?_)
  refine L7  _ _ _ hq14 _ _ ls hP hD hS (lv_sub hl [1, 2, 0] rfl) (fun H locs ls hP hD hS hl => ?_)
  obtain rfl := Option.some.inj hF
  subst hQ
  subst hA
  exact W.vret hx hb hr (fun t ht hW => zq_mu (by rw [ht]; exact zfl hP) (hS.F ht)) hS.2.2 (z_d hX1_findNeeds_0 42 rfl)
def rm_X1_mustTurn : Room := { frames := 2, cells := 0, slots := 0, locals := 42 }
set_option maxRecDepth 100000 in
set_option maxHeartbeats 4000000 in
theorem c_X1_mustTurn (l : Launch) (Z : zZ) (Ag : Nat → Nat) (As : Nat → Nat) (G : t_Pages) (S : t_Script) (p2 : Int32) (R : Int32) (hF : X1_mustTurn G S p2 = R) : zRO l yX1_mustTurn (zw yX1_mustTurn cX1_mustTurn 3 (some .boolean)) rm_X1_mustTurn Z [.ref (Ag 0), .ref (As 0), .int p2] (List.flatten [w_Pages Z.2.1 Ag G, w_Script Z.2.1 As S]) (some (.int R)) := by
  refine zRO_of (by decide) (Nat.le_of_ble_eq_true rfl) (fun p e s m below meth c hx hb hr hml hown hts hlocks hK Q hQ ls hl hP hS => ?_)
  unfold X1_mustTurn at hF
  have hl : lv_has ls 3 [(0, .ref (Ag 0)), (1, .ref (As 0)), (2, .int p2)] := hl
  have hown : s.vm.findClass RX1 = some m.cls := hown
  have hP : va_P Z.1 vwCl (l_Pages Z.2.1 Ag G.1 G.2.1 G.2.2.1 G.2.2.2.1 G.2.2.2.2.1 G.2.2.2.2.2.1 G.2.2.2.2.2.2.1 G.2.2.2.2.2.2.2.1 G.2.2.2.2.2.2.2.2.1 G.2.2.2.2.2.2.2.2.2.1 G.2.2.2.2.2.2.2.2.2.2.1 G.2.2.2.2.2.2.2.2.2.2.2.1 G.2.2.2.2.2.2.2.2.2.2.2.2.1 G.2.2.2.2.2.2.2.2.2.2.2.2.2 ++ [w_Script Z.2.1 As S]).flatten s.heap := zfr hP
  refine lv_aload_n hx hb (z_d hX1_mustTurn_0 0 rfl) rfl (lv_at hl 0 rfl) ?_
  refine va_get (D := Z.1) (ci := 1) (v := .int G.2.2.2.2.1) (C := RX1) (T := TX1) (N := 14) hx hb hts zinX1 hown hK.1 (zP_reg hP 0 rfl) 0 rfl rfl 4 (by decide) (hts _ k_f_X1_24) (fun _ h9 => h9) rfl (z_d hX1_mustTurn_0 1 rfl) ?_
  refine lv_if_ne (tgt := 9) hx hb (z_d hX1_mustTurn_0 2 rfl) (by decide) (fun hc4 => ?_) (fun hc4 => ?_)
  · have hF := z_neg hc4 hF
    refine lv_aload_n hx hb (z_d hX1_mustTurn_0 5 rfl) rfl (lv_at hl 1 rfl) ?_
    refine va_getN (D := Z.1) (ci := 5) (v := .ref (As 7)) (C := RX5) (T := TX5) (N := 10) hx hb hts zinX5 hown hK.1 (zP_reg (L := l_Script Z.2.1 As S.1 S.2.1 S.2.2.1 S.2.2.2.1 S.2.2.2.2.1 S.2.2.2.2.2.1 S.2.2.2.2.2.2.1 S.2.2.2.2.2.2.2.1 S.2.2.2.2.2.2.2.2.1 S.2.2.2.2.2.2.2.2.2) (zP_reg hP 10 rfl) 0 rfl) 0 rfl rfl 5 (by decide) (kn_X1_117 hK.2) (fun _ h9 => h9) rfl (z_d hX1_mustTurn_0 6 rfl) ?_
    refine lv_iload_n hx hb (z_d hX1_mustTurn_0 7 rfl) rfl (lv_at hl 2 rfl) ?_
    refine z_let hF (fun q1 hq1 hF => ?_)
    refine z_ro_i (z_rV (As := [.int p2]) (rest := []) hx hb hml hown hts vt_X3_at (c_rAt l Z 60 (As 7) (As 8) (by decide) S.2.2.2.2.2.1 p2 _ hq1) rfl rfl ⟨Nat.le_of_ble_eq_true rfl, Nat.le_of_ble_eq_true rfl⟩ k_m_X1_92 zPro_blind (z_recv (q := (RX3, TX3, 1)) (ci := 3) (q0 := 0) hK (zP_reg (L := l_Script Z.2.1 As S.1 S.2.1 S.2.2.1 S.2.2.2.1 S.2.2.2.2.1 S.2.2.2.2.2.1 S.2.2.2.2.2.2.1 S.2.2.2.2.2.2.2.1 S.2.2.2.2.2.2.2.2.1 S.2.2.2.2.2.2.2.2.2) (zP_reg hP 10 rfl) 4 rfl) rfl rfl) (z_prec hK (zP_reg (L := l_Script Z.2.1 As S.1 S.2.1 S.2.2.1 S.2.2.2.1 S.2.2.2.2.1 S.2.2.2.2.2.1 S.2.2.2.2.2.2.1 S.2.2.2.2.2.2.2.1 S.2.2.2.2.2.2.2.2.1 S.2.2.2.2.2.2.2.2.2) (zP_reg hP 10 rfl) 4 rfl)) rfl hl.1 (Nat.le_of_ble_eq_true rfl) (z_d hX1_mustTurn_0 8 rfl) ⟨Nat.zero_le _, Nat.zero_le _⟩) hS hP (fun H locs hP hS => ?_)
    refine lv_iconst (v := (-1)) hx hb (z_d hX1_mustTurn_0 9 rfl) (by decide) ?_
    refine lv_icmp_ne (tgt := 47) hx hb (z_d hX1_mustTurn_0 10 rfl) (by decide) (fun hc18 => ?_) (fun hc18 => ?_)
    · have hF := z_neg hc18 hF
      refine lv_iconst (v := 1) hx hb (z_d hX1_mustTurn_0 25 rfl) (by decide) ?_
      refine lv_goto (tgt := 52) hx hb (z_d hX1_mustTurn_0 26 rfl) (by decide) ?_
      have hz9 : narrow .boolean (.int 1) = .int 1 := rfl
      obtain rfl := hF
      subst hQ
      exact W.zret hx hb hr hz9 (fun t ht hW => zq_ro (hS.F ht)) hS.2.2 (z_d hX1_mustTurn_0 28 rfl)
    · have hF := z_pos hc18 hF
      refine lv_aload_n hx hb (z_d hX1_mustTurn_0 11 rfl) rfl (lv_at hl 1 rfl) ?_
      refine lv_iload_n hx hb (z_d hX1_mustTurn_0 12 rfl) rfl (lv_at hl 2 rfl) ?_
      refine z_let hF (fun q2 hq2 hF => ?_)
      refine z_ro_i (z_rV (As := [.int p2]) (rest := []) hx hb hml hown hts vt_X5_blanksAhead (c_X5_blanksAhead l Z As S p2 _ hq2) rfl rfl ⟨Nat.le_of_ble_eq_true rfl, Nat.le_of_ble_eq_true rfl⟩ k_m_X1_106 zPro_blind (z_recv (q := (RX5, TX5, 10)) (ci := 5) (q0 := 0) hK (zP_reg (L := l_Script Z.2.1 As S.1 S.2.1 S.2.2.1 S.2.2.2.1 S.2.2.2.2.1 S.2.2.2.2.2.1 S.2.2.2.2.2.2.1 S.2.2.2.2.2.2.2.1 S.2.2.2.2.2.2.2.2.1 S.2.2.2.2.2.2.2.2.2) (zP_reg hP 10 rfl) 0 rfl) rfl rfl) (z_prec hK (zP_reg hP 10 rfl)) rfl hl.1 (Nat.le_of_ble_eq_true rfl) (z_d hX1_mustTurn_0 13 rfl) ⟨Nat.zero_le _, Nat.zero_le _⟩) hS hP (fun H locs hP hS => ?_)
      refine lv_aload_n hx hb (z_d hX1_mustTurn_0 14 rfl) rfl (lv_at hl 0 rfl) ?_
      refine va_get (D := Z.1) (ci := 1) (v := .ref (Ag 1)) (C := RX1) (T := TX1) (N := 14) hx hb hts zinX1 hown hK.1 (zP_reg hP 0 rfl) 0 rfl rfl 5 (by decide) (hts _ k_f_X1_32) (fun _ h9 => h9) rfl (z_d hX1_mustTurn_0 15 rfl) ?_
      refine lv_iload_n hx hb (z_d hX1_mustTurn_0 16 rfl) rfl (lv_at hl 2 rfl) ?_
      refine z_let hF (fun q3 hq3 hF => ?_)
      refine z_ro_i (z_rV (As := [.int p2]) (rest := [.int q2]) hx hb hml hown hts vt_X3_at (c_rAt l Z 60 (Ag 1) (Ag 2) (by decide) G.2.2.2.2.2.1 p2 _ hq3) rfl rfl ⟨Nat.le_of_ble_eq_true rfl, Nat.le_of_ble_eq_true rfl⟩ k_m_X1_92 zPro_blind (z_recv (q := (RX3, TX3, 1)) (ci := 3) (q0 := 0) hK (zP_reg hP 1 rfl) rfl rfl) (z_prec hK (zP_reg hP 1 rfl)) rfl hl.1 (Nat.le_of_ble_eq_true rfl) (z_d hX1_mustTurn_0 17 rfl) ⟨Nat.zero_le _, Nat.zero_le _⟩) hS hP (fun H locs hP hS => ?_)
      refine lv_iadd hx hb (z_d hX1_mustTurn_0 18 rfl) ?_
      refine z_let hF (fun u4 hu4 hF => ?_)
      refine lv_topE hu4 ?_
      refine lv_aload_n hx hb (z_d hX1_mustTurn_0 19 rfl) rfl (lv_at hl 0 rfl) ?_
      refine va_get (D := Z.1) (ci := 1) (v := .int G.2.2.2.1) (C := RX1) (T := TX1) (N := 14) hx hb hts zinX1 hown hK.1 (zP_reg hP 0 rfl) 0 rfl rfl 3 (by decide) (hts _ k_f_X1_21) (fun _ h9 => h9) rfl (z_d hX1_mustTurn_0 20 rfl) ?_
      refine lv_aload_n hx hb (z_d hX1_mustTurn_0 21 rfl) rfl (lv_at hl 0 rfl) ?_
      refine va_get (D := Z.1) (ci := 1) (v := .int G.2.2.2.2.1) (C := RX1) (T := TX1) (N := 14) hx hb hts zinX1 hown hK.1 (zP_reg hP 0 rfl) 0 rfl rfl 4 (by decide) (hts _ k_f_X1_24) (fun _ h9 => h9) rfl (z_d hX1_mustTurn_0 22 rfl) ?_
      refine lv_isub hx hb (z_d hX1_mustTurn_0 23 rfl) ?_
      refine z_let hF (fun u5 hu5 hF => ?_)
      refine lv_topE hu5 ?_
      refine lv_icmp_le (tgt := 51) hx hb (z_d hX1_mustTurn_0 24 rfl) (by decide) (fun hc44 => ?_) (fun hc44 => ?_)
      · have hF := z_pos hc44 hF
        refine lv_iconst (v := 0) hx hb (z_d hX1_mustTurn_0 27 rfl) (by decide) ?_
        have hz9 : narrow .boolean (.int 0) = .int 0 := rfl
        obtain rfl := hF
        subst hQ
        exact W.zret hx hb hr hz9 (fun t ht hW => zq_ro (hS.F ht)) hS.2.2 (z_d hX1_mustTurn_0 28 rfl)
      · have hF := z_neg hc44 hF
        refine lv_iconst (v := 1) hx hb (z_d hX1_mustTurn_0 25 rfl) (by decide) ?_
        refine lv_goto (tgt := 52) hx hb (z_d hX1_mustTurn_0 26 rfl) (by decide) ?_
        have hz9 : narrow .boolean (.int 1) = .int 1 := rfl
        obtain rfl := hF
        subst hQ
        exact W.zret hx hb hr hz9 (fun t ht hW => zq_ro (hS.F ht)) hS.2.2 (z_d hX1_mustTurn_0 28 rfl)
  · have hF := z_pos hc4 hF
    refine lv_iconst (v := 0) hx hb (z_d hX1_mustTurn_0 3 rfl) (by decide) ?_
    have hz9 : narrow .boolean (.int 0) = .int 0 := rfl
    obtain rfl := hF
    subst hQ
    exact W.zret hx hb hr hz9 (fun t ht hW => zq_ro (hS.F ht)) hS.2.2 (z_d hX1_mustTurn_0 4 rfl)
def rm_X1_turnPage : Room := { frames := 1, cells := 0, slots := 0, locals := 22 }
set_option maxRecDepth 100000 in
set_option maxHeartbeats 4000000 in
theorem c_X1_turnPage (l : Launch) (Z : zZ) (Ag : Nat → Nat) (G : t_Pages) (R : t_Pages) (hF : X1_turnPage G = R) : zMU l yX1_turnPage (zw yX1_turnPage cX1_turnPage 1 none) rm_X1_turnPage Z [.ref (Ag 0)] (w_Pages Z.2.1 Ag G) (w_Pages Z.2.1 Ag R) none := by
  refine zMU_of (by decide) (Nat.le_of_ble_eq_true rfl) (fun p e s m below meth c hx hb hr hml hown hts hlocks hK A hA Q hQ ls hl hP hD hS => ?_)
  unfold X1_turnPage at hF
  have hl : lv_has ls 1 [(0, .ref (Ag 0))] := hl
  have hown : s.vm.findClass RX1 = some m.cls := hown
  have hP : va_P Z.1 vwCl (l_Pages Z.2.1 Ag G.1 G.2.1 G.2.2.1 G.2.2.2.1 G.2.2.2.2.1 G.2.2.2.2.2.1 G.2.2.2.2.2.2.1 G.2.2.2.2.2.2.2.1 G.2.2.2.2.2.2.2.2.1 G.2.2.2.2.2.2.2.2.2.1 G.2.2.2.2.2.2.2.2.2.2.1 G.2.2.2.2.2.2.2.2.2.2.2.1 G.2.2.2.2.2.2.2.2.2.2.2.2.1 G.2.2.2.2.2.2.2.2.2.2.2.2.2).flatten s.heap := hP
  have hD : va_D A (l_Pages Z.2.1 Ag G.1 G.2.1 G.2.2.1 G.2.2.2.1 G.2.2.2.2.1 G.2.2.2.2.2.1 G.2.2.2.2.2.2.1 G.2.2.2.2.2.2.2.1 G.2.2.2.2.2.2.2.2.1 G.2.2.2.2.2.2.2.2.2.1 G.2.2.2.2.2.2.2.2.2.2.1 G.2.2.2.2.2.2.2.2.2.2.2.1 G.2.2.2.2.2.2.2.2.2.2.2.2.1 G.2.2.2.2.2.2.2.2.2.2.2.2.2).flatten := hD
  refine lv_aload_n hx hb (z_d hX1_turnPage_0 0 rfl) rfl (lv_at hl 0 rfl) ?_
  refine lv_iconst (v := 0) hx hb (z_d hX1_turnPage_0 1 rfl) (by decide) ?_
  refine z_put (Z := Z) (ci := 1) (v := .int 0) (ty := .int) (L := l_Pages Z.2.1 Ag G.1 G.2.1 G.2.2.1 G.2.2.2.1 G.2.2.2.2.1 G.2.2.2.2.2.1 G.2.2.2.2.2.2.1 G.2.2.2.2.2.2.2.1 G.2.2.2.2.2.2.2.2.1 G.2.2.2.2.2.2.2.2.2.1 G.2.2.2.2.2.2.2.2.2.2.1 G.2.2.2.2.2.2.2.2.2.2.2.1 G.2.2.2.2.2.2.2.2.2.2.2.2.1 G.2.2.2.2.2.2.2.2.2.2.2.2.2) (L' := l_Pages Z.2.1 Ag G.1 G.2.1 G.2.2.1 G.2.2.2.1 0 G.2.2.2.2.2.1 G.2.2.2.2.2.2.1 G.2.2.2.2.2.2.2.1 G.2.2.2.2.2.2.2.2.1 G.2.2.2.2.2.2.2.2.2.1 G.2.2.2.2.2.2.2.2.2.2.1 G.2.2.2.2.2.2.2.2.2.2.2.1 G.2.2.2.2.2.2.2.2.2.2.2.2.1 G.2.2.2.2.2.2.2.2.2.2.2.2.2) (C := RX1) (T := TX1) (N := 14) hx hb hts zinX1 tyX1 tyX1_ok nmX1 hown hK hP hD hS 0 rfl rfl 4 (by decide) (hts _ k_f_X1_24) (fun _ h9 => h9) rfl (tyX1_ok 4 (by decide)) rfl rfl (Nat.le_of_ble_eq_true rfl) rfl (z_d hX1_turnPage_0 2 rfl) (fun H locs hP hD hS => ?_)
  refine lv_aload_n hx hb (z_d hX1_turnPage_0 3 rfl) rfl (lv_at hl 0 rfl) ?_
  refine va_get (D := Z.1) (ci := 1) (v := .ref (Ag 13)) (C := RX1) (T := TX1) (N := 14) hx hb hts zinX1 hown hK.1 (zP_reg hP 0 rfl) 0 rfl rfl 11 (by decide) (hts _ k_f_X1_51) (fun _ h9 => h9) rfl (z_d hX1_turnPage_0 4 rfl) ?_
  refine lv_aload_n hx hb (z_d hX1_turnPage_0 5 rfl) rfl (lv_at hl 0 rfl) ?_
  refine va_get (D := Z.1) (ci := 1) (v := .int G.1) (C := RX1) (T := TX1) (N := 14) hx hb hts zinX1 hown hK.1 (zP_reg hP 0 rfl) 0 rfl rfl 0 (by decide) (hts _ k_f_X1_9) (fun _ h9 => h9) rfl (z_d hX1_turnPage_0 6 rfl) ?_
  refine lv_iconst (v := 0) hx hb (z_d hX1_turnPage_0 7 rfl) (by decide) ?_
  refine z_let hF (fun q1 hq1 hF => ?_)
  refine z_mu1 (L := l_Pages Z.2.1 Ag G.1 G.2.1 G.2.2.1 G.2.2.2.1 0 G.2.2.2.2.2.1 G.2.2.2.2.2.2.1 G.2.2.2.2.2.2.2.1 G.2.2.2.2.2.2.2.2.1 G.2.2.2.2.2.2.2.2.2.1 G.2.2.2.2.2.2.2.2.2.2.1 G.2.2.2.2.2.2.2.2.2.2.2.1 G.2.2.2.2.2.2.2.2.2.2.2.2.1 G.2.2.2.2.2.2.2.2.2.2.2.2.2) (L' := l_Pages Z.2.1 Ag G.1 G.2.1 G.2.2.1 G.2.2.2.1 0 G.2.2.2.2.2.1 G.2.2.2.2.2.2.1 G.2.2.2.2.2.2.2.1 G.2.2.2.2.2.2.2.2.1 G.2.2.2.2.2.2.2.2.2.1 G.2.2.2.2.2.2.2.2.2.2.1 q1 G.2.2.2.2.2.2.2.2.2.2.2.2.1 G.2.2.2.2.2.2.2.2.2.2.2.2.2) (z_rV (As := [.int G.1, .int 0]) (rest := []) hx hb hml hown hts vt_X3_put (c_rPut l Z 60 (Ag 13) (Ag 14) (by decide) G.2.2.2.2.2.2.2.2.2.2.2.1 G.1 0 _ hq1) rfl rfl ⟨Nat.le_of_ble_eq_true rfl, Nat.le_of_ble_eq_true rfl⟩ k_m_X1_109 zPmu_blind (z_recv (q := (RX3, TX3, 1)) (ci := 3) (q0 := 0) hK (zP_reg hP 7 rfl) rfl rfl) (z_prem hK (zP_reg hP 7 rfl) (zD_one hD 7 _ rfl)) rfl hl.1 (Nat.le_of_ble_eq_true rfl) (z_d hX1_turnPage_0 8 rfl) ⟨Nat.zero_le _, Nat.zero_le _⟩) hS hP hD 7 rfl rfl rfl (fun H locs hP hD hS => ?_)
  refine W.eq (g2 := F0 m 17 ls []) rfl ?_
  refine lv_aload_n hx hb (z_d hX1_turnPage_0 9 rfl) rfl (lv_at hl 0 rfl) ?_
  refine va_get (D := Z.1) (ci := 1) (v := .ref (Ag 15)) (C := RX1) (T := TX1) (N := 14) hx hb hts zinX1 hown hK.1 (zP_reg hP 0 rfl) 0 rfl rfl 12 (by decide) (hts _ k_f_X1_54) (fun _ h9 => h9) rfl (z_d hX1_turnPage_0 10 rfl) ?_
  refine lv_aload_n hx hb (z_d hX1_turnPage_0 11 rfl) rfl (lv_at hl 0 rfl) ?_
  refine va_get (D := Z.1) (ci := 1) (v := .int G.1) (C := RX1) (T := TX1) (N := 14) hx hb hts zinX1 hown hK.1 (zP_reg hP 0 rfl) 0 rfl rfl 0 (by decide) (hts _ k_f_X1_9) (fun _ h9 => h9) rfl (z_d hX1_turnPage_0 12 rfl) ?_
  refine lv_iconst (v := (-1)) hx hb (z_d hX1_turnPage_0 13 rfl) (by decide) ?_
  refine z_let hF (fun q2 hq2 hF => ?_)
  refine z_mu1 (L := l_Pages Z.2.1 Ag G.1 G.2.1 G.2.2.1 G.2.2.2.1 0 G.2.2.2.2.2.1 G.2.2.2.2.2.2.1 G.2.2.2.2.2.2.2.1 G.2.2.2.2.2.2.2.2.1 G.2.2.2.2.2.2.2.2.2.1 G.2.2.2.2.2.2.2.2.2.2.1 q1 G.2.2.2.2.2.2.2.2.2.2.2.2.1 G.2.2.2.2.2.2.2.2.2.2.2.2.2) (L' := l_Pages Z.2.1 Ag G.1 G.2.1 G.2.2.1 G.2.2.2.1 0 G.2.2.2.2.2.1 G.2.2.2.2.2.2.1 G.2.2.2.2.2.2.2.1 G.2.2.2.2.2.2.2.2.1 G.2.2.2.2.2.2.2.2.2.1 G.2.2.2.2.2.2.2.2.2.2.1 q1 q2 G.2.2.2.2.2.2.2.2.2.2.2.2.2) (z_rV (As := [.int G.1, .int (-1)]) (rest := []) hx hb hml hown hts vt_X3_put (c_rPut l Z 60 (Ag 15) (Ag 16) (by decide) G.2.2.2.2.2.2.2.2.2.2.2.2.1 G.1 (-1) _ hq2) rfl rfl ⟨Nat.le_of_ble_eq_true rfl, Nat.le_of_ble_eq_true rfl⟩ k_m_X1_109 zPmu_blind (z_recv (q := (RX3, TX3, 1)) (ci := 3) (q0 := 0) hK (zP_reg hP 8 rfl) rfl rfl) (z_prem hK (zP_reg hP 8 rfl) (zD_one hD 8 _ rfl)) rfl hl.1 (Nat.le_of_ble_eq_true rfl) (z_d hX1_turnPage_0 14 rfl) ⟨Nat.zero_le _, Nat.zero_le _⟩) hS hP hD 8 rfl rfl rfl (fun H locs hP hD hS => ?_)
  refine W.eq (g2 := F0 m 29 ls []) rfl ?_
  refine lv_aload_n hx hb (z_d hX1_turnPage_0 15 rfl) rfl (lv_at hl 0 rfl) ?_
  refine va_get (D := Z.1) (ci := 1) (v := .ref (Ag 17)) (C := RX1) (T := TX1) (N := 14) hx hb hts zinX1 hown hK.1 (zP_reg hP 0 rfl) 0 rfl rfl 13 (by decide) (hts _ k_f_X1_57) (fun _ h9 => h9) rfl (z_d hX1_turnPage_0 16 rfl) ?_
  refine lv_aload_n hx hb (z_d hX1_turnPage_0 17 rfl) rfl (lv_at hl 0 rfl) ?_
  refine va_get (D := Z.1) (ci := 1) (v := .int G.1) (C := RX1) (T := TX1) (N := 14) hx hb hts zinX1 hown hK.1 (zP_reg hP 0 rfl) 0 rfl rfl 0 (by decide) (hts _ k_f_X1_9) (fun _ h9 => h9) rfl (z_d hX1_turnPage_0 18 rfl) ?_
  refine lv_iconst (v := 0) hx hb (z_d hX1_turnPage_0 19 rfl) (by decide) ?_
  refine z_let hF (fun q3 hq3 hF => ?_)
  refine z_mu1 (L := l_Pages Z.2.1 Ag G.1 G.2.1 G.2.2.1 G.2.2.2.1 0 G.2.2.2.2.2.1 G.2.2.2.2.2.2.1 G.2.2.2.2.2.2.2.1 G.2.2.2.2.2.2.2.2.1 G.2.2.2.2.2.2.2.2.2.1 G.2.2.2.2.2.2.2.2.2.2.1 q1 q2 G.2.2.2.2.2.2.2.2.2.2.2.2.2) (L' := l_Pages Z.2.1 Ag G.1 G.2.1 G.2.2.1 G.2.2.2.1 0 G.2.2.2.2.2.1 G.2.2.2.2.2.2.1 G.2.2.2.2.2.2.2.1 G.2.2.2.2.2.2.2.2.1 G.2.2.2.2.2.2.2.2.2.1 G.2.2.2.2.2.2.2.2.2.2.1 q1 q2 q3) (z_rV (As := [.int G.1, .int 0]) (rest := []) hx hb hml hown hts vt_X3_put (c_rPut l Z 60 (Ag 17) (Ag 18) (by decide) G.2.2.2.2.2.2.2.2.2.2.2.2.2 G.1 0 _ hq3) rfl rfl ⟨Nat.le_of_ble_eq_true rfl, Nat.le_of_ble_eq_true rfl⟩ k_m_X1_109 zPmu_blind (z_recv (q := (RX3, TX3, 1)) (ci := 3) (q0 := 0) hK (zP_reg hP 9 rfl) rfl rfl) (z_prem hK (zP_reg hP 9 rfl) (zD_one hD 9 _ rfl)) rfl hl.1 (Nat.le_of_ble_eq_true rfl) (z_d hX1_turnPage_0 20 rfl) ⟨Nat.zero_le _, Nat.zero_le _⟩) hS hP hD 9 rfl rfl rfl (fun H locs hP hD hS => ?_)
  refine W.eq (g2 := F0 m 41 ls []) rfl ?_
  refine lv_aload_n hx hb (z_d hX1_turnPage_0 21 rfl) rfl (lv_at hl 0 rfl) ?_
  refine lv_dup hx hb (z_d hX1_turnPage_0 22 rfl) rfl ?_
  refine va_get (D := Z.1) (ci := 1) (v := .int G.1) (C := RX1) (T := TX1) (N := 14) hx hb hts zinX1 hown hK.1 (zP_reg hP 0 rfl) 0 rfl rfl 0 (by decide) (hts _ k_f_X1_9) (fun _ h9 => h9) rfl (z_d hX1_turnPage_0 23 rfl) ?_
  refine lv_iconst (v := 1) hx hb (z_d hX1_turnPage_0 24 rfl) (by decide) ?_
  refine lv_iadd hx hb (z_d hX1_turnPage_0 25 rfl) ?_
  refine z_let hF (fun u4 hu4 hF => ?_)
  refine lv_topE hu4 ?_
  refine z_put (Z := Z) (ci := 1) (v := .int u4) (ty := .int) (L := l_Pages Z.2.1 Ag G.1 G.2.1 G.2.2.1 G.2.2.2.1 0 G.2.2.2.2.2.1 G.2.2.2.2.2.2.1 G.2.2.2.2.2.2.2.1 G.2.2.2.2.2.2.2.2.1 G.2.2.2.2.2.2.2.2.2.1 G.2.2.2.2.2.2.2.2.2.2.1 q1 q2 q3) (L' := l_Pages Z.2.1 Ag u4 G.2.1 G.2.2.1 G.2.2.2.1 0 G.2.2.2.2.2.1 G.2.2.2.2.2.2.1 G.2.2.2.2.2.2.2.1 G.2.2.2.2.2.2.2.2.1 G.2.2.2.2.2.2.2.2.2.1 G.2.2.2.2.2.2.2.2.2.2.1 q1 q2 q3) (C := RX1) (T := TX1) (N := 14) hx hb hts zinX1 tyX1 tyX1_ok nmX1 hown hK hP hD hS 0 rfl rfl 0 (by decide) (hts _ k_f_X1_9) (fun _ h9 => h9) rfl (tyX1_ok 0 (by decide)) rfl rfl (Nat.le_of_ble_eq_true rfl) rfl (z_d hX1_turnPage_0 26 rfl) (fun H locs hP hD hS => ?_)
  obtain rfl := hF
  subst hQ
  subst hA
  exact W.vret hx hb hr (fun t ht hW => zq_mu (by rw [ht]; exact hP) (hS.F ht)) hS.2.2 (z_d hX1_turnPage_0 27 rfl)
def rm_X1_fill : Room := { frames := 1, cells := 0, slots := 0, locals := 22 }
set_option maxRecDepth 100000 in
set_option maxHeartbeats 4000000 in
theorem c_X1_fill (l : Launch) (Z : zZ) (Ag : Nat → Nat) (G : t_Pages) (p1 : Int32) (R : t_Pages) (hF : X1_fill G p1 = R) : zMU l yX1_fill (zw yX1_fill cX1_fill 2 none) rm_X1_fill Z [.ref (Ag 0), .int p1] (w_Pages Z.2.1 Ag G) (w_Pages Z.2.1 Ag R) none := by
  refine zMU_of (by decide) (Nat.le_of_ble_eq_true rfl) (fun p e s m below meth c hx hb hr hml hown hts hlocks hK A hA Q hQ ls hl hP hD hS => ?_)
  unfold X1_fill at hF
  have hl : lv_has ls 2 [(0, .ref (Ag 0)), (1, .int p1)] := hl
  have hown : s.vm.findClass RX1 = some m.cls := hown
  have hP : va_P Z.1 vwCl (l_Pages Z.2.1 Ag G.1 G.2.1 G.2.2.1 G.2.2.2.1 G.2.2.2.2.1 G.2.2.2.2.2.1 G.2.2.2.2.2.2.1 G.2.2.2.2.2.2.2.1 G.2.2.2.2.2.2.2.2.1 G.2.2.2.2.2.2.2.2.2.1 G.2.2.2.2.2.2.2.2.2.2.1 G.2.2.2.2.2.2.2.2.2.2.2.1 G.2.2.2.2.2.2.2.2.2.2.2.2.1 G.2.2.2.2.2.2.2.2.2.2.2.2.2).flatten s.heap := hP
  have hD : va_D A (l_Pages Z.2.1 Ag G.1 G.2.1 G.2.2.1 G.2.2.2.1 G.2.2.2.2.1 G.2.2.2.2.2.1 G.2.2.2.2.2.2.1 G.2.2.2.2.2.2.2.1 G.2.2.2.2.2.2.2.2.1 G.2.2.2.2.2.2.2.2.2.1 G.2.2.2.2.2.2.2.2.2.2.1 G.2.2.2.2.2.2.2.2.2.2.2.1 G.2.2.2.2.2.2.2.2.2.2.2.2.1 G.2.2.2.2.2.2.2.2.2.2.2.2.2).flatten := hD
  refine lv_aload_n hx hb (z_d hX1_fill_0 0 rfl) rfl (lv_at hl 0 rfl) ?_
  refine lv_dup hx hb (z_d hX1_fill_0 1 rfl) rfl ?_
  refine va_get (D := Z.1) (ci := 1) (v := .int G.2.2.2.2.1) (C := RX1) (T := TX1) (N := 14) hx hb hts zinX1 hown hK.1 (zP_reg hP 0 rfl) 0 rfl rfl 4 (by decide) (hts _ k_f_X1_24) (fun _ h9 => h9) rfl (z_d hX1_fill_0 2 rfl) ?_
  refine lv_iload_n hx hb (z_d hX1_fill_0 3 rfl) rfl (lv_at hl 1 rfl) ?_
  refine lv_iadd hx hb (z_d hX1_fill_0 4 rfl) ?_
  refine z_let hF (fun u1 hu1 hF => ?_)
  refine lv_topE hu1 ?_
  refine z_put (Z := Z) (ci := 1) (v := .int u1) (ty := .int) (L := l_Pages Z.2.1 Ag G.1 G.2.1 G.2.2.1 G.2.2.2.1 G.2.2.2.2.1 G.2.2.2.2.2.1 G.2.2.2.2.2.2.1 G.2.2.2.2.2.2.2.1 G.2.2.2.2.2.2.2.2.1 G.2.2.2.2.2.2.2.2.2.1 G.2.2.2.2.2.2.2.2.2.2.1 G.2.2.2.2.2.2.2.2.2.2.2.1 G.2.2.2.2.2.2.2.2.2.2.2.2.1 G.2.2.2.2.2.2.2.2.2.2.2.2.2) (L' := l_Pages Z.2.1 Ag G.1 G.2.1 G.2.2.1 G.2.2.2.1 u1 G.2.2.2.2.2.1 G.2.2.2.2.2.2.1 G.2.2.2.2.2.2.2.1 G.2.2.2.2.2.2.2.2.1 G.2.2.2.2.2.2.2.2.2.1 G.2.2.2.2.2.2.2.2.2.2.1 G.2.2.2.2.2.2.2.2.2.2.2.1 G.2.2.2.2.2.2.2.2.2.2.2.2.1 G.2.2.2.2.2.2.2.2.2.2.2.2.2) (C := RX1) (T := TX1) (N := 14) hx hb hts zinX1 tyX1 tyX1_ok nmX1 hown hK hP hD hS 0 rfl rfl 4 (by decide) (hts _ k_f_X1_24) (fun _ h9 => h9) rfl (tyX1_ok 4 (by decide)) rfl rfl (Nat.le_of_ble_eq_true rfl) rfl (z_d hX1_fill_0 5 rfl) (fun H locs hP hD hS => ?_)
  refine lv_aload_n hx hb (z_d hX1_fill_0 6 rfl) rfl (lv_at hl 0 rfl) ?_
  refine va_get (D := Z.1) (ci := 1) (v := .ref (Ag 13)) (C := RX1) (T := TX1) (N := 14) hx hb hts zinX1 hown hK.1 (zP_reg hP 0 rfl) 0 rfl rfl 11 (by decide) (hts _ k_f_X1_51) (fun _ h9 => h9) rfl (z_d hX1_fill_0 7 rfl) ?_
  refine lv_aload_n hx hb (z_d hX1_fill_0 8 rfl) rfl (lv_at hl 0 rfl) ?_
  refine va_get (D := Z.1) (ci := 1) (v := .int G.1) (C := RX1) (T := TX1) (N := 14) hx hb hts zinX1 hown hK.1 (zP_reg hP 0 rfl) 0 rfl rfl 0 (by decide) (hts _ k_f_X1_9) (fun _ h9 => h9) rfl (z_d hX1_fill_0 9 rfl) ?_
  refine lv_iconst (v := 1) hx hb (z_d hX1_fill_0 10 rfl) (by decide) ?_
  refine lv_isub hx hb (z_d hX1_fill_0 11 rfl) ?_
  refine z_let hF (fun u2 hu2 hF => ?_)
  refine lv_topE hu2 ?_
  refine lv_aload_n hx hb (z_d hX1_fill_0 12 rfl) rfl (lv_at hl 0 rfl) ?_
  refine va_get (D := Z.1) (ci := 1) (v := .int u1) (C := RX1) (T := TX1) (N := 14) hx hb hts zinX1 hown hK.1 (zP_reg hP 0 rfl) 0 rfl rfl 4 (by decide) (hts _ k_f_X1_24) (fun _ h9 => h9) rfl (z_d hX1_fill_0 13 rfl) ?_
  refine z_let hF (fun q3 hq3 hF => ?_)
  refine z_mu1 (L := l_Pages Z.2.1 Ag G.1 G.2.1 G.2.2.1 G.2.2.2.1 u1 G.2.2.2.2.2.1 G.2.2.2.2.2.2.1 G.2.2.2.2.2.2.2.1 G.2.2.2.2.2.2.2.2.1 G.2.2.2.2.2.2.2.2.2.1 G.2.2.2.2.2.2.2.2.2.2.1 G.2.2.2.2.2.2.2.2.2.2.2.1 G.2.2.2.2.2.2.2.2.2.2.2.2.1 G.2.2.2.2.2.2.2.2.2.2.2.2.2) (L' := l_Pages Z.2.1 Ag G.1 G.2.1 G.2.2.1 G.2.2.2.1 u1 G.2.2.2.2.2.1 G.2.2.2.2.2.2.1 G.2.2.2.2.2.2.2.1 G.2.2.2.2.2.2.2.2.1 G.2.2.2.2.2.2.2.2.2.1 G.2.2.2.2.2.2.2.2.2.2.1 q3 G.2.2.2.2.2.2.2.2.2.2.2.2.1 G.2.2.2.2.2.2.2.2.2.2.2.2.2) (z_rV (As := [.int u2, .int u1]) (rest := []) hx hb hml hown hts vt_X3_put (c_rPut l Z 60 (Ag 13) (Ag 14) (by decide) G.2.2.2.2.2.2.2.2.2.2.2.1 u2 u1 _ hq3) rfl rfl ⟨Nat.le_of_ble_eq_true rfl, Nat.le_of_ble_eq_true rfl⟩ k_m_X1_109 zPmu_blind (z_recv (q := (RX3, TX3, 1)) (ci := 3) (q0 := 0) hK (zP_reg hP 7 rfl) rfl rfl) (z_prem hK (zP_reg hP 7 rfl) (zD_one hD 7 _ rfl)) rfl hl.1 (Nat.le_of_ble_eq_true rfl) (z_d hX1_fill_0 14 rfl) ⟨Nat.zero_le _, Nat.zero_le _⟩) hS hP hD 7 rfl rfl rfl (fun H locs hP hD hS => ?_)
  refine W.eq (g2 := F0 m 27 ls []) rfl ?_
  obtain rfl := hF
  subst hQ
  subst hA
  exact W.vret hx hb hr (fun t ht hW => zq_mu (by rw [ht]; exact hP) (hS.F ht)) hS.2.2 (z_d hX1_fill_0 15 rfl)
def rm_X1_noteBegin : Room := { frames := 1, cells := 0, slots := 0, locals := 22 }
set_option maxRecDepth 100000 in
set_option maxHeartbeats 4000000 in
theorem c_X1_noteBegin (l : Launch) (Z : zZ) (Ag : Nat → Nat) (G : t_Pages) (p1 : Int32) (p2 : Int32) (R : t_Pages) (hF : X1_noteBegin G p1 p2 = R) : zMU l yX1_noteBegin (zw yX1_noteBegin cX1_noteBegin 4 none) rm_X1_noteBegin Z [.ref (Ag 0), .int p1, .int p2] (w_Pages Z.2.1 Ag G) (w_Pages Z.2.1 Ag R) none := by
  refine zMU_of (by decide) (Nat.le_of_ble_eq_true rfl) (fun p e s m below meth c hx hb hr hml hown hts hlocks hK A hA Q hQ ls hl hP hD hS => ?_)
  unfold X1_noteBegin at hF
  have hl : lv_has ls 4 [(0, .ref (Ag 0)), (1, .int p1), (2, .int p2)] := hl
  have hown : s.vm.findClass RX1 = some m.cls := hown
  have hP : va_P Z.1 vwCl (l_Pages Z.2.1 Ag G.1 G.2.1 G.2.2.1 G.2.2.2.1 G.2.2.2.2.1 G.2.2.2.2.2.1 G.2.2.2.2.2.2.1 G.2.2.2.2.2.2.2.1 G.2.2.2.2.2.2.2.2.1 G.2.2.2.2.2.2.2.2.2.1 G.2.2.2.2.2.2.2.2.2.2.1 G.2.2.2.2.2.2.2.2.2.2.2.1 G.2.2.2.2.2.2.2.2.2.2.2.2.1 G.2.2.2.2.2.2.2.2.2.2.2.2.2).flatten s.heap := hP
  have hD : va_D A (l_Pages Z.2.1 Ag G.1 G.2.1 G.2.2.1 G.2.2.2.1 G.2.2.2.2.1 G.2.2.2.2.2.1 G.2.2.2.2.2.2.1 G.2.2.2.2.2.2.2.1 G.2.2.2.2.2.2.2.2.1 G.2.2.2.2.2.2.2.2.2.1 G.2.2.2.2.2.2.2.2.2.2.1 G.2.2.2.2.2.2.2.2.2.2.2.1 G.2.2.2.2.2.2.2.2.2.2.2.2.1 G.2.2.2.2.2.2.2.2.2.2.2.2.2).flatten := hD
  refine lv_aload_n hx hb (z_d hX1_noteBegin_0 0 rfl) rfl (lv_at hl 0 rfl) ?_
  refine va_get (D := Z.1) (ci := 1) (v := .int G.1) (C := RX1) (T := TX1) (N := 14) hx hb hts zinX1 hown hK.1 (zP_reg hP 0 rfl) 0 rfl rfl 0 (by decide) (hts _ k_f_X1_9) (fun _ h9 => h9) rfl (z_d hX1_noteBegin_0 1 rfl) ?_
  refine lv_iconst (v := 1) hx hb (z_d hX1_noteBegin_0 2 rfl) (by decide) ?_
  refine lv_isub hx hb (z_d hX1_noteBegin_0 3 rfl) ?_
  refine z_let hF (fun u1 hu1 hF => ?_)
  refine lv_topE hu1 ?_
  refine lv_istore_n (lv' := [(3, .int u1), (0, .ref (Ag 0)), (1, .int p1), (2, .int p2)]) hx hb (z_d hX1_noteBegin_0 4 rfl) rfl hl (by decide) rfl (fun ls hl => ?_)
  refine lv_aload_n hx hb (z_d hX1_noteBegin_0 5 rfl) rfl (lv_at hl 1 rfl) ?_
  refine va_get (D := Z.1) (ci := 1) (v := .ref (Ag 3)) (C := RX1) (T := TX1) (N := 14) hx hb hts zinX1 hown hK.1 (zP_reg hP 0 rfl) 0 rfl rfl 6 (by decide) (hts _ k_f_X1_36) (fun _ h9 => h9) rfl (z_d hX1_noteBegin_0 6 rfl) ?_
  refine lv_iload_n hx hb (z_d hX1_noteBegin_0 7 rfl) rfl (lv_at hl 2 rfl) ?_
  refine lv_iload_n hx hb (z_d hX1_noteBegin_0 8 rfl) rfl (lv_at hl 0 rfl) ?_
  refine z_let hF (fun q2 hq2 hF => ?_)
  refine z_mu1 (L := l_Pages Z.2.1 Ag G.1 G.2.1 G.2.2.1 G.2.2.2.1 G.2.2.2.2.1 G.2.2.2.2.2.1 G.2.2.2.2.2.2.1 G.2.2.2.2.2.2.2.1 G.2.2.2.2.2.2.2.2.1 G.2.2.2.2.2.2.2.2.2.1 G.2.2.2.2.2.2.2.2.2.2.1 G.2.2.2.2.2.2.2.2.2.2.2.1 G.2.2.2.2.2.2.2.2.2.2.2.2.1 G.2.2.2.2.2.2.2.2.2.2.2.2.2) (L' := l_Pages Z.2.1 Ag G.1 G.2.1 G.2.2.1 G.2.2.2.1 G.2.2.2.2.1 G.2.2.2.2.2.1 q2 G.2.2.2.2.2.2.2.1 G.2.2.2.2.2.2.2.2.1 G.2.2.2.2.2.2.2.2.2.1 G.2.2.2.2.2.2.2.2.2.2.1 G.2.2.2.2.2.2.2.2.2.2.2.1 G.2.2.2.2.2.2.2.2.2.2.2.2.1 G.2.2.2.2.2.2.2.2.2.2.2.2.2) (z_rV (As := [.int p1, .int u1]) (rest := []) hx hb hml hown hts vt_X3_put (c_rPut l Z 60 (Ag 3) (Ag 4) (by decide) G.2.2.2.2.2.2.1 p1 u1 _ hq2) rfl rfl ⟨Nat.le_of_ble_eq_true rfl, Nat.le_of_ble_eq_true rfl⟩ k_m_X1_109 zPmu_blind (z_recv (q := (RX3, TX3, 1)) (ci := 3) (q0 := 0) hK (zP_reg hP 2 rfl) rfl rfl) (z_prem hK (zP_reg hP 2 rfl) (zD_one hD 2 _ rfl)) rfl hl.1 (Nat.le_of_ble_eq_true rfl) (z_d hX1_noteBegin_0 9 rfl) ⟨Nat.zero_le _, Nat.zero_le _⟩) hS hP hD 2 rfl rfl rfl (fun H locs hP hD hS => ?_)
  refine W.eq (g2 := F0 m 16 ls []) rfl ?_
  refine lv_aload_n hx hb (z_d hX1_noteBegin_0 10 rfl) rfl (lv_at hl 1 rfl) ?_
  refine va_get (D := Z.1) (ci := 1) (v := .ref (Ag 5)) (C := RX1) (T := TX1) (N := 14) hx hb hts zinX1 hown hK.1 (zP_reg hP 0 rfl) 0 rfl rfl 7 (by decide) (hts _ k_f_X1_39) (fun _ h9 => h9) rfl (z_d hX1_noteBegin_0 11 rfl) ?_
  refine lv_iload_n hx hb (z_d hX1_noteBegin_0 12 rfl) rfl (lv_at hl 2 rfl) ?_
  refine lv_aload_n hx hb (z_d hX1_noteBegin_0 13 rfl) rfl (lv_at hl 1 rfl) ?_
  refine va_get (D := Z.1) (ci := 1) (v := .int G.2.2.2.2.1) (C := RX1) (T := TX1) (N := 14) hx hb hts zinX1 hown hK.1 (zP_reg hP 0 rfl) 0 rfl rfl 4 (by decide) (hts _ k_f_X1_24) (fun _ h9 => h9) rfl (z_d hX1_noteBegin_0 14 rfl) ?_
  refine z_let hF (fun q3 hq3 hF => ?_)
  refine z_mu1 (L := l_Pages Z.2.1 Ag G.1 G.2.1 G.2.2.1 G.2.2.2.1 G.2.2.2.2.1 G.2.2.2.2.2.1 q2 G.2.2.2.2.2.2.2.1 G.2.2.2.2.2.2.2.2.1 G.2.2.2.2.2.2.2.2.2.1 G.2.2.2.2.2.2.2.2.2.2.1 G.2.2.2.2.2.2.2.2.2.2.2.1 G.2.2.2.2.2.2.2.2.2.2.2.2.1 G.2.2.2.2.2.2.2.2.2.2.2.2.2) (L' := l_Pages Z.2.1 Ag G.1 G.2.1 G.2.2.1 G.2.2.2.1 G.2.2.2.2.1 G.2.2.2.2.2.1 q2 q3 G.2.2.2.2.2.2.2.2.1 G.2.2.2.2.2.2.2.2.2.1 G.2.2.2.2.2.2.2.2.2.2.1 G.2.2.2.2.2.2.2.2.2.2.2.1 G.2.2.2.2.2.2.2.2.2.2.2.2.1 G.2.2.2.2.2.2.2.2.2.2.2.2.2) (z_rV (As := [.int p1, .int G.2.2.2.2.1]) (rest := []) hx hb hml hown hts vt_X3_put (c_rPut l Z 60 (Ag 5) (Ag 6) (by decide) G.2.2.2.2.2.2.2.1 p1 G.2.2.2.2.1 _ hq3) rfl rfl ⟨Nat.le_of_ble_eq_true rfl, Nat.le_of_ble_eq_true rfl⟩ k_m_X1_109 zPmu_blind (z_recv (q := (RX3, TX3, 1)) (ci := 3) (q0 := 0) hK (zP_reg hP 3 rfl) rfl rfl) (z_prem hK (zP_reg hP 3 rfl) (zD_one hD 3 _ rfl)) rfl hl.1 (Nat.le_of_ble_eq_true rfl) (z_d hX1_noteBegin_0 15 rfl) ⟨Nat.zero_le _, Nat.zero_le _⟩) hS hP hD 3 rfl rfl rfl (fun H locs hP hD hS => ?_)
  refine W.eq (g2 := F0 m 28 ls []) rfl ?_
  refine lv_aload_n hx hb (z_d hX1_noteBegin_0 16 rfl) rfl (lv_at hl 1 rfl) ?_
  refine va_get (D := Z.1) (ci := 1) (v := .ref (Ag 7)) (C := RX1) (T := TX1) (N := 14) hx hb hts zinX1 hown hK.1 (zP_reg hP 0 rfl) 0 rfl rfl 8 (by decide) (hts _ k_f_X1_42) (fun _ h9 => h9) rfl (z_d hX1_noteBegin_0 17 rfl) ?_
  refine lv_iload_n hx hb (z_d hX1_noteBegin_0 18 rfl) rfl (lv_at hl 2 rfl) ?_
  refine lv_iload_n hx hb (z_d hX1_noteBegin_0 19 rfl) rfl (lv_at hl 3 rfl) ?_
  refine z_let hF (fun q4 hq4 hF => ?_)
  refine z_mu1 (L := l_Pages Z.2.1 Ag G.1 G.2.1 G.2.2.1 G.2.2.2.1 G.2.2.2.2.1 G.2.2.2.2.2.1 q2 q3 G.2.2.2.2.2.2.2.2.1 G.2.2.2.2.2.2.2.2.2.1 G.2.2.2.2.2.2.2.2.2.2.1 G.2.2.2.2.2.2.2.2.2.2.2.1 G.2.2.2.2.2.2.2.2.2.2.2.2.1 G.2.2.2.2.2.2.2.2.2.2.2.2.2) (L' := l_Pages Z.2.1 Ag G.1 G.2.1 G.2.2.1 G.2.2.2.1 G.2.2.2.2.1 G.2.2.2.2.2.1 q2 q3 q4 G.2.2.2.2.2.2.2.2.2.1 G.2.2.2.2.2.2.2.2.2.2.1 G.2.2.2.2.2.2.2.2.2.2.2.1 G.2.2.2.2.2.2.2.2.2.2.2.2.1 G.2.2.2.2.2.2.2.2.2.2.2.2.2) (z_rV (As := [.int p1, .int p2]) (rest := []) hx hb hml hown hts vt_X3_put (c_rPut l Z 60 (Ag 7) (Ag 8) (by decide) G.2.2.2.2.2.2.2.2.1 p1 p2 _ hq4) rfl rfl ⟨Nat.le_of_ble_eq_true rfl, Nat.le_of_ble_eq_true rfl⟩ k_m_X1_109 zPmu_blind (z_recv (q := (RX3, TX3, 1)) (ci := 3) (q0 := 0) hK (zP_reg hP 4 rfl) rfl rfl) (z_prem hK (zP_reg hP 4 rfl) (zD_one hD 4 _ rfl)) rfl hl.1 (Nat.le_of_ble_eq_true rfl) (z_d hX1_noteBegin_0 20 rfl) ⟨Nat.zero_le _, Nat.zero_le _⟩) hS hP hD 4 rfl rfl rfl (fun H locs hP hD hS => ?_)
  refine W.eq (g2 := F0 m 37 ls []) rfl ?_
  refine lv_aload_n hx hb (z_d hX1_noteBegin_0 21 rfl) rfl (lv_at hl 1 rfl) ?_
  refine va_get (D := Z.1) (ci := 1) (v := .ref (Ag 17)) (C := RX1) (T := TX1) (N := 14) hx hb hts zinX1 hown hK.1 (zP_reg hP 0 rfl) 0 rfl rfl 13 (by decide) (hts _ k_f_X1_57) (fun _ h9 => h9) rfl (z_d hX1_noteBegin_0 22 rfl) ?_
  refine lv_iload_n hx hb (z_d hX1_noteBegin_0 23 rfl) rfl (lv_at hl 0 rfl) ?_
  refine lv_iconst (v := 1) hx hb (z_d hX1_noteBegin_0 24 rfl) (by decide) ?_
  refine z_let hF (fun q5 hq5 hF => ?_)
  refine z_mu1 (L := l_Pages Z.2.1 Ag G.1 G.2.1 G.2.2.1 G.2.2.2.1 G.2.2.2.2.1 G.2.2.2.2.2.1 q2 q3 q4 G.2.2.2.2.2.2.2.2.2.1 G.2.2.2.2.2.2.2.2.2.2.1 G.2.2.2.2.2.2.2.2.2.2.2.1 G.2.2.2.2.2.2.2.2.2.2.2.2.1 G.2.2.2.2.2.2.2.2.2.2.2.2.2) (L' := l_Pages Z.2.1 Ag G.1 G.2.1 G.2.2.1 G.2.2.2.1 G.2.2.2.2.1 G.2.2.2.2.2.1 q2 q3 q4 G.2.2.2.2.2.2.2.2.2.1 G.2.2.2.2.2.2.2.2.2.2.1 G.2.2.2.2.2.2.2.2.2.2.2.1 G.2.2.2.2.2.2.2.2.2.2.2.2.1 q5) (z_rV (As := [.int u1, .int 1]) (rest := []) hx hb hml hown hts vt_X3_plus (c_rPlus l Z 60 (Ag 17) (Ag 18) (by decide) G.2.2.2.2.2.2.2.2.2.2.2.2.2 u1 1 _ hq5) rfl rfl ⟨Nat.le_of_ble_eq_true rfl, Nat.le_of_ble_eq_true rfl⟩ k_m_X1_138 zPmu_blind (z_recv (q := (RX3, TX3, 1)) (ci := 3) (q0 := 0) hK (zP_reg hP 9 rfl) rfl rfl) (z_prem hK (zP_reg hP 9 rfl) (zD_one hD 9 _ rfl)) rfl hl.1 (Nat.le_of_ble_eq_true rfl) (z_d hX1_noteBegin_0 25 rfl) ⟨Nat.zero_le _, Nat.zero_le _⟩) hS hP hD 9 rfl rfl rfl (fun H locs hP hD hS => ?_)
  refine W.eq (g2 := F0 m 46 ls []) rfl ?_
  refine lv_aload_n hx hb (z_d hX1_noteBegin_0 26 rfl) rfl (lv_at hl 1 rfl) ?_
  refine va_get (D := Z.1) (ci := 1) (v := .ref (Ag 15)) (C := RX1) (T := TX1) (N := 14) hx hb hts zinX1 hown hK.1 (zP_reg hP 0 rfl) 0 rfl rfl 12 (by decide) (hts _ k_f_X1_54) (fun _ h9 => h9) rfl (z_d hX1_noteBegin_0 27 rfl) ?_
  refine lv_iload_n hx hb (z_d hX1_noteBegin_0 28 rfl) rfl (lv_at hl 0 rfl) ?_
  refine z_let hF (fun q6 hq6 hF => ?_)
  refine z_ro_i (z_rV (As := [.int u1]) (rest := []) hx hb hml hown hts vt_X3_at (c_rAt l Z 60 (Ag 15) (Ag 16) (by decide) G.2.2.2.2.2.2.2.2.2.2.2.2.1 u1 _ hq6) rfl rfl ⟨Nat.le_of_ble_eq_true rfl, Nat.le_of_ble_eq_true rfl⟩ k_m_X1_92 zPro_blind (z_recv (q := (RX3, TX3, 1)) (ci := 3) (q0 := 0) hK (zP_reg hP 8 rfl) rfl rfl) (z_prec hK (zP_reg hP 8 rfl)) rfl hl.1 (Nat.le_of_ble_eq_true rfl) (z_d hX1_noteBegin_0 29 rfl) ⟨Nat.zero_le _, Nat.zero_le _⟩) hS hP (fun H locs hP hS => ?_)
  refine lv_iconst (v := (-1)) hx hb (z_d hX1_noteBegin_0 30 rfl) (by decide) ?_
  refine lv_icmp_ne (tgt := 67) hx hb (z_d hX1_noteBegin_0 31 rfl) (by decide) (fun hc55 => ?_) (fun hc55 => ?_)
  · have hF := z_neg hc55 hF
    obtain rfl := hF
    subst hQ
    subst hA
    exact W.vret hx hb hr (fun t ht hW => zq_mu (by rw [ht]; exact hP) (hS.F ht)) hS.2.2 (z_d hX1_noteBegin_0 37 rfl)
  · have hF := z_pos hc55 hF
    refine lv_aload_n hx hb (z_d hX1_noteBegin_0 32 rfl) rfl (lv_at hl 1 rfl) ?_
    refine va_get (D := Z.1) (ci := 1) (v := .ref (Ag 15)) (C := RX1) (T := TX1) (N := 14) hx hb hts zinX1 hown hK.1 (zP_reg hP 0 rfl) 0 rfl rfl 12 (by decide) (hts _ k_f_X1_54) (fun _ h9 => h9) rfl (z_d hX1_noteBegin_0 33 rfl) ?_
    refine lv_iload_n hx hb (z_d hX1_noteBegin_0 34 rfl) rfl (lv_at hl 0 rfl) ?_
    refine lv_iload_n hx hb (z_d hX1_noteBegin_0 35 rfl) rfl (lv_at hl 2 rfl) ?_
    refine z_let hF (fun q7 hq7 hF => ?_)
    refine z_mu1 (L := l_Pages Z.2.1 Ag G.1 G.2.1 G.2.2.1 G.2.2.2.1 G.2.2.2.2.1 G.2.2.2.2.2.1 q2 q3 q4 G.2.2.2.2.2.2.2.2.2.1 G.2.2.2.2.2.2.2.2.2.2.1 G.2.2.2.2.2.2.2.2.2.2.2.1 G.2.2.2.2.2.2.2.2.2.2.2.2.1 q5) (L' := l_Pages Z.2.1 Ag G.1 G.2.1 G.2.2.1 G.2.2.2.1 G.2.2.2.2.1 G.2.2.2.2.2.1 q2 q3 q4 G.2.2.2.2.2.2.2.2.2.1 G.2.2.2.2.2.2.2.2.2.2.1 G.2.2.2.2.2.2.2.2.2.2.2.1 q7 q5) (z_rV (As := [.int u1, .int p1]) (rest := []) hx hb hml hown hts vt_X3_put (c_rPut l Z 60 (Ag 15) (Ag 16) (by decide) G.2.2.2.2.2.2.2.2.2.2.2.2.1 u1 p1 _ hq7) rfl rfl ⟨Nat.le_of_ble_eq_true rfl, Nat.le_of_ble_eq_true rfl⟩ k_m_X1_109 zPmu_blind (z_recv (q := (RX3, TX3, 1)) (ci := 3) (q0 := 0) hK (zP_reg hP 8 rfl) rfl rfl) (z_prem hK (zP_reg hP 8 rfl) (zD_one hD 8 _ rfl)) rfl hl.1 (Nat.le_of_ble_eq_true rfl) (z_d hX1_noteBegin_0 36 rfl) ⟨Nat.zero_le _, Nat.zero_le _⟩) hS hP hD 8 rfl rfl rfl (fun H locs hP hD hS => ?_)
    refine W.eq (g2 := F0 m 67 ls []) rfl ?_
    obtain rfl := hF
    subst hQ
    subst hA
    exact W.vret hx hb hr (fun t ht hW => zq_mu (by rw [ht]; exact hP) (hS.F ht)) hS.2.2 (z_d hX1_noteBegin_0 37 rfl)
def rm_X1_carryOver : Room := { frames := 2, cells := 0, slots := 0, locals := 43 }
set_option maxRecDepth 100000 in
set_option maxHeartbeats 4000000 in
theorem c_X1_carryOver (l : Launch) (Z : zZ) (Ag : Nat → Nat) (G : t_Pages) (p1 : Int32) (p2 : Int32) (R : t_Pages) (hF : X1_carryOver G p1 p2 = R) : zMU l yX1_carryOver (zw yX1_carryOver cX1_carryOver 4 none) rm_X1_carryOver Z [.ref (Ag 0), .int p1, .int p2] (w_Pages Z.2.1 Ag G) (w_Pages Z.2.1 Ag R) none := by
  refine zMU_of (by decide) (Nat.le_of_ble_eq_true rfl) (fun p e s m below meth c hx hb hr hml hown hts hlocks hK A hA Q hQ ls hl hP hD hS => ?_)
  unfold X1_carryOver at hF
  have hl : lv_has ls 4 [(0, .ref (Ag 0)), (1, .int p1), (2, .int p2)] := hl
  have hown : s.vm.findClass RX1 = some m.cls := hown
  have hP : va_P Z.1 vwCl (l_Pages Z.2.1 Ag G.1 G.2.1 G.2.2.1 G.2.2.2.1 G.2.2.2.2.1 G.2.2.2.2.2.1 G.2.2.2.2.2.2.1 G.2.2.2.2.2.2.2.1 G.2.2.2.2.2.2.2.2.1 G.2.2.2.2.2.2.2.2.2.1 G.2.2.2.2.2.2.2.2.2.2.1 G.2.2.2.2.2.2.2.2.2.2.2.1 G.2.2.2.2.2.2.2.2.2.2.2.2.1 G.2.2.2.2.2.2.2.2.2.2.2.2.2).flatten s.heap := hP
  have hD : va_D A (l_Pages Z.2.1 Ag G.1 G.2.1 G.2.2.1 G.2.2.2.1 G.2.2.2.2.1 G.2.2.2.2.2.1 G.2.2.2.2.2.2.1 G.2.2.2.2.2.2.2.1 G.2.2.2.2.2.2.2.2.1 G.2.2.2.2.2.2.2.2.2.1 G.2.2.2.2.2.2.2.2.2.2.1 G.2.2.2.2.2.2.2.2.2.2.2.1 G.2.2.2.2.2.2.2.2.2.2.2.2.1 G.2.2.2.2.2.2.2.2.2.2.2.2.2).flatten := hD
  have J10 : ∀ (G : t_Pages) (z0 : Int32) (hF : j_X1_carryOver_10 p1 p2 G z0 = R) (H : Heap) (locs : List Loc) (ls : Array Slot) (hP : va_P Z.1 vwCl (l_Pages Z.2.1 Ag G.1 G.2.1 G.2.2.1 G.2.2.2.1 G.2.2.2.2.1 G.2.2.2.2.2.1 G.2.2.2.2.2.2.1 G.2.2.2.2.2.2.2.1 G.2.2.2.2.2.2.2.2.1 G.2.2.2.2.2.2.2.2.2.1 G.2.2.2.2.2.2.2.2.2.2.1 G.2.2.2.2.2.2.2.2.2.2.2.1 G.2.2.2.2.2.2.2.2.2.2.2.2.1 G.2.2.2.2.2.2.2.2.2.2.2.2.2).flatten H) (hD : va_D A (l_Pages Z.2.1 Ag G.1 G.2.1 G.2.2.1 G.2.2.2.1 G.2.2.2.2.1 G.2.2.2.2.2.1 G.2.2.2.2.2.2.1 G.2.2.2.2.2.2.2.1 G.2.2.2.2.2.2.2.2.1 G.2.2.2.2.2.2.2.2.2.1 G.2.2.2.2.2.2.2.2.2.2.1 G.2.2.2.2.2.2.2.2.2.2.2.1 G.2.2.2.2.2.2.2.2.2.2.2.2.1 G.2.2.2.2.2.2.2.2.2.2.2.2.2).flatten) (hS : va_S A s.heap H locs) (hl : lv_has ls 4 [(0, .ref (Ag 0)), (1, .int p1), (2, .int p2)]), W p l e rm_X1_carryOver s m ([.ref (Ag 0), .int p1, .int p2] : List Value).toArray below meth c H locs 0 0 Q (F0 m 10 ls [.int z0]) := by
    intro G z0 hF H locs ls hP hD hS hl
    unfold j_X1_carryOver_10 at hF
    refine lv_istore_n (lv' := [(3, .int z0), (0, .ref (Ag 0)), (1, .int p1), (2, .int p2)]) hx hb (z_d hX1_carryOver_0 6 rfl) rfl hl (by decide) rfl (fun ls hl => ?_)
    refine lv_aload_n hx hb (z_d hX1_carryOver_0 7 rfl) rfl (lv_at hl 1 rfl) ?_
    refine lv_iload_n hx hb (z_d hX1_carryOver_0 8 rfl) rfl (lv_at hl 0 rfl) ?_
    refine z_let hF (fun q1 hq1 hF => ?_)
    refine z_mu0 (z_rV (As := [.int z0]) (rest := []) hx hb hml hown hts vt_X1_fill (c_X1_fill l Z Ag G z0 _ hq1) rfl rfl ⟨Nat.le_of_ble_eq_true rfl, Nat.le_of_ble_eq_true rfl⟩ k_m_X1_120 zPmu_blind (z_recv (q := (RX1, TX1, 14)) (ci := 1) (q0 := 0) hK (zP_reg hP 0 rfl) rfl rfl) (z_prem hK hP hD) rfl hl.1 (Nat.le_of_ble_eq_true rfl) (z_d hX1_carryOver_0 9 rfl) ⟨Nat.zero_le _, Nat.zero_le _⟩) hS hD (adr_Pages _ _ _ _) (fun H locs hP hD hS => ?_)
    have hP : va_P Z.1 vwCl (l_Pages Z.2.1 Ag q1.1 q1.2.1 q1.2.2.1 q1.2.2.2.1 q1.2.2.2.2.1 q1.2.2.2.2.2.1 q1.2.2.2.2.2.2.1 q1.2.2.2.2.2.2.2.1 q1.2.2.2.2.2.2.2.2.1 q1.2.2.2.2.2.2.2.2.2.1 q1.2.2.2.2.2.2.2.2.2.2.1 q1.2.2.2.2.2.2.2.2.2.2.2.1 q1.2.2.2.2.2.2.2.2.2.2.2.2.1 q1.2.2.2.2.2.2.2.2.2.2.2.2.2).flatten H := hP
    have hD : va_D A (l_Pages Z.2.1 Ag q1.1 q1.2.1 q1.2.2.1 q1.2.2.2.1 q1.2.2.2.2.1 q1.2.2.2.2.2.1 q1.2.2.2.2.2.2.1 q1.2.2.2.2.2.2.2.1 q1.2.2.2.2.2.2.2.2.1 q1.2.2.2.2.2.2.2.2.2.1 q1.2.2.2.2.2.2.2.2.2.2.1 q1.2.2.2.2.2.2.2.2.2.2.2.1 q1.2.2.2.2.2.2.2.2.2.2.2.2.1 q1.2.2.2.2.2.2.2.2.2.2.2.2.2).flatten := hD
    refine W.eq (g2 := F0 m 16 ls []) rfl ?_
    refine lv_aload_n hx hb (z_d hX1_carryOver_0 10 rfl) rfl (lv_at hl 1 rfl) ?_
    refine z_let hF (fun q2 hq2 hF => ?_)
    refine z_mu0 (z_rV (As := []) (rest := []) hx hb hml hown hts vt_X1_turnPage (c_X1_turnPage l Z Ag q1 _ hq2) rfl rfl ⟨Nat.le_of_ble_eq_true rfl, Nat.le_of_ble_eq_true rfl⟩ k_m_X1_76 zPmu_blind (z_recv (q := (RX1, TX1, 14)) (ci := 1) (q0 := 0) hK (zP_reg hP 0 rfl) rfl rfl) (z_prem hK hP hD) rfl hl.1 (Nat.le_of_ble_eq_true rfl) (z_d hX1_carryOver_0 11 rfl) ⟨Nat.zero_le _, Nat.zero_le _⟩) hS hD (adr_Pages _ _ _ _) (fun H locs hP hD hS => ?_)
    have hP : va_P Z.1 vwCl (l_Pages Z.2.1 Ag q2.1 q2.2.1 q2.2.2.1 q2.2.2.2.1 q2.2.2.2.2.1 q2.2.2.2.2.2.1 q2.2.2.2.2.2.2.1 q2.2.2.2.2.2.2.2.1 q2.2.2.2.2.2.2.2.2.1 q2.2.2.2.2.2.2.2.2.2.1 q2.2.2.2.2.2.2.2.2.2.2.1 q2.2.2.2.2.2.2.2.2.2.2.2.1 q2.2.2.2.2.2.2.2.2.2.2.2.2.1 q2.2.2.2.2.2.2.2.2.2.2.2.2.2).flatten H := hP
    have hD : va_D A (l_Pages Z.2.1 Ag q2.1 q2.2.1 q2.2.2.1 q2.2.2.2.1 q2.2.2.2.2.1 q2.2.2.2.2.2.1 q2.2.2.2.2.2.2.1 q2.2.2.2.2.2.2.2.1 q2.2.2.2.2.2.2.2.2.1 q2.2.2.2.2.2.2.2.2.2.1 q2.2.2.2.2.2.2.2.2.2.2.1 q2.2.2.2.2.2.2.2.2.2.2.2.1 q2.2.2.2.2.2.2.2.2.2.2.2.2.1 q2.2.2.2.2.2.2.2.2.2.2.2.2.2).flatten := hD
    refine W.eq (g2 := F0 m 20 ls []) rfl ?_
    refine lv_aload_n hx hb (z_d hX1_carryOver_0 12 rfl) rfl (lv_at hl 1 rfl) ?_
    refine lv_iload_n hx hb (z_d hX1_carryOver_0 13 rfl) rfl (lv_at hl 0 rfl) ?_
    refine lv_iload_n hx hb (z_d hX1_carryOver_0 14 rfl) rfl (lv_at hl 3 rfl) ?_
    refine lv_iadd hx hb (z_d hX1_carryOver_0 15 rfl) ?_
    refine z_let hF (fun u3 hu3 hF => ?_)
    refine lv_topE hu3 ?_
    refine z_let hF (fun q4 hq4 hF => ?_)
    refine z_mu0 (z_rV (As := [.int u3]) (rest := []) hx hb hml hown hts vt_X1_fill (c_X1_fill l Z Ag q2 u3 _ hq4) rfl rfl ⟨Nat.le_of_ble_eq_true rfl, Nat.le_of_ble_eq_true rfl⟩ k_m_X1_120 zPmu_blind (z_recv (q := (RX1, TX1, 14)) (ci := 1) (q0 := 0) hK (zP_reg hP 0 rfl) rfl rfl) (z_prem hK hP hD) rfl hl.1 (Nat.le_of_ble_eq_true rfl) (z_d hX1_carryOver_0 16 rfl) ⟨Nat.zero_le _, Nat.zero_le _⟩) hS hD (adr_Pages _ _ _ _) (fun H locs hP hD hS => ?_)
    have hP : va_P Z.1 vwCl (l_Pages Z.2.1 Ag q4.1 q4.2.1 q4.2.2.1 q4.2.2.2.1 q4.2.2.2.2.1 q4.2.2.2.2.2.1 q4.2.2.2.2.2.2.1 q4.2.2.2.2.2.2.2.1 q4.2.2.2.2.2.2.2.2.1 q4.2.2.2.2.2.2.2.2.2.1 q4.2.2.2.2.2.2.2.2.2.2.1 q4.2.2.2.2.2.2.2.2.2.2.2.1 q4.2.2.2.2.2.2.2.2.2.2.2.2.1 q4.2.2.2.2.2.2.2.2.2.2.2.2.2).flatten H := hP
    have hD : va_D A (l_Pages Z.2.1 Ag q4.1 q4.2.1 q4.2.2.1 q4.2.2.2.1 q4.2.2.2.2.1 q4.2.2.2.2.2.1 q4.2.2.2.2.2.2.1 q4.2.2.2.2.2.2.2.1 q4.2.2.2.2.2.2.2.2.1 q4.2.2.2.2.2.2.2.2.2.1 q4.2.2.2.2.2.2.2.2.2.2.1 q4.2.2.2.2.2.2.2.2.2.2.2.1 q4.2.2.2.2.2.2.2.2.2.2.2.2.1 q4.2.2.2.2.2.2.2.2.2.2.2.2.2).flatten := hD
    refine W.eq (g2 := F0 m 27 ls []) rfl ?_
    refine lv_aload_n hx hb (z_d hX1_carryOver_0 17 rfl) rfl (lv_at hl 1 rfl) ?_
    refine lv_dup hx hb (z_d hX1_carryOver_0 18 rfl) rfl ?_
    refine va_get (D := Z.1) (ci := 1) (v := .int q4.2.2.1) (C := RX1) (T := TX1) (N := 14) hx hb hts zinX1 hown hK.1 (zP_reg hP 0 rfl) 0 rfl rfl 2 (by decide) (hts _ k_f_X1_18) (fun _ h9 => h9) rfl (z_d hX1_carryOver_0 19 rfl) ?_
    refine lv_iconst (v := 1) hx hb (z_d hX1_carryOver_0 20 rfl) (by decide) ?_
    refine lv_iadd hx hb (z_d hX1_carryOver_0 21 rfl) ?_
    refine z_let hF (fun u5 hu5 hF => ?_)
    refine lv_topE hu5 ?_
    refine z_put (Z := Z) (ci := 1) (v := .int u5) (ty := .int) (L := l_Pages Z.2.1 Ag q4.1 q4.2.1 q4.2.2.1 q4.2.2.2.1 q4.2.2.2.2.1 q4.2.2.2.2.2.1 q4.2.2.2.2.2.2.1 q4.2.2.2.2.2.2.2.1 q4.2.2.2.2.2.2.2.2.1 q4.2.2.2.2.2.2.2.2.2.1 q4.2.2.2.2.2.2.2.2.2.2.1 q4.2.2.2.2.2.2.2.2.2.2.2.1 q4.2.2.2.2.2.2.2.2.2.2.2.2.1 q4.2.2.2.2.2.2.2.2.2.2.2.2.2) (L' := l_Pages Z.2.1 Ag q4.1 q4.2.1 u5 q4.2.2.2.1 q4.2.2.2.2.1 q4.2.2.2.2.2.1 q4.2.2.2.2.2.2.1 q4.2.2.2.2.2.2.2.1 q4.2.2.2.2.2.2.2.2.1 q4.2.2.2.2.2.2.2.2.2.1 q4.2.2.2.2.2.2.2.2.2.2.1 q4.2.2.2.2.2.2.2.2.2.2.2.1 q4.2.2.2.2.2.2.2.2.2.2.2.2.1 q4.2.2.2.2.2.2.2.2.2.2.2.2.2) (C := RX1) (T := TX1) (N := 14) hx hb hts zinX1 tyX1 tyX1_ok nmX1 hown hK hP hD hS 0 rfl rfl 2 (by decide) (hts _ k_f_X1_18) (fun _ h9 => h9) rfl (tyX1_ok 2 (by decide)) rfl rfl (Nat.le_of_ble_eq_true rfl) rfl (z_d hX1_carryOver_0 22 rfl) (fun H locs hP hD hS => ?_)
    obtain rfl := hF
    subst hQ
    subst hA
    exact W.vret hx hb hr (fun t ht hW => zq_mu (by rw [ht]; exact hP) (hS.F ht)) hS.2.2 (z_d hX1_carryOver_0 23 rfl)
  refine lv_iload_n hx hb (z_d hX1_carryOver_0 0 rfl) rfl (lv_at hl 1 rfl) ?_
  refine lv_iconst (v := 3) hx hb (z_d hX1_carryOver_0 1 rfl) (by decide) ?_
  refine lv_icmp_ne (tgt := 9) hx hb (z_d hX1_carryOver_0 2 rfl) (by decide) (fun hc2 => ?_) (fun hc2 => ?_)
  · have hF := z_neg hc2 hF
    refine lv_iconst (v := 0) hx hb (z_d hX1_carryOver_0 5 rfl) (by decide) ?_
    exact J10 G 0 hF _ _ ls hP hD hS (lv_sub hl [0, 1, 2] rfl)
  · have hF := z_pos hc2 hF
    refine lv_iconst (v := 1) hx hb (z_d hX1_carryOver_0 3 rfl) (by decide) ?_
    refine lv_goto (tgt := 10) hx hb (z_d hX1_carryOver_0 4 rfl) (by decide) ?_
    exact J10 G 1 hF _ _ ls hP hD hS (lv_sub hl [0, 1, 2] rfl)
def rm_X1_setElement : Room := { frames := 3, cells := 0, slots := 0, locals := 66 }
set_option maxRecDepth 100000 in
set_option maxHeartbeats 4000000 in
theorem c_X1_setElement (l : Launch) (Z : zZ) (Ag : Nat → Nat) (As : Nat → Nat) (G : t_Pages) (S : t_Script) (p2 : Int32) (R : t_Pages) (hF : X1_setElement G S p2 = R) : zMU l yX1_setElement (zw yX1_setElement cX1_setElement 6 none) rm_X1_setElement Z [.ref (Ag 0), .ref (As 0), .int p2] (List.flatten [w_Pages Z.2.1 Ag G, w_Script Z.2.1 As S]) (List.flatten [w_Pages Z.2.1 Ag R, w_Script Z.2.1 As S]) none := by
  refine zMU_of (by decide) (Nat.le_of_ble_eq_true rfl) (fun p e s m below meth c hx hb hr hml hown hts hlocks hK A hA Q hQ ls hl hP hD hS => ?_)
  unfold X1_setElement at hF
  have hl : lv_has ls 6 [(0, .ref (Ag 0)), (1, .ref (As 0)), (2, .int p2)] := hl
  have hown : s.vm.findClass RX1 = some m.cls := hown
  have hP : va_P Z.1 vwCl (l_Pages Z.2.1 Ag G.1 G.2.1 G.2.2.1 G.2.2.2.1 G.2.2.2.2.1 G.2.2.2.2.2.1 G.2.2.2.2.2.2.1 G.2.2.2.2.2.2.2.1 G.2.2.2.2.2.2.2.2.1 G.2.2.2.2.2.2.2.2.2.1 G.2.2.2.2.2.2.2.2.2.2.1 G.2.2.2.2.2.2.2.2.2.2.2.1 G.2.2.2.2.2.2.2.2.2.2.2.2.1 G.2.2.2.2.2.2.2.2.2.2.2.2.2 ++ [w_Script Z.2.1 As S]).flatten s.heap := zfr hP
  have hD : va_D A (l_Pages Z.2.1 Ag G.1 G.2.1 G.2.2.1 G.2.2.2.1 G.2.2.2.2.1 G.2.2.2.2.2.1 G.2.2.2.2.2.2.1 G.2.2.2.2.2.2.2.1 G.2.2.2.2.2.2.2.2.1 G.2.2.2.2.2.2.2.2.2.1 G.2.2.2.2.2.2.2.2.2.2.1 G.2.2.2.2.2.2.2.2.2.2.2.1 G.2.2.2.2.2.2.2.2.2.2.2.2.1 G.2.2.2.2.2.2.2.2.2.2.2.2.2 ++ [w_Script Z.2.1 As S]).flatten := zfrD hD
  have J16 : ∀ (G : t_Pages) (hF : j_X1_setElement_16 S p2 G = R) (H : Heap) (locs : List Loc) (ls : Array Slot) (hP : va_P Z.1 vwCl (l_Pages Z.2.1 Ag G.1 G.2.1 G.2.2.1 G.2.2.2.1 G.2.2.2.2.1 G.2.2.2.2.2.1 G.2.2.2.2.2.2.1 G.2.2.2.2.2.2.2.1 G.2.2.2.2.2.2.2.2.1 G.2.2.2.2.2.2.2.2.2.1 G.2.2.2.2.2.2.2.2.2.2.1 G.2.2.2.2.2.2.2.2.2.2.2.1 G.2.2.2.2.2.2.2.2.2.2.2.2.1 G.2.2.2.2.2.2.2.2.2.2.2.2.2 ++ [w_Script Z.2.1 As S]).flatten H) (hD : va_D A (l_Pages Z.2.1 Ag G.1 G.2.1 G.2.2.1 G.2.2.2.1 G.2.2.2.2.1 G.2.2.2.2.2.1 G.2.2.2.2.2.2.1 G.2.2.2.2.2.2.2.1 G.2.2.2.2.2.2.2.2.1 G.2.2.2.2.2.2.2.2.2.1 G.2.2.2.2.2.2.2.2.2.2.1 G.2.2.2.2.2.2.2.2.2.2.2.1 G.2.2.2.2.2.2.2.2.2.2.2.2.1 G.2.2.2.2.2.2.2.2.2.2.2.2.2 ++ [w_Script Z.2.1 As S]).flatten) (hS : va_S A s.heap H locs) (hl : lv_has ls 6 [(0, .ref (Ag 0)), (1, .ref (As 0)), (2, .int p2)]), W p l e rm_X1_setElement s m ([.ref (Ag 0), .ref (As 0), .int p2] : List Value).toArray below meth c H locs 0 0 Q (F0 m 16 ls []) := by
    intro G hF H locs ls hP hD hS hl
    unfold j_X1_setElement_16 at hF
    refine lv_aload_n hx hb (z_d hX1_setElement_0 8 rfl) rfl (lv_at hl 1 rfl) ?_
    refine va_getN (D := Z.1) (ci := 5) (v := .ref (As 1)) (C := RX5) (T := TX5) (N := 10) hx hb hts zinX5 hown hK.1 (zP_reg (L := l_Script Z.2.1 As S.1 S.2.1 S.2.2.1 S.2.2.2.1 S.2.2.2.2.1 S.2.2.2.2.2.1 S.2.2.2.2.2.2.1 S.2.2.2.2.2.2.2.1 S.2.2.2.2.2.2.2.2.1 S.2.2.2.2.2.2.2.2.2) (zP_reg hP 10 rfl) 0 rfl) 0 rfl rfl 2 (by decide) (kn_X1_89 hK.2) (fun _ h9 => h9) rfl (z_d hX1_setElement_0 9 rfl) ?_
    refine lv_iload_n hx hb (z_d hX1_setElement_0 10 rfl) rfl (lv_at hl 2 rfl) ?_
    refine z_let hF (fun q1 hq1 hF => ?_)
    refine z_ro_i (z_rV (As := [.int p2]) (rest := []) hx hb hml hown hts vt_X3_at (c_rAt l Z 60 (As 1) (As 2) (by decide) S.2.2.1 p2 _ hq1) rfl rfl ⟨Nat.le_of_ble_eq_true rfl, Nat.le_of_ble_eq_true rfl⟩ k_m_X1_92 zPro_blind (z_recv (q := (RX3, TX3, 1)) (ci := 3) (q0 := 0) hK (zP_reg (L := l_Script Z.2.1 As S.1 S.2.1 S.2.2.1 S.2.2.2.1 S.2.2.2.2.1 S.2.2.2.2.2.1 S.2.2.2.2.2.2.1 S.2.2.2.2.2.2.2.1 S.2.2.2.2.2.2.2.2.1 S.2.2.2.2.2.2.2.2.2) (zP_reg hP 10 rfl) 1 rfl) rfl rfl) (z_prec hK (zP_reg (L := l_Script Z.2.1 As S.1 S.2.1 S.2.2.1 S.2.2.2.1 S.2.2.2.2.1 S.2.2.2.2.2.1 S.2.2.2.2.2.2.1 S.2.2.2.2.2.2.2.1 S.2.2.2.2.2.2.2.2.1 S.2.2.2.2.2.2.2.2.2) (zP_reg hP 10 rfl) 1 rfl)) rfl hl.1 (Nat.le_of_ble_eq_true rfl) (z_d hX1_setElement_0 11 rfl) ⟨Nat.zero_le _, Nat.zero_le _⟩) hS hP (fun H locs hP hS => ?_)
    refine lv_istore_n (lv' := [(3, .int q1), (0, .ref (Ag 0)), (1, .ref (As 0)), (2, .int p2)]) hx hb (z_d hX1_setElement_0 12 rfl) rfl hl (by decide) rfl (fun ls hl => ?_)
    refine lv_aload_n hx hb (z_d hX1_setElement_0 13 rfl) rfl (lv_at hl 2 rfl) ?_
    refine lv_iload_n hx hb (z_d hX1_setElement_0 14 rfl) rfl (lv_at hl 3 rfl) ?_
    refine z_let hF (fun q2 hq2 hF => ?_)
    refine z_ro_i (z_rV (As := [.int p2]) (rest := []) hx hb hml hown hts vt_X5_linesOf (c_X5_linesOf l Z As S p2 _ hq2) rfl rfl ⟨Nat.le_of_ble_eq_true rfl, Nat.le_of_ble_eq_true rfl⟩ k_m_X1_96 zPro_blind (z_recv (q := (RX5, TX5, 10)) (ci := 5) (q0 := 0) hK (zP_reg (L := l_Script Z.2.1 As S.1 S.2.1 S.2.2.1 S.2.2.2.1 S.2.2.2.2.1 S.2.2.2.2.2.1 S.2.2.2.2.2.2.1 S.2.2.2.2.2.2.2.1 S.2.2.2.2.2.2.2.2.1 S.2.2.2.2.2.2.2.2.2) (zP_reg hP 10 rfl) 0 rfl) rfl rfl) (z_prec hK (zP_reg hP 10 rfl)) rfl hl.1 (Nat.le_of_ble_eq_true rfl) (z_d hX1_setElement_0 15 rfl) ⟨Nat.zero_le _, Nat.zero_le _⟩) hS hP (fun H locs hP hS => ?_)
    refine lv_istore (lv' := [(4, .int q2), (3, .int q1), (0, .ref (Ag 0)), (1, .ref (As 0)), (2, .int p2)]) hx hb (z_d hX1_setElement_0 16 rfl) hl (by decide) rfl (fun ls hl => ?_)
    refine lv_iload_n hx hb (z_d hX1_setElement_0 17 rfl) rfl (lv_at hl 1 rfl) ?_
    refine lv_iload hx hb (z_d hX1_setElement_0 18 rfl) (lv_at hl 0 rfl) ?_
    refine lv_aload_n hx hb (z_d hX1_setElement_0 19 rfl) rfl (lv_at hl 2 rfl) ?_
    refine va_get (D := Z.1) (ci := 1) (v := .int G.2.2.2.1) (C := RX1) (T := TX1) (N := 14) hx hb hts zinX1 hown hK.1 (zP_reg hP 0 rfl) 0 rfl rfl 3 (by decide) (hts _ k_f_X1_21) (fun _ h9 => h9) rfl (z_d hX1_setElement_0 20 rfl) ?_
    refine lv_aload_n hx hb (z_d hX1_setElement_0 21 rfl) rfl (lv_at hl 2 rfl) ?_
    refine va_get (D := Z.1) (ci := 1) (v := .int G.2.2.2.2.1) (C := RX1) (T := TX1) (N := 14) hx hb hts zinX1 hown hK.1 (zP_reg hP 0 rfl) 0 rfl rfl 4 (by decide) (hts _ k_f_X1_24) (fun _ h9 => h9) rfl (z_d hX1_setElement_0 22 rfl) ?_
    refine lv_isub hx hb (z_d hX1_setElement_0 23 rfl) ?_
    refine z_let hF (fun u3 hu3 hF => ?_)
    refine lv_topE hu3 ?_
    refine z_let hF (fun q4 hq4 hF => ?_)
    refine z_ro_i (z_rS (As := [.int q1, .int q2, .int u3]) (rest := []) hx hb hml hown hts vs_X1_firstPart (c_X1_firstPart l Z q1 q2 u3 _ hq4) rfl rfl ⟨Nat.le_of_ble_eq_true rfl, Nat.le_of_ble_eq_true rfl⟩ k_m_X1_123 zPro_blind (z_prec hK zP_nil) rfl hl.1 (Nat.le_of_ble_eq_true rfl) (z_d hX1_setElement_0 24 rfl) ⟨Nat.zero_le _, Nat.zero_le _⟩) hS hP (fun H locs hP hS => ?_)
    refine lv_istore (lv' := [(5, .int q4), (4, .int q2), (3, .int q1), (0, .ref (Ag 0)), (1, .ref (As 0)), (2, .int p2)]) hx hb (z_d hX1_setElement_0 25 rfl) hl (by decide) rfl (fun ls hl => ?_)
    refine lv_aload_n hx hb (z_d hX1_setElement_0 26 rfl) rfl (lv_at hl 3 rfl) ?_
    refine lv_iload_n hx hb (z_d hX1_setElement_0 27 rfl) rfl (lv_at hl 5 rfl) ?_
    refine lv_iload hx hb (z_d hX1_setElement_0 28 rfl) (lv_at hl 0 rfl) ?_
    refine z_let hF (fun q5 hq5 hF => ?_)
    refine z_mu1 (L := [w_Pages Z.2.1 Ag G, w_Script Z.2.1 As S]) (L' := [w_Pages Z.2.1 Ag q5, w_Script Z.2.1 As S]) (z_rV (As := [.int p2, .int q4]) (rest := []) hx hb hml hown hts vt_X1_noteBegin (c_X1_noteBegin l Z Ag G p2 q4 _ hq5) rfl rfl ⟨Nat.le_of_ble_eq_true rfl, Nat.le_of_ble_eq_true rfl⟩ k_m_X1_127 zPmu_blind (z_recv (q := (RX1, TX1, 14)) (ci := 1) (q0 := 0) hK (zP_reg hP 0 rfl) rfl rfl) (z_prem hK (zP_reg (zfl hP) 0 rfl) (zD_one (zflD hD) 0 _ rfl)) rfl hl.1 (Nat.le_of_ble_eq_true rfl) (z_d hX1_setElement_0 29 rfl) ⟨Nat.zero_le _, Nat.zero_le _⟩) hS (zfl hP) (zflD hD) 0 rfl rfl (adr_Pages _ _ _ _) (fun H locs hP hD hS => ?_)
    have hP : va_P Z.1 vwCl (l_Pages Z.2.1 Ag q5.1 q5.2.1 q5.2.2.1 q5.2.2.2.1 q5.2.2.2.2.1 q5.2.2.2.2.2.1 q5.2.2.2.2.2.2.1 q5.2.2.2.2.2.2.2.1 q5.2.2.2.2.2.2.2.2.1 q5.2.2.2.2.2.2.2.2.2.1 q5.2.2.2.2.2.2.2.2.2.2.1 q5.2.2.2.2.2.2.2.2.2.2.2.1 q5.2.2.2.2.2.2.2.2.2.2.2.2.1 q5.2.2.2.2.2.2.2.2.2.2.2.2.2 ++ [w_Script Z.2.1 As S]).flatten H := zfr hP
    have hD : va_D A (l_Pages Z.2.1 Ag q5.1 q5.2.1 q5.2.2.1 q5.2.2.2.1 q5.2.2.2.2.1 q5.2.2.2.2.2.1 q5.2.2.2.2.2.2.1 q5.2.2.2.2.2.2.2.1 q5.2.2.2.2.2.2.2.2.1 q5.2.2.2.2.2.2.2.2.2.1 q5.2.2.2.2.2.2.2.2.2.2.1 q5.2.2.2.2.2.2.2.2.2.2.2.1 q5.2.2.2.2.2.2.2.2.2.2.2.2.1 q5.2.2.2.2.2.2.2.2.2.2.2.2.2 ++ [w_Script Z.2.1 As S]).flatten := zfrD hD
    refine W.eq (g2 := F0 m 56 ls []) rfl ?_
    refine lv_aload_n hx hb (z_d hX1_setElement_0 30 rfl) rfl (lv_at hl 3 rfl) ?_
    refine lv_iload hx hb (z_d hX1_setElement_0 31 rfl) (lv_at hl 0 rfl) ?_
    refine z_let hF (fun q6 hq6 hF => ?_)
    refine z_mu1 (L := [w_Pages Z.2.1 Ag q5, w_Script Z.2.1 As S]) (L' := [w_Pages Z.2.1 Ag q6, w_Script Z.2.1 As S]) (z_rV (As := [.int q4]) (rest := []) hx hb hml hown hts vt_X1_fill (c_X1_fill l Z Ag q5 q4 _ hq6) rfl rfl ⟨Nat.le_of_ble_eq_true rfl, Nat.le_of_ble_eq_true rfl⟩ k_m_X1_120 zPmu_blind (z_recv (q := (RX1, TX1, 14)) (ci := 1) (q0 := 0) hK (zP_reg hP 0 rfl) rfl rfl) (z_prem hK (zP_reg (zfl hP) 0 rfl) (zD_one (zflD hD) 0 _ rfl)) rfl hl.1 (Nat.le_of_ble_eq_true rfl) (z_d hX1_setElement_0 32 rfl) ⟨Nat.zero_le _, Nat.zero_le _⟩) hS (zfl hP) (zflD hD) 0 rfl rfl (adr_Pages _ _ _ _) (fun H locs hP hD hS => ?_)
    have hP : va_P Z.1 vwCl (l_Pages Z.2.1 Ag q6.1 q6.2.1 q6.2.2.1 q6.2.2.2.1 q6.2.2.2.2.1 q6.2.2.2.2.2.1 q6.2.2.2.2.2.2.1 q6.2.2.2.2.2.2.2.1 q6.2.2.2.2.2.2.2.2.1 q6.2.2.2.2.2.2.2.2.2.1 q6.2.2.2.2.2.2.2.2.2.2.1 q6.2.2.2.2.2.2.2.2.2.2.2.1 q6.2.2.2.2.2.2.2.2.2.2.2.2.1 q6.2.2.2.2.2.2.2.2.2.2.2.2.2 ++ [w_Script Z.2.1 As S]).flatten H := zfr hP
    have hD : va_D A (l_Pages Z.2.1 Ag q6.1 q6.2.1 q6.2.2.1 q6.2.2.2.1 q6.2.2.2.2.1 q6.2.2.2.2.2.1 q6.2.2.2.2.2.2.1 q6.2.2.2.2.2.2.2.1 q6.2.2.2.2.2.2.2.2.1 q6.2.2.2.2.2.2.2.2.2.1 q6.2.2.2.2.2.2.2.2.2.2.1 q6.2.2.2.2.2.2.2.2.2.2.2.1 q6.2.2.2.2.2.2.2.2.2.2.2.2.1 q6.2.2.2.2.2.2.2.2.2.2.2.2.2 ++ [w_Script Z.2.1 As S]).flatten := zfrD hD
    refine W.eq (g2 := F0 m 62 ls []) rfl ?_
    refine lv_iload hx hb (z_d hX1_setElement_0 33 rfl) (lv_at hl 0 rfl) ?_
    refine lv_iload hx hb (z_d hX1_setElement_0 34 rfl) (lv_at hl 1 rfl) ?_
    refine lv_icmp_ge (tgt := 79) hx hb (z_d hX1_setElement_0 35 rfl) (by decide) (fun hc66 => ?_) (fun hc66 => ?_)
    · have hF := z_pos hc66 hF
      obtain rfl := hF
      subst hQ
      subst hA
      exact W.vret hx hb hr (fun t ht hW => zq_mu (by rw [ht]; exact zfl hP) (hS.F ht)) hS.2.2 (z_d hX1_setElement_0 42 rfl)
    · have hF := z_neg hc66 hF
      refine lv_aload_n hx hb (z_d hX1_setElement_0 36 rfl) rfl (lv_at hl 3 rfl) ?_
      refine lv_iload_n hx hb (z_d hX1_setElement_0 37 rfl) rfl (lv_at hl 2 rfl) ?_
      refine lv_iload hx hb (z_d hX1_setElement_0 38 rfl) (lv_at hl 1 rfl) ?_
      refine lv_iload hx hb (z_d hX1_setElement_0 39 rfl) (lv_at hl 0 rfl) ?_
      refine lv_isub hx hb (z_d hX1_setElement_0 40 rfl) ?_
      refine z_let hF (fun u7 hu7 hF => ?_)
      refine lv_topE hu7 ?_
      refine z_let hF (fun q8 hq8 hF => ?_)
      refine z_mu1 (L := [w_Pages Z.2.1 Ag q6, w_Script Z.2.1 As S]) (L' := [w_Pages Z.2.1 Ag q8, w_Script Z.2.1 As S]) (z_rV (As := [.int q1, .int u7]) (rest := []) hx hb hml hown hts vt_X1_carryOver (c_X1_carryOver l Z Ag q6 q1 u7 _ hq8) rfl rfl ⟨Nat.le_of_ble_eq_true rfl, Nat.le_of_ble_eq_true rfl⟩ k_m_X1_130 zPmu_blind (z_recv (q := (RX1, TX1, 14)) (ci := 1) (q0 := 0) hK (zP_reg hP 0 rfl) rfl rfl) (z_prem hK (zP_reg (zfl hP) 0 rfl) (zD_one (zflD hD) 0 _ rfl)) rfl hl.1 (Nat.le_of_ble_eq_true rfl) (z_d hX1_setElement_0 41 rfl) ⟨Nat.zero_le _, Nat.zero_le _⟩) hS (zfl hP) (zflD hD) 0 rfl rfl (adr_Pages _ _ _ _) (fun H locs hP hD hS => ?_)
      have hP : va_P Z.1 vwCl (l_Pages Z.2.1 Ag q8.1 q8.2.1 q8.2.2.1 q8.2.2.2.1 q8.2.2.2.2.1 q8.2.2.2.2.2.1 q8.2.2.2.2.2.2.1 q8.2.2.2.2.2.2.2.1 q8.2.2.2.2.2.2.2.2.1 q8.2.2.2.2.2.2.2.2.2.1 q8.2.2.2.2.2.2.2.2.2.2.1 q8.2.2.2.2.2.2.2.2.2.2.2.1 q8.2.2.2.2.2.2.2.2.2.2.2.2.1 q8.2.2.2.2.2.2.2.2.2.2.2.2.2 ++ [w_Script Z.2.1 As S]).flatten H := zfr hP
      have hD : va_D A (l_Pages Z.2.1 Ag q8.1 q8.2.1 q8.2.2.1 q8.2.2.2.1 q8.2.2.2.2.1 q8.2.2.2.2.2.1 q8.2.2.2.2.2.2.1 q8.2.2.2.2.2.2.2.1 q8.2.2.2.2.2.2.2.2.1 q8.2.2.2.2.2.2.2.2.2.1 q8.2.2.2.2.2.2.2.2.2.2.1 q8.2.2.2.2.2.2.2.2.2.2.2.1 q8.2.2.2.2.2.2.2.2.2.2.2.2.1 q8.2.2.2.2.2.2.2.2.2.2.2.2.2 ++ [w_Script Z.2.1 As S]).flatten := zfrD hD
      refine W.eq (g2 := F0 m 79 ls []) rfl ?_
      obtain rfl := hF
      subst hQ
      subst hA
      exact W.vret hx hb hr (fun t ht hW => zq_mu (by rw [ht]; exact zfl hP) (hS.F ht)) hS.2.2 (z_d hX1_setElement_0 42 rfl)
  refine lv_aload_n hx hb (z_d hX1_setElement_0 0 rfl) rfl (lv_at hl 0 rfl) ?_
  refine va_get (D := Z.1) (ci := 1) (v := .int G.2.2.2.2.1) (C := RX1) (T := TX1) (N := 14) hx hb hts zinX1 hown hK.1 (zP_reg hP 0 rfl) 0 rfl rfl 4 (by decide) (hts _ k_f_X1_24) (fun _ h9 => h9) rfl (z_d hX1_setElement_0 1 rfl) ?_
  refine lv_if_le (tgt := 16) hx hb (z_d hX1_setElement_0 2 rfl) (by decide) (fun hc4 => ?_) (fun hc4 => ?_)
  · have hF := z_pos hc4 hF
    exact J16 G hF _ _ ls hP hD hS (lv_sub hl [0, 1, 2] rfl)
  · have hF := z_neg hc4 hF
    refine lv_aload_n hx hb (z_d hX1_setElement_0 3 rfl) rfl (lv_at hl 0 rfl) ?_
    refine lv_aload_n hx hb (z_d hX1_setElement_0 4 rfl) rfl (lv_at hl 1 rfl) ?_
    refine lv_iload_n hx hb (z_d hX1_setElement_0 5 rfl) rfl (lv_at hl 2 rfl) ?_
    refine z_let hF (fun q9 hq9 hF => ?_)
    refine z_ro_i (z_rV (As := [.int p2]) (rest := [.ref (Ag 0)]) hx hb hml hown hts vt_X5_blanksAhead (c_X5_blanksAhead l Z As S p2 _ hq9) rfl rfl ⟨Nat.le_of_ble_eq_true rfl, Nat.le_of_ble_eq_true rfl⟩ k_m_X1_106 zPro_blind (z_recv (q := (RX5, TX5, 10)) (ci := 5) (q0 := 0) hK (zP_reg (L := l_Script Z.2.1 As S.1 S.2.1 S.2.2.1 S.2.2.2.1 S.2.2.2.2.1 S.2.2.2.2.2.1 S.2.2.2.2.2.2.1 S.2.2.2.2.2.2.2.1 S.2.2.2.2.2.2.2.2.1 S.2.2.2.2.2.2.2.2.2) (zP_reg hP 10 rfl) 0 rfl) rfl rfl) (z_prec hK (zP_reg hP 10 rfl)) rfl hl.1 (Nat.le_of_ble_eq_true rfl) (z_d hX1_setElement_0 6 rfl) ⟨Nat.zero_le _, Nat.zero_le _⟩) hS hP (fun H locs hP hS => ?_)
    refine z_let hF (fun q10 hq10 hF => ?_)
    refine z_mu1 (L := [w_Pages Z.2.1 Ag G, w_Script Z.2.1 As S]) (L' := [w_Pages Z.2.1 Ag q10, w_Script Z.2.1 As S]) (z_rV (As := [.int q9]) (rest := []) hx hb hml hown hts vt_X1_fill (c_X1_fill l Z Ag G q9 _ hq10) rfl rfl ⟨Nat.le_of_ble_eq_true rfl, Nat.le_of_ble_eq_true rfl⟩ k_m_X1_120 zPmu_blind (z_recv (q := (RX1, TX1, 14)) (ci := 1) (q0 := 0) hK (zP_reg hP 0 rfl) rfl rfl) (z_prem hK (zP_reg (zfl hP) 0 rfl) (zD_one (zflD hD) 0 _ rfl)) rfl hl.1 (Nat.le_of_ble_eq_true rfl) (z_d hX1_setElement_0 7 rfl) ⟨Nat.zero_le _, Nat.zero_le _⟩) hS (zfl hP) (zflD hD) 0 rfl rfl (adr_Pages _ _ _ _) (fun H locs hP hD hS => ?_)
    have hP : va_P Z.1 vwCl (l_Pages Z.2.1 Ag q10.1 q10.2.1 q10.2.2.1 q10.2.2.2.1 q10.2.2.2.2.1 q10.2.2.2.2.2.1 q10.2.2.2.2.2.2.1 q10.2.2.2.2.2.2.2.1 q10.2.2.2.2.2.2.2.2.1 q10.2.2.2.2.2.2.2.2.2.1 q10.2.2.2.2.2.2.2.2.2.2.1 q10.2.2.2.2.2.2.2.2.2.2.2.1 q10.2.2.2.2.2.2.2.2.2.2.2.2.1 q10.2.2.2.2.2.2.2.2.2.2.2.2.2 ++ [w_Script Z.2.1 As S]).flatten H := zfr hP
    have hD : va_D A (l_Pages Z.2.1 Ag q10.1 q10.2.1 q10.2.2.1 q10.2.2.2.1 q10.2.2.2.2.1 q10.2.2.2.2.2.1 q10.2.2.2.2.2.2.1 q10.2.2.2.2.2.2.2.1 q10.2.2.2.2.2.2.2.2.1 q10.2.2.2.2.2.2.2.2.2.1 q10.2.2.2.2.2.2.2.2.2.2.1 q10.2.2.2.2.2.2.2.2.2.2.2.1 q10.2.2.2.2.2.2.2.2.2.2.2.2.1 q10.2.2.2.2.2.2.2.2.2.2.2.2.2 ++ [w_Script Z.2.1 As S]).flatten := zfrD hD
    refine W.eq (g2 := F0 m 16 ls []) rfl ?_
    exact J16 q10 hF _ _ ls hP hD hS (lv_sub hl [0, 1, 2] rfl)
def rm_X1_countMarks : Room := { frames := 1, cells := 0, slots := 0, locals := 21 }
set_option maxRecDepth 100000 in
set_option maxHeartbeats 4000000 in
theorem c_X1_countMarks (l : Launch) (Z : zZ) (Ag : Nat → Nat) (As : Nat → Nat) (G : t_Pages) (S : t_Script) (R : t_Pages) (hF : X1_countMarks G S = some R) : zMU l yX1_countMarks (zw yX1_countMarks cX1_countMarks 3 none) rm_X1_countMarks Z [.ref (Ag 0), .ref (As 0)] (List.flatten [w_Pages Z.2.1 Ag G, w_Script Z.2.1 As S]) (List.flatten [w_Pages Z.2.1 Ag R, w_Script Z.2.1 As S]) none := by
  refine zMU_of (by decide) (Nat.le_of_ble_eq_true rfl) (fun p e s m below meth c hx hb hr hml hown hts hlocks hK A hA Q hQ ls hl hP hD hS => ?_)
  unfold X1_countMarks at hF
  have hl : lv_has ls 3 [(0, .ref (Ag 0)), (1, .ref (As 0))] := hl
  have hown : s.vm.findClass RX1 = some m.cls := hown
  have hP : va_P Z.1 vwCl (l_Pages Z.2.1 Ag G.1 G.2.1 G.2.2.1 G.2.2.2.1 G.2.2.2.2.1 G.2.2.2.2.2.1 G.2.2.2.2.2.2.1 G.2.2.2.2.2.2.2.1 G.2.2.2.2.2.2.2.2.1 G.2.2.2.2.2.2.2.2.2.1 G.2.2.2.2.2.2.2.2.2.2.1 G.2.2.2.2.2.2.2.2.2.2.2.1 G.2.2.2.2.2.2.2.2.2.2.2.2.1 G.2.2.2.2.2.2.2.2.2.2.2.2.2 ++ [w_Script Z.2.1 As S]).flatten s.heap := zfr hP
  have hD : va_D A (l_Pages Z.2.1 Ag G.1 G.2.1 G.2.2.1 G.2.2.2.1 G.2.2.2.2.1 G.2.2.2.2.2.1 G.2.2.2.2.2.2.1 G.2.2.2.2.2.2.2.1 G.2.2.2.2.2.2.2.2.1 G.2.2.2.2.2.2.2.2.2.1 G.2.2.2.2.2.2.2.2.2.2.1 G.2.2.2.2.2.2.2.2.2.2.2.1 G.2.2.2.2.2.2.2.2.2.2.2.2.1 G.2.2.2.2.2.2.2.2.2.2.2.2.2 ++ [w_Script Z.2.1 As S]).flatten := zfrD hD
  have L7 : ∀  (n : Nat) (v : t_Pages × Int32) (X : t_Pages) (hF : zloop (b_X1_countMarks_7 S ) n v = some X) (H : Heap) (locs : List Loc) (ls : Array Slot) (hP : va_P Z.1 vwCl (l_Pages Z.2.1 Ag v.1.1 v.1.2.1 v.1.2.2.1 v.1.2.2.2.1 v.1.2.2.2.2.1 v.1.2.2.2.2.2.1 v.1.2.2.2.2.2.2.1 v.1.2.2.2.2.2.2.2.1 v.1.2.2.2.2.2.2.2.2.1 v.1.2.2.2.2.2.2.2.2.2.1 v.1.2.2.2.2.2.2.2.2.2.2.1 v.1.2.2.2.2.2.2.2.2.2.2.2.1 v.1.2.2.2.2.2.2.2.2.2.2.2.2.1 v.1.2.2.2.2.2.2.2.2.2.2.2.2.2 ++ [w_Script Z.2.1 As S]).flatten H) (hD : va_D A (l_Pages Z.2.1 Ag v.1.1 v.1.2.1 v.1.2.2.1 v.1.2.2.2.1 v.1.2.2.2.2.1 v.1.2.2.2.2.2.1 v.1.2.2.2.2.2.2.1 v.1.2.2.2.2.2.2.2.1 v.1.2.2.2.2.2.2.2.2.1 v.1.2.2.2.2.2.2.2.2.2.1 v.1.2.2.2.2.2.2.2.2.2.2.1 v.1.2.2.2.2.2.2.2.2.2.2.2.1 v.1.2.2.2.2.2.2.2.2.2.2.2.2.1 v.1.2.2.2.2.2.2.2.2.2.2.2.2.2 ++ [w_Script Z.2.1 As S]).flatten) (hS : va_S A s.heap H locs) (hl : lv_has ls 3 [(0, .ref (Ag 0)), (1, .ref (As 0)), (2, .int v.2)]) (K1 : ∀ (H : Heap) (locs : List Loc) (ls : Array Slot) (hP : va_P Z.1 vwCl (l_Pages Z.2.1 Ag X.1 X.2.1 X.2.2.1 X.2.2.2.1 X.2.2.2.2.1 X.2.2.2.2.2.1 X.2.2.2.2.2.2.1 X.2.2.2.2.2.2.2.1 X.2.2.2.2.2.2.2.2.1 X.2.2.2.2.2.2.2.2.2.1 X.2.2.2.2.2.2.2.2.2.2.1 X.2.2.2.2.2.2.2.2.2.2.2.1 X.2.2.2.2.2.2.2.2.2.2.2.2.1 X.2.2.2.2.2.2.2.2.2.2.2.2.2 ++ [w_Script Z.2.1 As S]).flatten H) (hD : va_D A (l_Pages Z.2.1 Ag X.1 X.2.1 X.2.2.1 X.2.2.2.1 X.2.2.2.2.1 X.2.2.2.2.2.1 X.2.2.2.2.2.2.1 X.2.2.2.2.2.2.2.1 X.2.2.2.2.2.2.2.2.1 X.2.2.2.2.2.2.2.2.2.1 X.2.2.2.2.2.2.2.2.2.2.1 X.2.2.2.2.2.2.2.2.2.2.2.1 X.2.2.2.2.2.2.2.2.2.2.2.2.1 X.2.2.2.2.2.2.2.2.2.2.2.2.2 ++ [w_Script Z.2.1 As S]).flatten) (hS : va_S A s.heap H locs) (hl : lv_has ls 3 [(0, .ref (Ag 0)), (1, .ref (As 0))]), W p l e rm_X1_countMarks s m ([.ref (Ag 0), .ref (As 0)] : List Value).toArray below meth c H locs 0 0 Q (F0 m 43 ls [])), W p l e rm_X1_countMarks s m ([.ref (Ag 0), .ref (As 0)] : List Value).toArray below meth c H locs 0 0 Q (F0 m 7 ls []) := by
    skip
    refine z_loopE (fun rec ih v X hF H locs ls hP hD hS hl K1 => ?_)
    unfold b_X1_countMarks_7 at hF
    refine lv_iload_n hx hb (z_d hX1_countMarks_0 5 rfl) rfl (lv_at hl 2 rfl) ?_
    refine lv_aload_n hx hb (z_d hX1_countMarks_0 6 rfl) rfl (lv_at hl 1 rfl) ?_
    refine va_getN (D := Z.1) (ci := 5) (v := .int S.1) (C := RX5) (T := TX5) (N := 10) hx hb hts zinX5 hown hK.1 (zP_reg (L := l_Script Z.2.1 As S.1 S.2.1 S.2.2.1 S.2.2.2.1 S.2.2.2.2.1 S.2.2.2.2.2.1 S.2.2.2.2.2.2.1 S.2.2.2.2.2.2.2.1 S.2.2.2.2.2.2.2.2.1 S.2.2.2.2.2.2.2.2.2) (zP_reg hP 10 rfl) 0 rfl) 0 rfl rfl 0 (by decide) (kn_X1_69 hK.2) (fun _ h9 => h9) rfl (z_d hX1_countMarks_0 7 rfl) ?_
    refine lv_icmp_ge (tgt := 43) hx hb (z_d hX1_countMarks_0 8 rfl) (by decide) (fun hc12 => ?_) (fun hc12 => ?_)
    · have hF := z_pos hc12 hF
      obtain rfl := Option.some.inj hF
      exact K1 _ _ ls hP hD hS (lv_sub hl [0, 1] rfl)
    · have hF := z_neg hc12 hF
      refine lv_aload_n hx hb (z_d hX1_countMarks_0 9 rfl) rfl (lv_at hl 1 rfl) ?_
      refine va_getN (D := Z.1) (ci := 5) (v := .ref (As 7)) (C := RX5) (T := TX5) (N := 10) hx hb hts zinX5 hown hK.1 (zP_reg (L := l_Script Z.2.1 As S.1 S.2.1 S.2.2.1 S.2.2.2.1 S.2.2.2.2.1 S.2.2.2.2.2.1 S.2.2.2.2.2.2.1 S.2.2.2.2.2.2.2.1 S.2.2.2.2.2.2.2.2.1 S.2.2.2.2.2.2.2.2.2) (zP_reg hP 10 rfl) 0 rfl) 0 rfl rfl 5 (by decide) (kn_X1_117 hK.2) (fun _ h9 => h9) rfl (z_d hX1_countMarks_0 10 rfl) ?_
      refine lv_iload_n hx hb (z_d hX1_countMarks_0 11 rfl) rfl (lv_at hl 2 rfl) ?_
      refine z_let hF (fun q1 hq1 hF => ?_)
      refine z_ro_i (z_rV (As := [.int v.2]) (rest := []) hx hb hml hown hts vt_X3_at (c_rAt l Z 60 (As 7) (As 8) (by decide) S.2.2.2.2.2.1 v.2 _ hq1) rfl rfl ⟨Nat.le_of_ble_eq_true rfl, Nat.le_of_ble_eq_true rfl⟩ k_m_X1_92 zPro_blind (z_recv (q := (RX3, TX3, 1)) (ci := 3) (q0 := 0) hK (zP_reg (L := l_Script Z.2.1 As S.1 S.2.1 S.2.2.1 S.2.2.2.1 S.2.2.2.2.1 S.2.2.2.2.2.1 S.2.2.2.2.2.2.1 S.2.2.2.2.2.2.2.1 S.2.2.2.2.2.2.2.2.1 S.2.2.2.2.2.2.2.2.2) (zP_reg hP 10 rfl) 4 rfl) rfl rfl) (z_prec hK (zP_reg (L := l_Script Z.2.1 As S.1 S.2.1 S.2.2.1 S.2.2.2.1 S.2.2.2.2.1 S.2.2.2.2.2.1 S.2.2.2.2.2.2.1 S.2.2.2.2.2.2.2.1 S.2.2.2.2.2.2.2.2.1 S.2.2.2.2.2.2.2.2.2) (zP_reg hP 10 rfl) 4 rfl)) rfl hl.1 (Nat.le_of_ble_eq_true rfl) (z_d hX1_countMarks_0 12 rfl) ⟨Nat.zero_le _, Nat.zero_le _⟩) hS hP (fun H locs hP hS => ?_)
      refine lv_iconst (v := (-1)) hx hb (z_d hX1_countMarks_0 13 rfl) (by decide) ?_
      refine lv_icmp_eq (tgt := 37) hx hb (z_d hX1_countMarks_0 14 rfl) (by decide) (fun hc24 => ?_) (fun hc24 => ?_)
      · have hF := z_pos hc24 hF
        refine z_let hF (fun u2 hu2 hF => ?_)
        refine lv_iinc (v := u2) (lv' := [(2, .int u2), (0, .ref (Ag 0)), (1, .ref (As 0))]) hx hb (z_d hX1_countMarks_0 21 rfl) hl (k := 2) rfl (z_inc1 hu2) (by decide) rfl (fun ls hl => ?_)
        refine lv_goto (tgt := 7) hx hb (z_d hX1_countMarks_0 22 rfl) (by decide) ?_
        exact ih _ _ hF _ _ ls hP hD hS (lv_sub hl [1, 2, 0] rfl) K1
      · have hF := z_neg hc24 hF
        refine lv_aload_n hx hb (z_d hX1_countMarks_0 15 rfl) rfl (lv_at hl 0 rfl) ?_
        refine lv_dup hx hb (z_d hX1_countMarks_0 16 rfl) rfl ?_
        refine va_get (D := Z.1) (ci := 1) (v := .int v.1.2.1) (C := RX1) (T := TX1) (N := 14) hx hb hts zinX1 hown hK.1 (zP_reg hP 0 rfl) 0 rfl rfl 1 (by decide) (hts _ k_f_X1_15) (fun _ h9 => h9) rfl (z_d hX1_countMarks_0 17 rfl) ?_
        refine lv_iconst (v := 1) hx hb (z_d hX1_countMarks_0 18 rfl) (by decide) ?_
        refine lv_iadd hx hb (z_d hX1_countMarks_0 19 rfl) ?_
        refine z_let hF (fun u3 hu3 hF => ?_)
        refine lv_topE hu3 ?_
        refine z_put (Z := Z) (ci := 1) (v := .int u3) (ty := .int) (L := l_Pages Z.2.1 Ag v.1.1 v.1.2.1 v.1.2.2.1 v.1.2.2.2.1 v.1.2.2.2.2.1 v.1.2.2.2.2.2.1 v.1.2.2.2.2.2.2.1 v.1.2.2.2.2.2.2.2.1 v.1.2.2.2.2.2.2.2.2.1 v.1.2.2.2.2.2.2.2.2.2.1 v.1.2.2.2.2.2.2.2.2.2.2.1 v.1.2.2.2.2.2.2.2.2.2.2.2.1 v.1.2.2.2.2.2.2.2.2.2.2.2.2.1 v.1.2.2.2.2.2.2.2.2.2.2.2.2.2 ++ [w_Script Z.2.1 As S]) (L' := l_Pages Z.2.1 Ag v.1.1 u3 v.1.2.2.1 v.1.2.2.2.1 v.1.2.2.2.2.1 v.1.2.2.2.2.2.1 v.1.2.2.2.2.2.2.1 v.1.2.2.2.2.2.2.2.1 v.1.2.2.2.2.2.2.2.2.1 v.1.2.2.2.2.2.2.2.2.2.1 v.1.2.2.2.2.2.2.2.2.2.2.1 v.1.2.2.2.2.2.2.2.2.2.2.2.1 v.1.2.2.2.2.2.2.2.2.2.2.2.2.1 v.1.2.2.2.2.2.2.2.2.2.2.2.2.2 ++ [w_Script Z.2.1 As S]) (C := RX1) (T := TX1) (N := 14) hx hb hts zinX1 tyX1 tyX1_ok nmX1 hown hK hP hD hS 0 rfl rfl 1 (by decide) (hts _ k_f_X1_15) (fun _ h9 => h9) rfl (tyX1_ok 1 (by decide)) rfl rfl (Nat.le_of_ble_eq_true rfl) rfl (z_d hX1_countMarks_0 20 rfl) (fun H locs hP hD hS => ?_)
        refine z_let hF (fun u4 hu4 hF => ?_)
        refine lv_iinc (v := u4) (lv' := [(2, .int u4), (0, .ref (Ag 0)), (1, .ref (As 0))]) hx hb (z_d hX1_countMarks_0 21 rfl) hl (k := 2) rfl (z_inc1 hu4) (by decide) rfl (fun ls hl => ?_)
        refine lv_goto (tgt := 7) hx hb (z_d hX1_countMarks_0 22 rfl) (by decide) ?_
        exact ih _ _ hF _ _ ls hP hD hS (lv_sub hl [1, 2, 0] rfl) K1
  refine lv_aload_n hx hb (z_d hX1_countMarks_0 0 rfl) rfl (lv_at hl 0 rfl) ?_
  refine lv_iconst (v := 0) hx hb (z_d hX1_countMarks_0 1 rfl) (by decide) ?_
  refine z_put (Z := Z) (ci := 1) (v := .int 0) (ty := .int) (L := l_Pages Z.2.1 Ag G.1 G.2.1 G.2.2.1 G.2.2.2.1 G.2.2.2.2.1 G.2.2.2.2.2.1 G.2.2.2.2.2.2.1 G.2.2.2.2.2.2.2.1 G.2.2.2.2.2.2.2.2.1 G.2.2.2.2.2.2.2.2.2.1 G.2.2.2.2.2.2.2.2.2.2.1 G.2.2.2.2.2.2.2.2.2.2.2.1 G.2.2.2.2.2.2.2.2.2.2.2.2.1 G.2.2.2.2.2.2.2.2.2.2.2.2.2 ++ [w_Script Z.2.1 As S]) (L' := l_Pages Z.2.1 Ag G.1 0 G.2.2.1 G.2.2.2.1 G.2.2.2.2.1 G.2.2.2.2.2.1 G.2.2.2.2.2.2.1 G.2.2.2.2.2.2.2.1 G.2.2.2.2.2.2.2.2.1 G.2.2.2.2.2.2.2.2.2.1 G.2.2.2.2.2.2.2.2.2.2.1 G.2.2.2.2.2.2.2.2.2.2.2.1 G.2.2.2.2.2.2.2.2.2.2.2.2.1 G.2.2.2.2.2.2.2.2.2.2.2.2.2 ++ [w_Script Z.2.1 As S]) (C := RX1) (T := TX1) (N := 14) hx hb hts zinX1 tyX1 tyX1_ok nmX1 hown hK hP hD hS 0 rfl rfl 1 (by decide) (hts _ k_f_X1_15) (fun _ h9 => h9) rfl (tyX1_ok 1 (by decide)) rfl rfl (Nat.le_of_ble_eq_true rfl) rfl (z_d hX1_countMarks_0 2 rfl) (fun H locs hP hD hS => ?_)
  refine lv_iconst (v := 0) hx hb (z_d hX1_countMarks_0 3 rfl) (by decide) ?_
  refine lv_istore_n (lv' := [(2, .int 0), (0, .ref (Ag 0)), (1, .ref (As 0))]) hx hb (z_d hX1_countMarks_0 4 rfl) rfl hl (by decide) rfl (fun ls hl => ?_)
  refine z_bnd hF (fun q5 hq5 hF => ?_)
  refine L7  _ _ _ hq5 _ _ ls hP hD hS (lv_sub hl [1, 2, 0] rfl) (fun H locs ls hP hD hS hl => ?_)
  obtain rfl := Option.some.inj hF
  subst hQ
  subst hA
  exact W.vret hx hb hr (fun t ht hW => zq_mu (by rw [ht]; exact zfl hP) (hS.F ht)) hS.2.2 (z_d hX1_countMarks_0 23 rfl)
def rm_X1_label : Room := { frames := 1, cells := 0, slots := 0, locals := 22 }
set_option maxRecDepth 100000 in
set_option maxHeartbeats 4000000 in
theorem c_X1_label (l : Launch) (Z : zZ) (Ag : Nat → Nat) (As : Nat → Nat) (G : t_Pages) (S : t_Script) (R : t_Pages) (hF : X1_label G S = some R) : zMU l yX1_label (zw yX1_label cX1_label 6 none) rm_X1_label Z [.ref (Ag 0), .ref (As 0)] (List.flatten [w_Pages Z.2.1 Ag G, w_Script Z.2.1 As S]) (List.flatten [w_Pages Z.2.1 Ag R, w_Script Z.2.1 As S]) none := by
  refine zMU_of (by decide) (Nat.le_of_ble_eq_true rfl) (fun p e s m below meth c hx hb hr hml hown hts hlocks hK A hA Q hQ ls hl hP hD hS => ?_)
  unfold X1_label at hF
  have hl : lv_has ls 6 [(0, .ref (Ag 0)), (1, .ref (As 0))] := hl
  have hown : s.vm.findClass RX1 = some m.cls := hown
  have hP : va_P Z.1 vwCl (l_Pages Z.2.1 Ag G.1 G.2.1 G.2.2.1 G.2.2.2.1 G.2.2.2.2.1 G.2.2.2.2.2.1 G.2.2.2.2.2.2.1 G.2.2.2.2.2.2.2.1 G.2.2.2.2.2.2.2.2.1 G.2.2.2.2.2.2.2.2.2.1 G.2.2.2.2.2.2.2.2.2.2.1 G.2.2.2.2.2.2.2.2.2.2.2.1 G.2.2.2.2.2.2.2.2.2.2.2.2.1 G.2.2.2.2.2.2.2.2.2.2.2.2.2 ++ [w_Script Z.2.1 As S]).flatten s.heap := zfr hP
  have hD : va_D A (l_Pages Z.2.1 Ag G.1 G.2.1 G.2.2.1 G.2.2.2.1 G.2.2.2.2.1 G.2.2.2.2.2.1 G.2.2.2.2.2.2.1 G.2.2.2.2.2.2.2.1 G.2.2.2.2.2.2.2.2.1 G.2.2.2.2.2.2.2.2.2.1 G.2.2.2.2.2.2.2.2.2.2.1 G.2.2.2.2.2.2.2.2.2.2.2.1 G.2.2.2.2.2.2.2.2.2.2.2.2.1 G.2.2.2.2.2.2.2.2.2.2.2.2.2 ++ [w_Script Z.2.1 As S]).flatten := zfrD hD
  have L7 : ∀  (n : Nat) (v : t_Pages × Int32 × Int32 × Int32) (X : t_Pages) (hF : zloop (b_X1_label_7 S ) n v = some X) (H : Heap) (locs : List Loc) (ls : Array Slot) (hP : va_P Z.1 vwCl (l_Pages Z.2.1 Ag v.1.1 v.1.2.1 v.1.2.2.1 v.1.2.2.2.1 v.1.2.2.2.2.1 v.1.2.2.2.2.2.1 v.1.2.2.2.2.2.2.1 v.1.2.2.2.2.2.2.2.1 v.1.2.2.2.2.2.2.2.2.1 v.1.2.2.2.2.2.2.2.2.2.1 v.1.2.2.2.2.2.2.2.2.2.2.1 v.1.2.2.2.2.2.2.2.2.2.2.2.1 v.1.2.2.2.2.2.2.2.2.2.2.2.2.1 v.1.2.2.2.2.2.2.2.2.2.2.2.2.2 ++ [w_Script Z.2.1 As S]).flatten H) (hD : va_D A (l_Pages Z.2.1 Ag v.1.1 v.1.2.1 v.1.2.2.1 v.1.2.2.2.1 v.1.2.2.2.2.1 v.1.2.2.2.2.2.1 v.1.2.2.2.2.2.2.1 v.1.2.2.2.2.2.2.2.1 v.1.2.2.2.2.2.2.2.2.1 v.1.2.2.2.2.2.2.2.2.2.1 v.1.2.2.2.2.2.2.2.2.2.2.1 v.1.2.2.2.2.2.2.2.2.2.2.2.1 v.1.2.2.2.2.2.2.2.2.2.2.2.2.1 v.1.2.2.2.2.2.2.2.2.2.2.2.2.2 ++ [w_Script Z.2.1 As S]).flatten) (hS : va_S A s.heap H locs) (hl : lv_has ls 6 [(0, .ref (Ag 0)), (1, .ref (As 0)), (2, .int v.2.1), (3, .int v.2.2.1), (4, .int v.2.2.2)]) (K1 : ∀ (H : Heap) (locs : List Loc) (ls : Array Slot) (hP : va_P Z.1 vwCl (l_Pages Z.2.1 Ag X.1 X.2.1 X.2.2.1 X.2.2.2.1 X.2.2.2.2.1 X.2.2.2.2.2.1 X.2.2.2.2.2.2.1 X.2.2.2.2.2.2.2.1 X.2.2.2.2.2.2.2.2.1 X.2.2.2.2.2.2.2.2.2.1 X.2.2.2.2.2.2.2.2.2.2.1 X.2.2.2.2.2.2.2.2.2.2.2.1 X.2.2.2.2.2.2.2.2.2.2.2.2.1 X.2.2.2.2.2.2.2.2.2.2.2.2.2 ++ [w_Script Z.2.1 As S]).flatten H) (hD : va_D A (l_Pages Z.2.1 Ag X.1 X.2.1 X.2.2.1 X.2.2.2.1 X.2.2.2.2.1 X.2.2.2.2.2.1 X.2.2.2.2.2.2.1 X.2.2.2.2.2.2.2.1 X.2.2.2.2.2.2.2.2.1 X.2.2.2.2.2.2.2.2.2.1 X.2.2.2.2.2.2.2.2.2.2.1 X.2.2.2.2.2.2.2.2.2.2.2.1 X.2.2.2.2.2.2.2.2.2.2.2.2.1 X.2.2.2.2.2.2.2.2.2.2.2.2.2 ++ [w_Script Z.2.1 As S]).flatten) (hS : va_S A s.heap H locs) (hl : lv_has ls 6 [(0, .ref (Ag 0)), (1, .ref (As 0))]), W p l e rm_X1_label s m ([.ref (Ag 0), .ref (As 0)] : List Value).toArray below meth c H locs 0 0 Q (F0 m 94 ls [])), W p l e rm_X1_label s m ([.ref (Ag 0), .ref (As 0)] : List Value).toArray below meth c H locs 0 0 Q (F0 m 7 ls []) := by
    skip
    refine z_loopE (fun rec ih v X hF H locs ls hP hD hS hl K1 => ?_)
    unfold b_X1_label_7 at hF
    have J68 : ∀ (G : t_Pages) (x2 : Int32) (x3 : Int32) (x4 : Int32) (hF : j_X1_label_68 S rec G x2 x3 x4 = some X) (H : Heap) (locs : List Loc) (ls : Array Slot) (hP : va_P Z.1 vwCl (l_Pages Z.2.1 Ag G.1 G.2.1 G.2.2.1 G.2.2.2.1 G.2.2.2.2.1 G.2.2.2.2.2.1 G.2.2.2.2.2.2.1 G.2.2.2.2.2.2.2.1 G.2.2.2.2.2.2.2.2.1 G.2.2.2.2.2.2.2.2.2.1 G.2.2.2.2.2.2.2.2.2.2.1 G.2.2.2.2.2.2.2.2.2.2.2.1 G.2.2.2.2.2.2.2.2.2.2.2.2.1 G.2.2.2.2.2.2.2.2.2.2.2.2.2 ++ [w_Script Z.2.1 As S]).flatten H) (hD : va_D A (l_Pages Z.2.1 Ag G.1 G.2.1 G.2.2.1 G.2.2.2.1 G.2.2.2.2.1 G.2.2.2.2.2.1 G.2.2.2.2.2.2.1 G.2.2.2.2.2.2.2.1 G.2.2.2.2.2.2.2.2.1 G.2.2.2.2.2.2.2.2.2.1 G.2.2.2.2.2.2.2.2.2.2.1 G.2.2.2.2.2.2.2.2.2.2.2.1 G.2.2.2.2.2.2.2.2.2.2.2.2.1 G.2.2.2.2.2.2.2.2.2.2.2.2.2 ++ [w_Script Z.2.1 As S]).flatten) (hS : va_S A s.heap H locs) (hl : lv_has ls 6 [(0, .ref (Ag 0)), (1, .ref (As 0)), (2, .int x2), (3, .int x3), (4, .int x4)]), W p l e rm_X1_label s m ([.ref (Ag 0), .ref (As 0)] : List Value).toArray below meth c H locs 0 0 Q (F0 m 68 ls []) := by
      intro G x2 x3 x4 hF H locs ls hP hD hS hl
      unfold j_X1_label_68 at hF
      refine lv_aload_n hx hb (z_d hX1_label_0 37 rfl) rfl (lv_at hl 0 rfl) ?_
      refine va_get (D := Z.1) (ci := 1) (v := .ref (Ag 9)) (C := RX1) (T := TX1) (N := 14) hx hb hts zinX1 hown hK.1 (zP_reg hP 0 rfl) 0 rfl rfl 9 (by decide) (hts _ k_f_X1_45) (fun _ h9 => h9) rfl (z_d hX1_label_0 38 rfl) ?_
      refine lv_iload hx hb (z_d hX1_label_0 39 rfl) (lv_at hl 4 rfl) ?_
      refine lv_iload_n hx hb (z_d hX1_label_0 40 rfl) rfl (lv_at hl 2 rfl) ?_
      refine z_let hF (fun q4 hq4 hF => ?_)
      refine z_mu1 (L := l_Pages Z.2.1 Ag G.1 G.2.1 G.2.2.1 G.2.2.2.1 G.2.2.2.2.1 G.2.2.2.2.2.1 G.2.2.2.2.2.2.1 G.2.2.2.2.2.2.2.1 G.2.2.2.2.2.2.2.2.1 G.2.2.2.2.2.2.2.2.2.1 G.2.2.2.2.2.2.2.2.2.2.1 G.2.2.2.2.2.2.2.2.2.2.2.1 G.2.2.2.2.2.2.2.2.2.2.2.2.1 G.2.2.2.2.2.2.2.2.2.2.2.2.2 ++ [w_Script Z.2.1 As S]) (L' := l_Pages Z.2.1 Ag G.1 G.2.1 G.2.2.1 G.2.2.2.1 G.2.2.2.2.1 G.2.2.2.2.2.1 G.2.2.2.2.2.2.1 G.2.2.2.2.2.2.2.1 G.2.2.2.2.2.2.2.2.1 q4 G.2.2.2.2.2.2.2.2.2.2.1 G.2.2.2.2.2.2.2.2.2.2.2.1 G.2.2.2.2.2.2.2.2.2.2.2.2.1 G.2.2.2.2.2.2.2.2.2.2.2.2.2 ++ [w_Script Z.2.1 As S]) (z_rV (As := [.int x4, .int x2]) (rest := []) hx hb hml hown hts vt_X3_put (c_rPut l Z 60 (Ag 9) (Ag 10) (by decide) G.2.2.2.2.2.2.2.2.2.1 x4 x2 _ hq4) rfl rfl ⟨Nat.le_of_ble_eq_true rfl, Nat.le_of_ble_eq_true rfl⟩ k_m_X1_109 zPmu_blind (z_recv (q := (RX3, TX3, 1)) (ci := 3) (q0 := 0) hK (zP_reg hP 5 rfl) rfl rfl) (z_prem hK (zP_reg hP 5 rfl) (zD_one hD 5 _ rfl)) rfl hl.1 (Nat.le_of_ble_eq_true rfl) (z_d hX1_label_0 41 rfl) ⟨Nat.zero_le _, Nat.zero_le _⟩) hS hP hD 5 rfl rfl rfl (fun H locs hP hD hS => ?_)
      refine W.eq (g2 := F0 m 78 ls []) rfl ?_
      refine lv_aload_n hx hb (z_d hX1_label_0 42 rfl) rfl (lv_at hl 0 rfl) ?_
      refine va_get (D := Z.1) (ci := 1) (v := .ref (Ag 11)) (C := RX1) (T := TX1) (N := 14) hx hb hts zinX1 hown hK.1 (zP_reg hP 0 rfl) 0 rfl rfl 10 (by decide) (hts _ k_f_X1_48) (fun _ h9 => h9) rfl (z_d hX1_label_0 43 rfl) ?_
      refine lv_iload hx hb (z_d hX1_label_0 44 rfl) (lv_at hl 4 rfl) ?_
      refine lv_iload_n hx hb (z_d hX1_label_0 45 rfl) rfl (lv_at hl 3 rfl) ?_
      refine z_let hF (fun q5 hq5 hF => ?_)
      refine z_mu1 (L := l_Pages Z.2.1 Ag G.1 G.2.1 G.2.2.1 G.2.2.2.1 G.2.2.2.2.1 G.2.2.2.2.2.1 G.2.2.2.2.2.2.1 G.2.2.2.2.2.2.2.1 G.2.2.2.2.2.2.2.2.1 q4 G.2.2.2.2.2.2.2.2.2.2.1 G.2.2.2.2.2.2.2.2.2.2.2.1 G.2.2.2.2.2.2.2.2.2.2.2.2.1 G.2.2.2.2.2.2.2.2.2.2.2.2.2 ++ [w_Script Z.2.1 As S]) (L' := l_Pages Z.2.1 Ag G.1 G.2.1 G.2.2.1 G.2.2.2.1 G.2.2.2.2.1 G.2.2.2.2.2.1 G.2.2.2.2.2.2.1 G.2.2.2.2.2.2.2.1 G.2.2.2.2.2.2.2.2.1 q4 q5 G.2.2.2.2.2.2.2.2.2.2.2.1 G.2.2.2.2.2.2.2.2.2.2.2.2.1 G.2.2.2.2.2.2.2.2.2.2.2.2.2 ++ [w_Script Z.2.1 As S]) (z_rV (As := [.int x4, .int x3]) (rest := []) hx hb hml hown hts vt_X3_put (c_rPut l Z 60 (Ag 11) (Ag 12) (by decide) G.2.2.2.2.2.2.2.2.2.2.1 x4 x3 _ hq5) rfl rfl ⟨Nat.le_of_ble_eq_true rfl, Nat.le_of_ble_eq_true rfl⟩ k_m_X1_109 zPmu_blind (z_recv (q := (RX3, TX3, 1)) (ci := 3) (q0 := 0) hK (zP_reg hP 6 rfl) rfl rfl) (z_prem hK (zP_reg hP 6 rfl) (zD_one hD 6 _ rfl)) rfl hl.1 (Nat.le_of_ble_eq_true rfl) (z_d hX1_label_0 46 rfl) ⟨Nat.zero_le _, Nat.zero_le _⟩) hS hP hD 6 rfl rfl rfl (fun H locs hP hD hS => ?_)
      refine W.eq (g2 := F0 m 88 ls []) rfl ?_
      refine z_let hF (fun u6 hu6 hF => ?_)
      refine lv_iinc (v := u6) (lv' := [(4, .int u6), (0, .ref (Ag 0)), (1, .ref (As 0)), (2, .int x2), (3, .int x3)]) hx hb (z_d hX1_label_0 47 rfl) hl (k := 4) rfl (z_inc1 hu6) (by decide) rfl (fun ls hl => ?_)
      refine lv_goto (tgt := 7) hx hb (z_d hX1_label_0 48 rfl) (by decide) ?_
      exact ih _ _ hF _ _ ls hP hD hS (lv_sub hl [1, 2, 3, 4, 0] rfl) K1
    refine lv_iload hx hb (z_d hX1_label_0 6 rfl) (lv_at hl 4 rfl) ?_
    refine lv_aload_n hx hb (z_d hX1_label_0 7 rfl) rfl (lv_at hl 0 rfl) ?_
    refine va_get (D := Z.1) (ci := 1) (v := .int v.1.1) (C := RX1) (T := TX1) (N := 14) hx hb hts zinX1 hown hK.1 (zP_reg hP 0 rfl) 0 rfl rfl 0 (by decide) (hts _ k_f_X1_9) (fun _ h9 => h9) rfl (z_d hX1_label_0 8 rfl) ?_
    refine lv_icmp_ge (tgt := 94) hx hb (z_d hX1_label_0 9 rfl) (by decide) (fun hc13 => ?_) (fun hc13 => ?_)
    · have hF := z_pos hc13 hF
      obtain rfl := Option.some.inj hF
      exact K1 _ _ ls hP hD hS (lv_sub hl [0, 1] rfl)
    · have hF := z_neg hc13 hF
      refine lv_aload_n hx hb (z_d hX1_label_0 10 rfl) rfl (lv_at hl 1 rfl) ?_
      refine va_getN (D := Z.1) (ci := 5) (v := .ref (As 7)) (C := RX5) (T := TX5) (N := 10) hx hb hts zinX5 hown hK.1 (zP_reg (L := l_Script Z.2.1 As S.1 S.2.1 S.2.2.1 S.2.2.2.1 S.2.2.2.2.1 S.2.2.2.2.2.1 S.2.2.2.2.2.2.1 S.2.2.2.2.2.2.2.1 S.2.2.2.2.2.2.2.2.1 S.2.2.2.2.2.2.2.2.2) (zP_reg hP 10 rfl) 0 rfl) 0 rfl rfl 5 (by decide) (kn_X1_117 hK.2) (fun _ h9 => h9) rfl (z_d hX1_label_0 11 rfl) ?_
      refine lv_aload_n hx hb (z_d hX1_label_0 12 rfl) rfl (lv_at hl 0 rfl) ?_
      refine va_get (D := Z.1) (ci := 1) (v := .ref (Ag 15)) (C := RX1) (T := TX1) (N := 14) hx hb hts zinX1 hown hK.1 (zP_reg hP 0 rfl) 0 rfl rfl 12 (by decide) (hts _ k_f_X1_54) (fun _ h9 => h9) rfl (z_d hX1_label_0 13 rfl) ?_
      refine lv_iload hx hb (z_d hX1_label_0 14 rfl) (lv_at hl 4 rfl) ?_
      refine z_let hF (fun q1 hq1 hF => ?_)
      refine z_ro_i (z_rV (As := [.int v.2.2.2]) (rest := [.ref (As 7)]) hx hb hml hown hts vt_X3_at (c_rAt l Z 60 (Ag 15) (Ag 16) (by decide) v.1.2.2.2.2.2.2.2.2.2.2.2.2.1 v.2.2.2 _ hq1) rfl rfl ⟨Nat.le_of_ble_eq_true rfl, Nat.le_of_ble_eq_true rfl⟩ k_m_X1_92 zPro_blind (z_recv (q := (RX3, TX3, 1)) (ci := 3) (q0 := 0) hK (zP_reg hP 8 rfl) rfl rfl) (z_prec hK (zP_reg hP 8 rfl)) rfl hl.1 (Nat.le_of_ble_eq_true rfl) (z_d hX1_label_0 15 rfl) ⟨Nat.zero_le _, Nat.zero_le _⟩) hS hP (fun H locs hP hS => ?_)
      refine z_let hF (fun q2 hq2 hF => ?_)
      refine z_ro_i (z_rV (As := [.int q1]) (rest := []) hx hb hml hown hts vt_X3_at (c_rAt l Z 60 (As 7) (As 8) (by decide) S.2.2.2.2.2.1 q1 _ hq2) rfl rfl ⟨Nat.le_of_ble_eq_true rfl, Nat.le_of_ble_eq_true rfl⟩ k_m_X1_92 zPro_blind (z_recv (q := (RX3, TX3, 1)) (ci := 3) (q0 := 0) hK (zP_reg (L := l_Script Z.2.1 As S.1 S.2.1 S.2.2.1 S.2.2.2.1 S.2.2.2.2.1 S.2.2.2.2.2.1 S.2.2.2.2.2.2.1 S.2.2.2.2.2.2.2.1 S.2.2.2.2.2.2.2.2.1 S.2.2.2.2.2.2.2.2.2) (zP_reg hP 10 rfl) 4 rfl) rfl rfl) (z_prec hK (zP_reg (L := l_Script Z.2.1 As S.1 S.2.1 S.2.2.1 S.2.2.2.1 S.2.2.2.2.1 S.2.2.2.2.2.1 S.2.2.2.2.2.2.1 S.2.2.2.2.2.2.2.1 S.2.2.2.2.2.2.2.2.1 S.2.2.2.2.2.2.2.2.2) (zP_reg hP 10 rfl) 4 rfl)) rfl hl.1 (Nat.le_of_ble_eq_true rfl) (z_d hX1_label_0 16 rfl) ⟨Nat.zero_le _, Nat.zero_le _⟩) hS hP (fun H locs hP hS => ?_)
      refine lv_istore (lv' := [(5, .int q2), (0, .ref (Ag 0)), (1, .ref (As 0)), (2, .int v.2.1), (3, .int v.2.2.1), (4, .int v.2.2.2)]) hx hb (z_d hX1_label_0 17 rfl) hl (by decide) rfl (fun ls hl => ?_)
      refine lv_aload_n hx hb (z_d hX1_label_0 18 rfl) rfl (lv_at hl 1 rfl) ?_
      refine va_get (D := Z.1) (ci := 1) (v := .int v.1.2.1) (C := RX1) (T := TX1) (N := 14) hx hb hts zinX1 hown hK.1 (zP_reg hP 0 rfl) 0 rfl rfl 1 (by decide) (hts _ k_f_X1_15) (fun _ h9 => h9) rfl (z_d hX1_label_0 19 rfl) ?_
      refine lv_if_ne (tgt := 51) hx hb (z_d hX1_label_0 20 rfl) (by decide) (fun hc38 => ?_) (fun hc38 => ?_)
      · have hF := z_neg hc38 hF
        refine lv_iload hx hb (z_d hX1_label_0 28 rfl) (lv_at hl 0 rfl) ?_
        refine lv_iconst (v := (-1)) hx hb (z_d hX1_label_0 29 rfl) (by decide) ?_
        refine lv_icmp_eq (tgt := 65) hx hb (z_d hX1_label_0 30 rfl) (by decide) (fun hc54 => ?_) (fun hc54 => ?_)
        · have hF := z_pos hc54 hF
          refine z_let hF (fun u3 hu3 hF => ?_)
          refine lv_iinc (v := u3) (lv' := [(3, .int u3), (5, .int q2), (0, .ref (Ag 0)), (1, .ref (As 0)), (2, .int v.2.1), (4, .int v.2.2.2)]) hx hb (z_d hX1_label_0 36 rfl) hl (k := 4) rfl (z_inc1 hu3) (by decide) rfl (fun ls hl => ?_)
          exact J68 v.1 v.2.1 u3 v.2.2.2 hF _ _ ls hP hD hS (lv_sub hl [2, 3, 4, 0, 5] rfl)
        · have hF := z_neg hc54 hF
          refine lv_iload hx hb (z_d hX1_label_0 31 rfl) (lv_at hl 0 rfl) ?_
          refine lv_istore_n (lv' := [(2, .int q2), (5, .int q2), (0, .ref (Ag 0)), (1, .ref (As 0)), (3, .int v.2.2.1), (4, .int v.2.2.2)]) hx hb (z_d hX1_label_0 32 rfl) rfl hl (by decide) rfl (fun ls hl => ?_)
          refine lv_iconst (v := 0) hx hb (z_d hX1_label_0 33 rfl) (by decide) ?_
          refine lv_istore_n (lv' := [(3, .int 0), (2, .int q2), (5, .int q2), (0, .ref (Ag 0)), (1, .ref (As 0)), (4, .int v.2.2.2)]) hx hb (z_d hX1_label_0 34 rfl) rfl hl (by decide) rfl (fun ls hl => ?_)
          refine lv_goto (tgt := 68) hx hb (z_d hX1_label_0 35 rfl) (by decide) ?_
          exact J68 v.1 q2 0 v.2.2.2 hF _ _ ls hP hD hS (lv_sub hl [3, 4, 1, 0, 5] rfl)
      · have hF := z_pos hc38 hF
        refine lv_iload hx hb (z_d hX1_label_0 21 rfl) (lv_at hl 5 rfl) ?_
        refine lv_iconst (v := 1) hx hb (z_d hX1_label_0 22 rfl) (by decide) ?_
        refine lv_iadd hx hb (z_d hX1_label_0 23 rfl) ?_
        refine z_let hF (fun u7 hu7 hF => ?_)
        refine lv_topE hu7 ?_
        refine lv_istore_n (lv' := [(2, .int u7), (5, .int q2), (0, .ref (Ag 0)), (1, .ref (As 0)), (3, .int v.2.2.1), (4, .int v.2.2.2)]) hx hb (z_d hX1_label_0 24 rfl) rfl hl (by decide) rfl (fun ls hl => ?_)
        refine lv_iconst (v := 0) hx hb (z_d hX1_label_0 25 rfl) (by decide) ?_
        refine lv_istore_n (lv' := [(3, .int 0), (2, .int u7), (5, .int q2), (0, .ref (Ag 0)), (1, .ref (As 0)), (4, .int v.2.2.2)]) hx hb (z_d hX1_label_0 26 rfl) rfl hl (by decide) rfl (fun ls hl => ?_)
        refine lv_goto (tgt := 68) hx hb (z_d hX1_label_0 27 rfl) (by decide) ?_
        exact J68 v.1 u7 0 v.2.2.2 hF _ _ ls hP hD hS (lv_sub hl [3, 4, 1, 0, 5] rfl)
  refine lv_iconst (v := 0) hx hb (z_d hX1_label_0 0 rfl) (by decide) ?_
  refine lv_istore_n (lv' := [(2, .int 0), (0, .ref (Ag 0)), (1, .ref (As 0))]) hx hb (z_d hX1_label_0 1 rfl) rfl hl (by decide) rfl (fun ls hl => ?_)
  refine lv_iconst (v := (-1)) hx hb (z_d hX1_label_0 2 rfl) (by decide) ?_
  refine lv_istore_n (lv' := [(3, .int (-1)), (2, .int 0), (0, .ref (Ag 0)), (1, .ref (As 0))]) hx hb (z_d hX1_label_0 3 rfl) rfl hl (by decide) rfl (fun ls hl => ?_)
  refine lv_iconst (v := 0) hx hb (z_d hX1_label_0 4 rfl) (by decide) ?_
  refine lv_istore (lv' := [(4, .int 0), (3, .int (-1)), (2, .int 0), (0, .ref (Ag 0)), (1, .ref (As 0))]) hx hb (z_d hX1_label_0 5 rfl) hl (by decide) rfl (fun ls hl => ?_)
  refine z_bnd hF (fun q8 hq8 hF => ?_)
  refine L7  _ _ _ hq8 _ _ ls hP hD hS (lv_sub hl [3, 4, 2, 1, 0] rfl) (fun H locs ls hP hD hS hl => ?_)
  obtain rfl := Option.some.inj hF
  subst hQ
  subst hA
  exact W.vret hx hb hr (fun t ht hW => zq_mu (by rw [ht]; exact zfl hP) (hS.F ht)) hS.2.2 (z_d hX1_label_0 49 rfl)
def rm_X1_arrange : Room := { frames := 4, cells := 0, slots := 0, locals := 91 }
set_option maxRecDepth 100000 in
set_option maxHeartbeats 4000000 in
theorem c_X1_arrange (l : Launch) (Z : zZ) (Ag : Nat → Nat) (As : Nat → Nat) (G : t_Pages) (S : t_Script) (R : Int32 × t_Pages) (hF : X1_arrange G S = some R) : zMU l yX1_arrange (zw yX1_arrange cX1_arrange 3 (some .int)) rm_X1_arrange Z [.ref (Ag 0), .ref (As 0)] (List.flatten [w_Pages Z.2.1 Ag G, w_Script Z.2.1 As S]) (List.flatten [w_Pages Z.2.1 Ag R.2, w_Script Z.2.1 As S]) (some (.int R.1)) := by
  refine zMU_of (by decide) (Nat.le_of_ble_eq_true rfl) (fun p e s m below meth c hx hb hr hml hown hts hlocks hK A hA Q hQ ls hl hP hD hS => ?_)
  unfold X1_arrange at hF
  have hl : lv_has ls 3 [(0, .ref (Ag 0)), (1, .ref (As 0))] := hl
  have hown : s.vm.findClass RX1 = some m.cls := hown
  have hP : va_P Z.1 vwCl (l_Pages Z.2.1 Ag G.1 G.2.1 G.2.2.1 G.2.2.2.1 G.2.2.2.2.1 G.2.2.2.2.2.1 G.2.2.2.2.2.2.1 G.2.2.2.2.2.2.2.1 G.2.2.2.2.2.2.2.2.1 G.2.2.2.2.2.2.2.2.2.1 G.2.2.2.2.2.2.2.2.2.2.1 G.2.2.2.2.2.2.2.2.2.2.2.1 G.2.2.2.2.2.2.2.2.2.2.2.2.1 G.2.2.2.2.2.2.2.2.2.2.2.2.2 ++ [w_Script Z.2.1 As S]).flatten s.heap := zfr hP
  have hD : va_D A (l_Pages Z.2.1 Ag G.1 G.2.1 G.2.2.1 G.2.2.2.1 G.2.2.2.2.1 G.2.2.2.2.2.1 G.2.2.2.2.2.2.1 G.2.2.2.2.2.2.2.1 G.2.2.2.2.2.2.2.2.1 G.2.2.2.2.2.2.2.2.2.1 G.2.2.2.2.2.2.2.2.2.2.1 G.2.2.2.2.2.2.2.2.2.2.2.1 G.2.2.2.2.2.2.2.2.2.2.2.2.1 G.2.2.2.2.2.2.2.2.2.2.2.2.2 ++ [w_Script Z.2.1 As S]).flatten := zfrD hD
  have L25 : ∀  (n : Nat) (v : t_Pages × Int32) (X : t_Pages) (hF : zloop (b_X1_arrange_25 S ) n v = some X) (H : Heap) (locs : List Loc) (ls : Array Slot) (hP : va_P Z.1 vwCl (l_Pages Z.2.1 Ag v.1.1 v.1.2.1 v.1.2.2.1 v.1.2.2.2.1 v.1.2.2.2.2.1 v.1.2.2.2.2.2.1 v.1.2.2.2.2.2.2.1 v.1.2.2.2.2.2.2.2.1 v.1.2.2.2.2.2.2.2.2.1 v.1.2.2.2.2.2.2.2.2.2.1 v.1.2.2.2.2.2.2.2.2.2.2.1 v.1.2.2.2.2.2.2.2.2.2.2.2.1 v.1.2.2.2.2.2.2.2.2.2.2.2.2.1 v.1.2.2.2.2.2.2.2.2.2.2.2.2.2 ++ [w_Script Z.2.1 As S]).flatten H) (hD : va_D A (l_Pages Z.2.1 Ag v.1.1 v.1.2.1 v.1.2.2.1 v.1.2.2.2.1 v.1.2.2.2.2.1 v.1.2.2.2.2.2.1 v.1.2.2.2.2.2.2.1 v.1.2.2.2.2.2.2.2.1 v.1.2.2.2.2.2.2.2.2.1 v.1.2.2.2.2.2.2.2.2.2.1 v.1.2.2.2.2.2.2.2.2.2.2.1 v.1.2.2.2.2.2.2.2.2.2.2.2.1 v.1.2.2.2.2.2.2.2.2.2.2.2.2.1 v.1.2.2.2.2.2.2.2.2.2.2.2.2.2 ++ [w_Script Z.2.1 As S]).flatten) (hS : va_S A s.heap H locs) (hl : lv_has ls 3 [(0, .ref (Ag 0)), (1, .ref (As 0)), (2, .int v.2)]) (K1 : ∀ (H : Heap) (locs : List Loc) (ls : Array Slot) (hP : va_P Z.1 vwCl (l_Pages Z.2.1 Ag X.1 X.2.1 X.2.2.1 X.2.2.2.1 X.2.2.2.2.1 X.2.2.2.2.2.1 X.2.2.2.2.2.2.1 X.2.2.2.2.2.2.2.1 X.2.2.2.2.2.2.2.2.1 X.2.2.2.2.2.2.2.2.2.1 X.2.2.2.2.2.2.2.2.2.2.1 X.2.2.2.2.2.2.2.2.2.2.2.1 X.2.2.2.2.2.2.2.2.2.2.2.2.1 X.2.2.2.2.2.2.2.2.2.2.2.2.2 ++ [w_Script Z.2.1 As S]).flatten H) (hD : va_D A (l_Pages Z.2.1 Ag X.1 X.2.1 X.2.2.1 X.2.2.2.1 X.2.2.2.2.1 X.2.2.2.2.2.1 X.2.2.2.2.2.2.1 X.2.2.2.2.2.2.2.1 X.2.2.2.2.2.2.2.2.1 X.2.2.2.2.2.2.2.2.2.1 X.2.2.2.2.2.2.2.2.2.2.1 X.2.2.2.2.2.2.2.2.2.2.2.1 X.2.2.2.2.2.2.2.2.2.2.2.2.1 X.2.2.2.2.2.2.2.2.2.2.2.2.2 ++ [w_Script Z.2.1 As S]).flatten) (hS : va_S A s.heap H locs) (hl : lv_has ls 3 [(0, .ref (Ag 0)), (1, .ref (As 0))]), W p l e rm_X1_arrange s m ([.ref (Ag 0), .ref (As 0)] : List Value).toArray below meth c H locs 0 0 Q (F0 m 65 ls [])), W p l e rm_X1_arrange s m ([.ref (Ag 0), .ref (As 0)] : List Value).toArray below meth c H locs 0 0 Q (F0 m 25 ls []) := by
    skip
    refine z_loopE (fun rec ih v X hF H locs ls hP hD hS hl K1 => ?_)
    unfold b_X1_arrange_25 at hF
    have J53 : ∀ (G : t_Pages) (x2 : Int32) (hF : j_X1_arrange_53 S rec G x2 = some X) (H : Heap) (locs : List Loc) (ls : Array Slot) (hP : va_P Z.1 vwCl (l_Pages Z.2.1 Ag G.1 G.2.1 G.2.2.1 G.2.2.2.1 G.2.2.2.2.1 G.2.2.2.2.2.1 G.2.2.2.2.2.2.1 G.2.2.2.2.2.2.2.1 G.2.2.2.2.2.2.2.2.1 G.2.2.2.2.2.2.2.2.2.1 G.2.2.2.2.2.2.2.2.2.2.1 G.2.2.2.2.2.2.2.2.2.2.2.1 G.2.2.2.2.2.2.2.2.2.2.2.2.1 G.2.2.2.2.2.2.2.2.2.2.2.2.2 ++ [w_Script Z.2.1 As S]).flatten H) (hD : va_D A (l_Pages Z.2.1 Ag G.1 G.2.1 G.2.2.1 G.2.2.2.1 G.2.2.2.2.1 G.2.2.2.2.2.1 G.2.2.2.2.2.2.1 G.2.2.2.2.2.2.2.1 G.2.2.2.2.2.2.2.2.1 G.2.2.2.2.2.2.2.2.2.1 G.2.2.2.2.2.2.2.2.2.2.1 G.2.2.2.2.2.2.2.2.2.2.2.1 G.2.2.2.2.2.2.2.2.2.2.2.2.1 G.2.2.2.2.2.2.2.2.2.2.2.2.2 ++ [w_Script Z.2.1 As S]).flatten) (hS : va_S A s.heap H locs) (hl : lv_has ls 3 [(0, .ref (Ag 0)), (1, .ref (As 0)), (2, .int x2)]), W p l e rm_X1_arrange s m ([.ref (Ag 0), .ref (As 0)] : List Value).toArray below meth c H locs 0 0 Q (F0 m 53 ls []) := by
      intro G x2 hF H locs ls hP hD hS hl
      unfold j_X1_arrange_53 at hF
      refine lv_aload_n hx hb (z_d hX1_arrange_0 29 rfl) rfl (lv_at hl 0 rfl) ?_
      refine lv_aload_n hx hb (z_d hX1_arrange_0 30 rfl) rfl (lv_at hl 1 rfl) ?_
      refine lv_iload_n hx hb (z_d hX1_arrange_0 31 rfl) rfl (lv_at hl 2 rfl) ?_
      refine z_let hF (fun q3 hq3 hF => ?_)
      refine z_mu0 (z_rV (As := [.ref (As 0), .int x2]) (rest := []) hx hb hml hown hts vt_X1_setElement (c_X1_setElement l Z Ag As G S x2 _ hq3) rfl rfl ⟨Nat.le_of_ble_eq_true rfl, Nat.le_of_ble_eq_true rfl⟩ k_m_X1_79 zPmu_blind (z_recv (q := (RX1, TX1, 14)) (ci := 1) (q0 := 0) hK (zP_reg hP 0 rfl) rfl rfl) (z_prem hK (zfl hP) (zflD hD)) rfl hl.1 (Nat.le_of_ble_eq_true rfl) (z_d hX1_arrange_0 32 rfl) ⟨Nat.zero_le _, Nat.zero_le _⟩) hS (zflD hD) (zadr2 (adr_Pages _ _ _ _) (adr_Script _ _ _ _)) (fun H locs hP hD hS => ?_)
      have hP : va_P Z.1 vwCl (l_Pages Z.2.1 Ag q3.1 q3.2.1 q3.2.2.1 q3.2.2.2.1 q3.2.2.2.2.1 q3.2.2.2.2.2.1 q3.2.2.2.2.2.2.1 q3.2.2.2.2.2.2.2.1 q3.2.2.2.2.2.2.2.2.1 q3.2.2.2.2.2.2.2.2.2.1 q3.2.2.2.2.2.2.2.2.2.2.1 q3.2.2.2.2.2.2.2.2.2.2.2.1 q3.2.2.2.2.2.2.2.2.2.2.2.2.1 q3.2.2.2.2.2.2.2.2.2.2.2.2.2 ++ [w_Script Z.2.1 As S]).flatten H := zfr hP
      have hD : va_D A (l_Pages Z.2.1 Ag q3.1 q3.2.1 q3.2.2.1 q3.2.2.2.1 q3.2.2.2.2.1 q3.2.2.2.2.2.1 q3.2.2.2.2.2.2.1 q3.2.2.2.2.2.2.2.1 q3.2.2.2.2.2.2.2.2.1 q3.2.2.2.2.2.2.2.2.2.1 q3.2.2.2.2.2.2.2.2.2.2.1 q3.2.2.2.2.2.2.2.2.2.2.2.1 q3.2.2.2.2.2.2.2.2.2.2.2.2.1 q3.2.2.2.2.2.2.2.2.2.2.2.2.2 ++ [w_Script Z.2.1 As S]).flatten := zfrD hD
      refine W.eq (g2 := F0 m 59 ls []) rfl ?_
      refine z_let hF (fun u4 hu4 hF => ?_)
      refine lv_iinc (v := u4) (lv' := [(2, .int u4), (0, .ref (Ag 0)), (1, .ref (As 0))]) hx hb (z_d hX1_arrange_0 33 rfl) hl (k := 2) rfl (z_inc1 hu4) (by decide) rfl (fun ls hl => ?_)
      refine lv_goto (tgt := 25) hx hb (z_d hX1_arrange_0 34 rfl) (by decide) ?_
      exact ih _ _ hF _ _ ls hP hD hS (lv_sub hl [1, 2, 0] rfl) K1
    have J49 : ∀ (G : t_Pages) (x2 : Int32) (hF : j_X1_arrange_49 S rec G x2 = some X) (H : Heap) (locs : List Loc) (ls : Array Slot) (hP : va_P Z.1 vwCl (l_Pages Z.2.1 Ag G.1 G.2.1 G.2.2.1 G.2.2.2.1 G.2.2.2.2.1 G.2.2.2.2.2.1 G.2.2.2.2.2.2.1 G.2.2.2.2.2.2.2.1 G.2.2.2.2.2.2.2.2.1 G.2.2.2.2.2.2.2.2.2.1 G.2.2.2.2.2.2.2.2.2.2.1 G.2.2.2.2.2.2.2.2.2.2.2.1 G.2.2.2.2.2.2.2.2.2.2.2.2.1 G.2.2.2.2.2.2.2.2.2.2.2.2.2 ++ [w_Script Z.2.1 As S]).flatten H) (hD : va_D A (l_Pages Z.2.1 Ag G.1 G.2.1 G.2.2.1 G.2.2.2.1 G.2.2.2.2.1 G.2.2.2.2.2.1 G.2.2.2.2.2.2.1 G.2.2.2.2.2.2.2.1 G.2.2.2.2.2.2.2.2.1 G.2.2.2.2.2.2.2.2.2.1 G.2.2.2.2.2.2.2.2.2.2.1 G.2.2.2.2.2.2.2.2.2.2.2.1 G.2.2.2.2.2.2.2.2.2.2.2.2.1 G.2.2.2.2.2.2.2.2.2.2.2.2.2 ++ [w_Script Z.2.1 As S]).flatten) (hS : va_S A s.heap H locs) (hl : lv_has ls 3 [(0, .ref (Ag 0)), (1, .ref (As 0)), (2, .int x2)]), W p l e rm_X1_arrange s m ([.ref (Ag 0), .ref (As 0)] : List Value).toArray below meth c H locs 0 0 Q (F0 m 49 ls []) := by
      intro G x2 hF H locs ls hP hD hS hl
      unfold j_X1_arrange_49 at hF
      refine lv_aload_n hx hb (z_d hX1_arrange_0 27 rfl) rfl (lv_at hl 0 rfl) ?_
      refine z_let hF (fun q2 hq2 hF => ?_)
      refine z_mu1 (L := [w_Pages Z.2.1 Ag G, w_Script Z.2.1 As S]) (L' := [w_Pages Z.2.1 Ag q2, w_Script Z.2.1 As S]) (z_rV (As := []) (rest := []) hx hb hml hown hts vt_X1_turnPage (c_X1_turnPage l Z Ag G _ hq2) rfl rfl ⟨Nat.le_of_ble_eq_true rfl, Nat.le_of_ble_eq_true rfl⟩ k_m_X1_76 zPmu_blind (z_recv (q := (RX1, TX1, 14)) (ci := 1) (q0 := 0) hK (zP_reg hP 0 rfl) rfl rfl) (z_prem hK (zP_reg (zfl hP) 0 rfl) (zD_one (zflD hD) 0 _ rfl)) rfl hl.1 (Nat.le_of_ble_eq_true rfl) (z_d hX1_arrange_0 28 rfl) ⟨Nat.zero_le _, Nat.zero_le _⟩) hS (zfl hP) (zflD hD) 0 rfl rfl (adr_Pages _ _ _ _) (fun H locs hP hD hS => ?_)
      have hP : va_P Z.1 vwCl (l_Pages Z.2.1 Ag q2.1 q2.2.1 q2.2.2.1 q2.2.2.2.1 q2.2.2.2.2.1 q2.2.2.2.2.2.1 q2.2.2.2.2.2.2.1 q2.2.2.2.2.2.2.2.1 q2.2.2.2.2.2.2.2.2.1 q2.2.2.2.2.2.2.2.2.2.1 q2.2.2.2.2.2.2.2.2.2.2.1 q2.2.2.2.2.2.2.2.2.2.2.2.1 q2.2.2.2.2.2.2.2.2.2.2.2.2.1 q2.2.2.2.2.2.2.2.2.2.2.2.2.2 ++ [w_Script Z.2.1 As S]).flatten H := zfr hP
      have hD : va_D A (l_Pages Z.2.1 Ag q2.1 q2.2.1 q2.2.2.1 q2.2.2.2.1 q2.2.2.2.2.1 q2.2.2.2.2.2.1 q2.2.2.2.2.2.2.1 q2.2.2.2.2.2.2.2.1 q2.2.2.2.2.2.2.2.2.1 q2.2.2.2.2.2.2.2.2.2.1 q2.2.2.2.2.2.2.2.2.2.2.1 q2.2.2.2.2.2.2.2.2.2.2.2.1 q2.2.2.2.2.2.2.2.2.2.2.2.2.1 q2.2.2.2.2.2.2.2.2.2.2.2.2.2 ++ [w_Script Z.2.1 As S]).flatten := zfrD hD
      refine W.eq (g2 := F0 m 53 ls []) rfl ?_
      exact J53 q2 x2 hF _ _ ls hP hD hS (lv_sub hl [0, 1, 2] rfl)
    refine lv_iload_n hx hb (z_d hX1_arrange_0 15 rfl) rfl (lv_at hl 2 rfl) ?_
    refine lv_aload_n hx hb (z_d hX1_arrange_0 16 rfl) rfl (lv_at hl 1 rfl) ?_
    refine va_getN (D := Z.1) (ci := 5) (v := .int S.1) (C := RX5) (T := TX5) (N := 10) hx hb hts zinX5 hown hK.1 (zP_reg (L := l_Script Z.2.1 As S.1 S.2.1 S.2.2.1 S.2.2.2.1 S.2.2.2.2.1 S.2.2.2.2.2.1 S.2.2.2.2.2.2.1 S.2.2.2.2.2.2.2.1 S.2.2.2.2.2.2.2.2.1 S.2.2.2.2.2.2.2.2.2) (zP_reg hP 10 rfl) 0 rfl) 0 rfl rfl 0 (by decide) (kn_X1_69 hK.2) (fun _ h9 => h9) rfl (z_d hX1_arrange_0 17 rfl) ?_
    refine lv_icmp_ge (tgt := 65) hx hb (z_d hX1_arrange_0 18 rfl) (by decide) (fun hc30 => ?_) (fun hc30 => ?_)
    · have hF := z_pos hc30 hF
      obtain rfl := Option.some.inj hF
      exact K1 _ _ ls hP hD hS (lv_sub hl [0, 1] rfl)
    · have hF := z_neg hc30 hF
      refine lv_aload_n hx hb (z_d hX1_arrange_0 19 rfl) rfl (lv_at hl 0 rfl) ?_
      refine va_get (D := Z.1) (ci := 1) (v := .int v.1.1) (C := RX1) (T := TX1) (N := 14) hx hb hts zinX1 hown hK.1 (zP_reg hP 0 rfl) 0 rfl rfl 0 (by decide) (hts _ k_f_X1_9) (fun _ h9 => h9) rfl (z_d hX1_arrange_0 20 rfl) ?_
      refine lv_if_eq (tgt := 49) hx hb (z_d hX1_arrange_0 21 rfl) (by decide) (fun hc37 => ?_) (fun hc37 => ?_)
      · have hF := z_pos hc37 hF
        exact J49 v.1 v.2 hF _ _ ls hP hD hS (lv_sub hl [0, 1, 2] rfl)
      · have hF := z_neg hc37 hF
        refine lv_aload_n hx hb (z_d hX1_arrange_0 22 rfl) rfl (lv_at hl 0 rfl) ?_
        refine lv_aload_n hx hb (z_d hX1_arrange_0 23 rfl) rfl (lv_at hl 1 rfl) ?_
        refine lv_iload_n hx hb (z_d hX1_arrange_0 24 rfl) rfl (lv_at hl 2 rfl) ?_
        refine z_let hF (fun q5 hq5 hF => ?_)
        refine z_ro_i (z_rV (As := [.ref (As 0), .int v.2]) (rest := []) hx hb hml hown hts vt_X1_mustTurn (c_X1_mustTurn l Z Ag As v.1 S v.2 _ hq5) rfl rfl ⟨Nat.le_of_ble_eq_true rfl, Nat.le_of_ble_eq_true rfl⟩ k_m_X1_72 zPro_blind (z_recv (q := (RX1, TX1, 14)) (ci := 1) (q0 := 0) hK (zP_reg hP 0 rfl) rfl rfl) (z_prec hK (zfl hP)) rfl hl.1 (Nat.le_of_ble_eq_true rfl) (z_d hX1_arrange_0 25 rfl) ⟨Nat.zero_le _, Nat.zero_le _⟩) hS hP (fun H locs hP hS => ?_)
        refine lv_if_eq (tgt := 53) hx hb (z_d hX1_arrange_0 26 rfl) (by decide) (fun hc46 => ?_) (fun hc46 => ?_)
        · have hF := z_pos hc46 hF
          exact J53 v.1 v.2 hF _ _ ls hP hD hS (lv_sub hl [0, 1, 2] rfl)
        · have hF := z_neg hc46 hF
          exact J49 v.1 v.2 hF _ _ ls hP hD hS (lv_sub hl [0, 1, 2] rfl)
  refine lv_aload_n hx hb (z_d hX1_arrange_0 0 rfl) rfl (lv_at hl 0 rfl) ?_
  refine lv_iconst (v := 0) hx hb (z_d hX1_arrange_0 1 rfl) (by decide) ?_
  refine z_put (Z := Z) (ci := 1) (v := .int 0) (ty := .int) (L := l_Pages Z.2.1 Ag G.1 G.2.1 G.2.2.1 G.2.2.2.1 G.2.2.2.2.1 G.2.2.2.2.2.1 G.2.2.2.2.2.2.1 G.2.2.2.2.2.2.2.1 G.2.2.2.2.2.2.2.2.1 G.2.2.2.2.2.2.2.2.2.1 G.2.2.2.2.2.2.2.2.2.2.1 G.2.2.2.2.2.2.2.2.2.2.2.1 G.2.2.2.2.2.2.2.2.2.2.2.2.1 G.2.2.2.2.2.2.2.2.2.2.2.2.2 ++ [w_Script Z.2.1 As S]) (L' := l_Pages Z.2.1 Ag 0 G.2.1 G.2.2.1 G.2.2.2.1 G.2.2.2.2.1 G.2.2.2.2.2.1 G.2.2.2.2.2.2.1 G.2.2.2.2.2.2.2.1 G.2.2.2.2.2.2.2.2.1 G.2.2.2.2.2.2.2.2.2.1 G.2.2.2.2.2.2.2.2.2.2.1 G.2.2.2.2.2.2.2.2.2.2.2.1 G.2.2.2.2.2.2.2.2.2.2.2.2.1 G.2.2.2.2.2.2.2.2.2.2.2.2.2 ++ [w_Script Z.2.1 As S]) (C := RX1) (T := TX1) (N := 14) hx hb hts zinX1 tyX1 tyX1_ok nmX1 hown hK hP hD hS 0 rfl rfl 0 (by decide) (hts _ k_f_X1_9) (fun _ h9 => h9) rfl (tyX1_ok 0 (by decide)) rfl rfl (Nat.le_of_ble_eq_true rfl) rfl (z_d hX1_arrange_0 2 rfl) (fun H locs hP hD hS => ?_)
  refine lv_aload_n hx hb (z_d hX1_arrange_0 3 rfl) rfl (lv_at hl 0 rfl) ?_
  refine lv_iconst (v := 0) hx hb (z_d hX1_arrange_0 4 rfl) (by decide) ?_
  refine z_put (Z := Z) (ci := 1) (v := .int 0) (ty := .int) (L := l_Pages Z.2.1 Ag 0 G.2.1 G.2.2.1 G.2.2.2.1 G.2.2.2.2.1 G.2.2.2.2.2.1 G.2.2.2.2.2.2.1 G.2.2.2.2.2.2.2.1 G.2.2.2.2.2.2.2.2.1 G.2.2.2.2.2.2.2.2.2.1 G.2.2.2.2.2.2.2.2.2.2.1 G.2.2.2.2.2.2.2.2.2.2.2.1 G.2.2.2.2.2.2.2.2.2.2.2.2.1 G.2.2.2.2.2.2.2.2.2.2.2.2.2 ++ [w_Script Z.2.1 As S]) (L' := l_Pages Z.2.1 Ag 0 G.2.1 0 G.2.2.2.1 G.2.2.2.2.1 G.2.2.2.2.2.1 G.2.2.2.2.2.2.1 G.2.2.2.2.2.2.2.1 G.2.2.2.2.2.2.2.2.1 G.2.2.2.2.2.2.2.2.2.1 G.2.2.2.2.2.2.2.2.2.2.1 G.2.2.2.2.2.2.2.2.2.2.2.1 G.2.2.2.2.2.2.2.2.2.2.2.2.1 G.2.2.2.2.2.2.2.2.2.2.2.2.2 ++ [w_Script Z.2.1 As S]) (C := RX1) (T := TX1) (N := 14) hx hb hts zinX1 tyX1 tyX1_ok nmX1 hown hK hP hD hS 0 rfl rfl 2 (by decide) (hts _ k_f_X1_18) (fun _ h9 => h9) rfl (tyX1_ok 2 (by decide)) rfl rfl (Nat.le_of_ble_eq_true rfl) rfl (z_d hX1_arrange_0 5 rfl) (fun H locs hP hD hS => ?_)
  refine lv_aload_n hx hb (z_d hX1_arrange_0 6 rfl) rfl (lv_at hl 0 rfl) ?_
  refine lv_aload_n hx hb (z_d hX1_arrange_0 7 rfl) rfl (lv_at hl 1 rfl) ?_
  refine va_getN (D := Z.1) (ci := 5) (v := .int S.2.1) (C := RX5) (T := TX5) (N := 10) hx hb hts zinX5 hown hK.1 (zP_reg (L := l_Script Z.2.1 As S.1 S.2.1 S.2.2.1 S.2.2.2.1 S.2.2.2.2.1 S.2.2.2.2.2.1 S.2.2.2.2.2.2.1 S.2.2.2.2.2.2.2.1 S.2.2.2.2.2.2.2.2.1 S.2.2.2.2.2.2.2.2.2) (zP_reg hP 10 rfl) 0 rfl) 0 rfl rfl 1 (by decide) (kn_X1_60 hK.2) (fun _ h9 => h9) rfl (z_d hX1_arrange_0 8 rfl) ?_
  refine z_put (Z := Z) (ci := 1) (v := .int S.2.1) (ty := .int) (L := l_Pages Z.2.1 Ag 0 G.2.1 0 G.2.2.2.1 G.2.2.2.2.1 G.2.2.2.2.2.1 G.2.2.2.2.2.2.1 G.2.2.2.2.2.2.2.1 G.2.2.2.2.2.2.2.2.1 G.2.2.2.2.2.2.2.2.2.1 G.2.2.2.2.2.2.2.2.2.2.1 G.2.2.2.2.2.2.2.2.2.2.2.1 G.2.2.2.2.2.2.2.2.2.2.2.2.1 G.2.2.2.2.2.2.2.2.2.2.2.2.2 ++ [w_Script Z.2.1 As S]) (L' := l_Pages Z.2.1 Ag 0 G.2.1 0 S.2.1 G.2.2.2.2.1 G.2.2.2.2.2.1 G.2.2.2.2.2.2.1 G.2.2.2.2.2.2.2.1 G.2.2.2.2.2.2.2.2.1 G.2.2.2.2.2.2.2.2.2.1 G.2.2.2.2.2.2.2.2.2.2.1 G.2.2.2.2.2.2.2.2.2.2.2.1 G.2.2.2.2.2.2.2.2.2.2.2.2.1 G.2.2.2.2.2.2.2.2.2.2.2.2.2 ++ [w_Script Z.2.1 As S]) (C := RX1) (T := TX1) (N := 14) hx hb hts zinX1 tyX1 tyX1_ok nmX1 hown hK hP hD hS 0 rfl rfl 3 (by decide) (hts _ k_f_X1_21) (fun _ h9 => h9) rfl (tyX1_ok 3 (by decide)) rfl rfl (Nat.le_of_ble_eq_true rfl) rfl (z_d hX1_arrange_0 9 rfl) (fun H locs hP hD hS => ?_)
  refine lv_aload_n hx hb (z_d hX1_arrange_0 10 rfl) rfl (lv_at hl 0 rfl) ?_
  refine lv_aload_n hx hb (z_d hX1_arrange_0 11 rfl) rfl (lv_at hl 1 rfl) ?_
  refine z_bnd hF (fun q1 hq1 hF => ?_)
  refine z_mu0 (z_rV (As := [.ref (As 0)]) (rest := []) hx hb hml hown hts vt_X1_findNeeds (c_X1_findNeeds l Z Ag As (0, G.2.1, 0, S.2.1, G.2.2.2.2.1, G.2.2.2.2.2.1, G.2.2.2.2.2.2.1, G.2.2.2.2.2.2.2.1, G.2.2.2.2.2.2.2.2.1, G.2.2.2.2.2.2.2.2.2.1, G.2.2.2.2.2.2.2.2.2.2.1, G.2.2.2.2.2.2.2.2.2.2.2.1, G.2.2.2.2.2.2.2.2.2.2.2.2.1, G.2.2.2.2.2.2.2.2.2.2.2.2.2) S _ hq1) rfl rfl ⟨Nat.le_of_ble_eq_true rfl, Nat.le_of_ble_eq_true rfl⟩ k_m_X1_65 zPmu_blind (z_recv (q := (RX1, TX1, 14)) (ci := 1) (q0 := 0) hK (zP_reg hP 0 rfl) rfl rfl) (z_prem hK (zfl hP) (zflD hD)) rfl hl.1 (Nat.le_of_ble_eq_true rfl) (z_d hX1_arrange_0 12 rfl) ⟨Nat.zero_le _, Nat.zero_le _⟩) hS (zflD hD) (zadr2 (adr_Pages _ _ _ _) (adr_Script _ _ _ _)) (fun H locs hP hD hS => ?_)
  have hP : va_P Z.1 vwCl (l_Pages Z.2.1 Ag q1.1 q1.2.1 q1.2.2.1 q1.2.2.2.1 q1.2.2.2.2.1 q1.2.2.2.2.2.1 q1.2.2.2.2.2.2.1 q1.2.2.2.2.2.2.2.1 q1.2.2.2.2.2.2.2.2.1 q1.2.2.2.2.2.2.2.2.2.1 q1.2.2.2.2.2.2.2.2.2.2.1 q1.2.2.2.2.2.2.2.2.2.2.2.1 q1.2.2.2.2.2.2.2.2.2.2.2.2.1 q1.2.2.2.2.2.2.2.2.2.2.2.2.2 ++ [w_Script Z.2.1 As S]).flatten H := zfr hP
  have hD : va_D A (l_Pages Z.2.1 Ag q1.1 q1.2.1 q1.2.2.1 q1.2.2.2.1 q1.2.2.2.2.1 q1.2.2.2.2.2.1 q1.2.2.2.2.2.2.1 q1.2.2.2.2.2.2.2.1 q1.2.2.2.2.2.2.2.2.1 q1.2.2.2.2.2.2.2.2.2.1 q1.2.2.2.2.2.2.2.2.2.2.1 q1.2.2.2.2.2.2.2.2.2.2.2.1 q1.2.2.2.2.2.2.2.2.2.2.2.2.1 q1.2.2.2.2.2.2.2.2.2.2.2.2.2 ++ [w_Script Z.2.1 As S]).flatten := zfrD hD
  refine W.eq (g2 := F0 m 23 ls []) rfl ?_
  refine lv_iconst (v := 0) hx hb (z_d hX1_arrange_0 13 rfl) (by decide) ?_
  refine lv_istore_n (lv' := [(2, .int 0), (0, .ref (Ag 0)), (1, .ref (As 0))]) hx hb (z_d hX1_arrange_0 14 rfl) rfl hl (by decide) rfl (fun ls hl => ?_)
  refine z_bnd hF (fun q6 hq6 hF => ?_)
  refine L25  _ _ _ hq6 _ _ ls hP hD hS (lv_sub hl [1, 2, 0] rfl) (fun H locs ls hP hD hS hl => ?_)
  refine lv_aload_n hx hb (z_d hX1_arrange_0 35 rfl) rfl (lv_at hl 0 rfl) ?_
  refine lv_aload_n hx hb (z_d hX1_arrange_0 36 rfl) rfl (lv_at hl 1 rfl) ?_
  refine z_bnd hF (fun q7 hq7 hF => ?_)
  refine z_mu0 (z_rV (As := [.ref (As 0)]) (rest := []) hx hb hml hown hts vt_X1_countMarks (c_X1_countMarks l Z Ag As q6 S _ hq7) rfl rfl ⟨Nat.le_of_ble_eq_true rfl, Nat.le_of_ble_eq_true rfl⟩ k_m_X1_83 zPmu_blind (z_recv (q := (RX1, TX1, 14)) (ci := 1) (q0 := 0) hK (zP_reg hP 0 rfl) rfl rfl) (z_prem hK (zfl hP) (zflD hD)) rfl hl.1 (Nat.le_of_ble_eq_true rfl) (z_d hX1_arrange_0 37 rfl) ⟨Nat.zero_le _, Nat.zero_le _⟩) hS (zflD hD) (zadr2 (adr_Pages _ _ _ _) (adr_Script _ _ _ _)) (fun H locs hP hD hS => ?_)
  have hP : va_P Z.1 vwCl (l_Pages Z.2.1 Ag q7.1 q7.2.1 q7.2.2.1 q7.2.2.2.1 q7.2.2.2.2.1 q7.2.2.2.2.2.1 q7.2.2.2.2.2.2.1 q7.2.2.2.2.2.2.2.1 q7.2.2.2.2.2.2.2.2.1 q7.2.2.2.2.2.2.2.2.2.1 q7.2.2.2.2.2.2.2.2.2.2.1 q7.2.2.2.2.2.2.2.2.2.2.2.1 q7.2.2.2.2.2.2.2.2.2.2.2.2.1 q7.2.2.2.2.2.2.2.2.2.2.2.2.2 ++ [w_Script Z.2.1 As S]).flatten H := zfr hP
  have hD : va_D A (l_Pages Z.2.1 Ag q7.1 q7.2.1 q7.2.2.1 q7.2.2.2.1 q7.2.2.2.2.1 q7.2.2.2.2.2.1 q7.2.2.2.2.2.2.1 q7.2.2.2.2.2.2.2.1 q7.2.2.2.2.2.2.2.2.1 q7.2.2.2.2.2.2.2.2.2.1 q7.2.2.2.2.2.2.2.2.2.2.1 q7.2.2.2.2.2.2.2.2.2.2.2.1 q7.2.2.2.2.2.2.2.2.2.2.2.2.1 q7.2.2.2.2.2.2.2.2.2.2.2.2.2 ++ [w_Script Z.2.1 As S]).flatten := zfrD hD
  refine W.eq (g2 := F0 m 70 ls []) rfl ?_
  refine lv_aload_n hx hb (z_d hX1_arrange_0 38 rfl) rfl (lv_at hl 0 rfl) ?_
  refine lv_aload_n hx hb (z_d hX1_arrange_0 39 rfl) rfl (lv_at hl 1 rfl) ?_
  refine z_bnd hF (fun q8 hq8 hF => ?_)
  refine z_mu0 (z_rV (As := [.ref (As 0)]) (rest := []) hx hb hml hown hts vt_X1_label (c_X1_label l Z Ag As q7 S _ hq8) rfl rfl ⟨Nat.le_of_ble_eq_true rfl, Nat.le_of_ble_eq_true rfl⟩ k_m_X1_86 zPmu_blind (z_recv (q := (RX1, TX1, 14)) (ci := 1) (q0 := 0) hK (zP_reg hP 0 rfl) rfl rfl) (z_prem hK (zfl hP) (zflD hD)) rfl hl.1 (Nat.le_of_ble_eq_true rfl) (z_d hX1_arrange_0 40 rfl) ⟨Nat.zero_le _, Nat.zero_le _⟩) hS (zflD hD) (zadr2 (adr_Pages _ _ _ _) (adr_Script _ _ _ _)) (fun H locs hP hD hS => ?_)
  have hP : va_P Z.1 vwCl (l_Pages Z.2.1 Ag q8.1 q8.2.1 q8.2.2.1 q8.2.2.2.1 q8.2.2.2.2.1 q8.2.2.2.2.2.1 q8.2.2.2.2.2.2.1 q8.2.2.2.2.2.2.2.1 q8.2.2.2.2.2.2.2.2.1 q8.2.2.2.2.2.2.2.2.2.1 q8.2.2.2.2.2.2.2.2.2.2.1 q8.2.2.2.2.2.2.2.2.2.2.2.1 q8.2.2.2.2.2.2.2.2.2.2.2.2.1 q8.2.2.2.2.2.2.2.2.2.2.2.2.2 ++ [w_Script Z.2.1 As S]).flatten H := zfr hP
  have hD : va_D A (l_Pages Z.2.1 Ag q8.1 q8.2.1 q8.2.2.1 q8.2.2.2.1 q8.2.2.2.2.1 q8.2.2.2.2.2.1 q8.2.2.2.2.2.2.1 q8.2.2.2.2.2.2.2.1 q8.2.2.2.2.2.2.2.2.1 q8.2.2.2.2.2.2.2.2.2.1 q8.2.2.2.2.2.2.2.2.2.2.1 q8.2.2.2.2.2.2.2.2.2.2.2.1 q8.2.2.2.2.2.2.2.2.2.2.2.2.1 q8.2.2.2.2.2.2.2.2.2.2.2.2.2 ++ [w_Script Z.2.1 As S]).flatten := zfrD hD
  refine W.eq (g2 := F0 m 75 ls []) rfl ?_
  refine lv_aload_n hx hb (z_d hX1_arrange_0 41 rfl) rfl (lv_at hl 0 rfl) ?_
  refine va_get (D := Z.1) (ci := 1) (v := .int q8.1) (C := RX1) (T := TX1) (N := 14) hx hb hts zinX1 hown hK.1 (zP_reg hP 0 rfl) 0 rfl rfl 0 (by decide) (hts _ k_f_X1_9) (fun _ h9 => h9) rfl (z_d hX1_arrange_0 42 rfl) ?_
  obtain rfl := Option.some.inj hF
  subst hQ
  subst hA
  exact W.iret hx hb hr (fun t ht hW => zq_mu (by rw [ht]; exact zfl hP) (hS.F ht)) hS.2.2 (z_d hX1_arrange_0 43 rfl)

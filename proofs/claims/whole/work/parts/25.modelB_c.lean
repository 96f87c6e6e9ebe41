theorem vs_X7_copies : zSt yX7_copies cX7_copies 3 none 2 := ⟨zG_at 975 (by decide +kernel) (by decide +kernel), zG_at 81 (by decide +kernel) (by decide +kernel), zG_at 976 (by decide +kernel) (by decide +kernel), by decide +kernel⟩
theorem vt_X7_tells : zVt yX7_tells cX7_tells 2 (some .int) 1 := ⟨zG_at 1015 (by decide +kernel) (by decide +kernel), zG_at 43 (by decide +kernel) (by decide +kernel), zG_at 81 (by decide +kernel) (by decide +kernel), zG_at 1016 (by decide +kernel) (by decide +kernel), by decide +kernel⟩
theorem vt_X7_newPage : zVt yX7_newPage cX7_newPage 1 none 0 := ⟨zG_at 1073 (by decide +kernel) (by decide +kernel), zG_at 50 (by decide +kernel) (by decide +kernel), zG_at 81 (by decide +kernel) (by decide +kernel), zG_at 1074 (by decide +kernel) (by decide +kernel), by decide +kernel⟩
theorem vt_X7_need : zVt yX7_need cX7_need 4 (some .int) 1 := ⟨zG_at 1085 (by decide +kernel) (by decide +kernel), zG_at 53 (by decide +kernel) (by decide +kernel), zG_at 81 (by decide +kernel) (by decide +kernel), zG_at 1086 (by decide +kernel) (by decide +kernel), by decide +kernel⟩
theorem vt_X7_sets : zVt yX7_sets cX7_sets 11 none 2 := ⟨zG_at 1077 (by decide +kernel) (by decide +kernel), zG_at 51 (by decide +kernel) (by decide +kernel), zG_at 81 (by decide +kernel) (by decide +kernel), zG_at 1078 (by decide +kernel) (by decide +kernel), by decide +kernel⟩
theorem vt_X7_setsAll : zVt yX7_setsAll cX7_setsAll 3 none 1 := ⟨zG_at 1069 (by decide +kernel) (by decide +kernel), zG_at 49 (by decide +kernel) (by decide +kernel), zG_at 81 (by decide +kernel) (by decide +kernel), zG_at 1070 (by decide +kernel) (by decide +kernel), by decide +kernel⟩
theorem vt_X7_marks : zVt yX7_marks cX7_marks 3 (some .int) 0 := ⟨zG_at 1113 (by decide +kernel) (by decide +kernel), zG_at 59 (by decide +kernel) (by decide +kernel), zG_at 81 (by decide +kernel) (by decide +kernel), zG_at 1114 (by decide +kernel) (by decide +kernel), by decide +kernel⟩
theorem vt_X7_puts : zVt yX7_puts cX7_puts 4 none 3 := ⟨zG_at 983 (by decide +kernel) (by decide +kernel), zG_at 35 (by decide +kernel) (by decide +kernel), zG_at 81 (by decide +kernel) (by decide +kernel), zG_at 984 (by decide +kernel) (by decide +kernel), by decide +kernel⟩
theorem k_f_X7_16 : Cond.fieldLink RX7 16 "ScriptPagesModel" "aside" "[I" ∈ zG := zG_at 896 (by decide +kernel) (by decide +kernel)
theorem k_m_X7_47 : Cond.methodLink RX7 47 yX7_copies ∈ zG := zG_at 974 (by decide +kernel) (by decide +kernel)
theorem k_f_X7_51 : Cond.fieldLink RX7 51 "ScriptPagesModel" "pasts" "I" ∈ zG := zG_at 897 (by decide +kernel) (by decide +kernel)
theorem k_f_X7_13 : Cond.fieldLink RX7 13 "ScriptPagesModel" "past" "[I" ∈ zG := zG_at 895 (by decide +kernel) (by decide +kernel)
theorem k_m_X7_54 : Cond.methodLink RX7 54 yX7_tells ∈ zG := zG_at 1013 (by decide +kernel) (by decide +kernel)
theorem k_f_X7_31 : Cond.fieldLink RX7 31 "ScriptPagesModel" "filled" "[I" ∈ zG := zG_at 906 (by decide +kernel) (by decide +kernel)
theorem k_f_X7_101 : Cond.fieldLink RX7 101 "ScriptPagesModel" "pageMany" "I" ∈ zG := zG_at 901 (by decide +kernel) (by decide +kernel)
theorem k_f_X7_34 : Cond.fieldLink RX7 34 "ScriptPagesModel" "firstOn" "[I" ∈ zG := zG_at 907 (by decide +kernel) (by decide +kernel)
theorem k_f_X7_37 : Cond.fieldLink RX7 37 "ScriptPagesModel" "begun" "[I" ∈ zG := zG_at 908 (by decide +kernel) (by decide +kernel)
theorem k_m_X7_107 : Cond.methodLink RX7 107 yX7_newPage ∈ zG := zG_at 1071 (by decide +kernel) (by decide +kernel)
theorem k_f_X7_22 : Cond.fieldLink RX7 22 "ScriptPagesModel" "onPage" "[I" ∈ zG := zG_at 903 (by decide +kernel) (by decide +kernel)
theorem k_f_X7_25 : Cond.fieldLink RX7 25 "ScriptPagesModel" "onLine" "[I" ∈ zG := zG_at 904 (by decide +kernel) (by decide +kernel)
theorem k_f_X7_28 : Cond.fieldLink RX7 28 "ScriptPagesModel" "setHere" "[I" ∈ zG := zG_at 905 (by decide +kernel) (by decide +kernel)
theorem k_f_X7_110 : Cond.fieldLink RX7 110 "ScriptPagesModel" "splits" "I" ∈ zG := zG_at 902 (by decide +kernel) (by decide +kernel)
theorem k_m_X7_104 : Cond.methodLink RX7 104 yX7_need ∈ zG := zG_at 1083 (by decide +kernel) (by decide +kernel)
theorem k_m_X7_113 : Cond.methodLink RX7 113 yX7_sets ∈ zG := zG_at 1075 (by decide +kernel) (by decide +kernel)
theorem k_m_X7_117 : Cond.methodLink RX7 117 yX7_setsAll ∈ zG := zG_at 1067 (by decide +kernel) (by decide +kernel)
theorem k_m_X7_121 : Cond.methodLink RX7 121 yX7_marks ∈ zG := zG_at 1111 (by decide +kernel) (by decide +kernel)
theorem k_m_X7_125 : Cond.methodLink RX7 125 yX7_puts ∈ zG := zG_at 981 (by decide +kernel) (by decide +kernel)
def rm_X7_fails : Room := { frames := 0, cells := 0, slots := 0, locals := 0 }
set_option maxRecDepth 100000 in
set_option maxHeartbeats 4000000 in
theorem c_X7_fails (l : Launch) (Z : zZ) (Am : Nat → Nat) (M : t_Model) (p1 : Int32) (R : Int32 × t_Model) (hF : X7_fails M p1 = R) : zMU l yX7_fails (zw yX7_fails cX7_fails 2 (some .int)) rm_X7_fails Z [.ref (Am 0), .int p1] (w_Model Z.2.1 Am M) (w_Model Z.2.1 Am R.2) (some (.int R.1)) := by
  refine zMU_of (by decide) (Nat.le_of_ble_eq_true rfl) (fun p e s m below meth c hx hb hr hml hown hts hlocks hK A hA Q hQ ls hl hP hD hS => ?_)
  unfold X7_fails at hF
  have hl : lv_has ls 2 [(0, .ref (Am 0)), (1, .int p1)] := hl
  have hown : s.vm.findClass RX7 = some m.cls := hown
  have hP : va_P Z.1 vwCl (l_Model Z.2.1 Am M.1 M.2.1 M.2.2.1 M.2.2.2.1 M.2.2.2.2.1 M.2.2.2.2.2.1 M.2.2.2.2.2.2.1 M.2.2.2.2.2.2.2.1 M.2.2.2.2.2.2.2.2.1 M.2.2.2.2.2.2.2.2.2.1 M.2.2.2.2.2.2.2.2.2.2.1 M.2.2.2.2.2.2.2.2.2.2.2.1 M.2.2.2.2.2.2.2.2.2.2.2.2.1 M.2.2.2.2.2.2.2.2.2.2.2.2.2.1 M.2.2.2.2.2.2.2.2.2.2.2.2.2.2.1 M.2.2.2.2.2.2.2.2.2.2.2.2.2.2.2.1 M.2.2.2.2.2.2.2.2.2.2.2.2.2.2.2.2.1 M.2.2.2.2.2.2.2.2.2.2.2.2.2.2.2.2.2.1 M.2.2.2.2.2.2.2.2.2.2.2.2.2.2.2.2.2.2).flatten s.heap := hP
  have hD : va_D A (l_Model Z.2.1 Am M.1 M.2.1 M.2.2.1 M.2.2.2.1 M.2.2.2.2.1 M.2.2.2.2.2.1 M.2.2.2.2.2.2.1 M.2.2.2.2.2.2.2.1 M.2.2.2.2.2.2.2.2.1 M.2.2.2.2.2.2.2.2.2.1 M.2.2.2.2.2.2.2.2.2.2.1 M.2.2.2.2.2.2.2.2.2.2.2.1 M.2.2.2.2.2.2.2.2.2.2.2.2.1 M.2.2.2.2.2.2.2.2.2.2.2.2.2.1 M.2.2.2.2.2.2.2.2.2.2.2.2.2.2.1 M.2.2.2.2.2.2.2.2.2.2.2.2.2.2.2.1 M.2.2.2.2.2.2.2.2.2.2.2.2.2.2.2.2.1 M.2.2.2.2.2.2.2.2.2.2.2.2.2.2.2.2.2.1 M.2.2.2.2.2.2.2.2.2.2.2.2.2.2.2.2.2.2).flatten := hD
  refine lv_aload_n hx hb (z_d hX7_fails_0 0 rfl) rfl (lv_at hl 0 rfl) ?_
  refine lv_iload_n hx hb (z_d hX7_fails_0 1 rfl) rfl (lv_at hl 1 rfl) ?_
  refine z_put (Z := Z) (ci := 7) (v := .int p1) (ty := .int) (L := l_Model Z.2.1 Am M.1 M.2.1 M.2.2.1 M.2.2.2.1 M.2.2.2.2.1 M.2.2.2.2.2.1 M.2.2.2.2.2.2.1 M.2.2.2.2.2.2.2.1 M.2.2.2.2.2.2.2.2.1 M.2.2.2.2.2.2.2.2.2.1 M.2.2.2.2.2.2.2.2.2.2.1 M.2.2.2.2.2.2.2.2.2.2.2.1 M.2.2.2.2.2.2.2.2.2.2.2.2.1 M.2.2.2.2.2.2.2.2.2.2.2.2.2.1 M.2.2.2.2.2.2.2.2.2.2.2.2.2.2.1 M.2.2.2.2.2.2.2.2.2.2.2.2.2.2.2.1 M.2.2.2.2.2.2.2.2.2.2.2.2.2.2.2.2.1 M.2.2.2.2.2.2.2.2.2.2.2.2.2.2.2.2.2.1 M.2.2.2.2.2.2.2.2.2.2.2.2.2.2.2.2.2.2) (L' := l_Model Z.2.1 Am M.1 M.2.1 M.2.2.1 M.2.2.2.1 M.2.2.2.2.1 M.2.2.2.2.2.1 p1 M.2.2.2.2.2.2.2.1 M.2.2.2.2.2.2.2.2.1 M.2.2.2.2.2.2.2.2.2.1 M.2.2.2.2.2.2.2.2.2.2.1 M.2.2.2.2.2.2.2.2.2.2.2.1 M.2.2.2.2.2.2.2.2.2.2.2.2.1 M.2.2.2.2.2.2.2.2.2.2.2.2.2.1 M.2.2.2.2.2.2.2.2.2.2.2.2.2.2.1 M.2.2.2.2.2.2.2.2.2.2.2.2.2.2.2.1 M.2.2.2.2.2.2.2.2.2.2.2.2.2.2.2.2.1 M.2.2.2.2.2.2.2.2.2.2.2.2.2.2.2.2.2.1 M.2.2.2.2.2.2.2.2.2.2.2.2.2.2.2.2.2.2) (C := RX7) (T := TX7) (N := 19) hx hb hts zinX7 tyX7 tyX7_ok nmX7 hown hK hP hD hS 0 rfl rfl 6 (by decide) (hts _ k_f_X7_43) (fun _ h9 => h9) rfl (tyX7_ok 6 (by decide)) rfl rfl (Nat.le_of_ble_eq_true rfl) rfl (z_d hX7_fails_0 2 rfl) (fun H locs hP hD hS => ?_)
  refine lv_iconst (v := 0) hx hb (z_d hX7_fails_0 3 rfl) (by decide) ?_
  obtain rfl := hF
  subst hQ
  subst hA
  exact W.iret hx hb hr (fun t ht hW => zq_mu (by rw [ht]; exact hP) (hS.F ht)) hS.2.2 (z_d hX7_fails_0 4 rfl)
def rm_X7_tells : Room := { frames := 0, cells := 0, slots := 0, locals := 0 }
set_option maxRecDepth 100000 in
set_option maxHeartbeats 4000000 in
theorem c_X7_tells (l : Launch) (Z : zZ) (Am : Nat → Nat) (M : t_Model) (p1 : Int32) (R : Int32 × t_Model) (hF : X7_tells M p1 = R) : zMU l yX7_tells (zw yX7_tells cX7_tells 2 (some .int)) rm_X7_tells Z [.ref (Am 0), .int p1] (w_Model Z.2.1 Am M) (w_Model Z.2.1 Am R.2) (some (.int R.1)) := by
  refine zMU_of (by decide) (Nat.le_of_ble_eq_true rfl) (fun p e s m below meth c hx hb hr hml hown hts hlocks hK A hA Q hQ ls hl hP hD hS => ?_)
  unfold X7_tells at hF
  have hl : lv_has ls 2 [(0, .ref (Am 0)), (1, .int p1)] := hl
  have hown : s.vm.findClass RX7 = some m.cls := hown
  have hP : va_P Z.1 vwCl (l_Model Z.2.1 Am M.1 M.2.1 M.2.2.1 M.2.2.2.1 M.2.2.2.2.1 M.2.2.2.2.2.1 M.2.2.2.2.2.2.1 M.2.2.2.2.2.2.2.1 M.2.2.2.2.2.2.2.2.1 M.2.2.2.2.2.2.2.2.2.1 M.2.2.2.2.2.2.2.2.2.2.1 M.2.2.2.2.2.2.2.2.2.2.2.1 M.2.2.2.2.2.2.2.2.2.2.2.2.1 M.2.2.2.2.2.2.2.2.2.2.2.2.2.1 M.2.2.2.2.2.2.2.2.2.2.2.2.2.2.1 M.2.2.2.2.2.2.2.2.2.2.2.2.2.2.2.1 M.2.2.2.2.2.2.2.2.2.2.2.2.2.2.2.2.1 M.2.2.2.2.2.2.2.2.2.2.2.2.2.2.2.2.2.1 M.2.2.2.2.2.2.2.2.2.2.2.2.2.2.2.2.2.2).flatten s.heap := hP
  have hD : va_D A (l_Model Z.2.1 Am M.1 M.2.1 M.2.2.1 M.2.2.2.1 M.2.2.2.2.1 M.2.2.2.2.2.1 M.2.2.2.2.2.2.1 M.2.2.2.2.2.2.2.1 M.2.2.2.2.2.2.2.2.1 M.2.2.2.2.2.2.2.2.2.1 M.2.2.2.2.2.2.2.2.2.2.1 M.2.2.2.2.2.2.2.2.2.2.2.1 M.2.2.2.2.2.2.2.2.2.2.2.2.1 M.2.2.2.2.2.2.2.2.2.2.2.2.2.1 M.2.2.2.2.2.2.2.2.2.2.2.2.2.2.1 M.2.2.2.2.2.2.2.2.2.2.2.2.2.2.2.1 M.2.2.2.2.2.2.2.2.2.2.2.2.2.2.2.2.1 M.2.2.2.2.2.2.2.2.2.2.2.2.2.2.2.2.2.1 M.2.2.2.2.2.2.2.2.2.2.2.2.2.2.2.2.2.2).flatten := hD
  refine lv_aload_n hx hb (z_d hX7_tells_0 0 rfl) rfl (lv_at hl 0 rfl) ?_
  refine lv_iconst (v := 0) hx hb (z_d hX7_tells_0 1 rfl) (by decide) ?_
  refine z_put (Z := Z) (ci := 7) (v := .int 0) (ty := .int) (L := l_Model Z.2.1 Am M.1 M.2.1 M.2.2.1 M.2.2.2.1 M.2.2.2.2.1 M.2.2.2.2.2.1 M.2.2.2.2.2.2.1 M.2.2.2.2.2.2.2.1 M.2.2.2.2.2.2.2.2.1 M.2.2.2.2.2.2.2.2.2.1 M.2.2.2.2.2.2.2.2.2.2.1 M.2.2.2.2.2.2.2.2.2.2.2.1 M.2.2.2.2.2.2.2.2.2.2.2.2.1 M.2.2.2.2.2.2.2.2.2.2.2.2.2.1 M.2.2.2.2.2.2.2.2.2.2.2.2.2.2.1 M.2.2.2.2.2.2.2.2.2.2.2.2.2.2.2.1 M.2.2.2.2.2.2.2.2.2.2.2.2.2.2.2.2.1 M.2.2.2.2.2.2.2.2.2.2.2.2.2.2.2.2.2.1 M.2.2.2.2.2.2.2.2.2.2.2.2.2.2.2.2.2.2) (L' := l_Model Z.2.1 Am M.1 M.2.1 M.2.2.1 M.2.2.2.1 M.2.2.2.2.1 M.2.2.2.2.2.1 0 M.2.2.2.2.2.2.2.1 M.2.2.2.2.2.2.2.2.1 M.2.2.2.2.2.2.2.2.2.1 M.2.2.2.2.2.2.2.2.2.2.1 M.2.2.2.2.2.2.2.2.2.2.2.1 M.2.2.2.2.2.2.2.2.2.2.2.2.1 M.2.2.2.2.2.2.2.2.2.2.2.2.2.1 M.2.2.2.2.2.2.2.2.2.2.2.2.2.2.1 M.2.2.2.2.2.2.2.2.2.2.2.2.2.2.2.1 M.2.2.2.2.2.2.2.2.2.2.2.2.2.2.2.2.1 M.2.2.2.2.2.2.2.2.2.2.2.2.2.2.2.2.2.1 M.2.2.2.2.2.2.2.2.2.2.2.2.2.2.2.2.2.2) (C := RX7) (T := TX7) (N := 19) hx hb hts zinX7 tyX7 tyX7_ok nmX7 hown hK hP hD hS 0 rfl rfl 6 (by decide) (hts _ k_f_X7_43) (fun _ h9 => h9) rfl (tyX7_ok 6 (by decide)) rfl rfl (Nat.le_of_ble_eq_true rfl) rfl (z_d hX7_tells_0 2 rfl) (fun H locs hP hD hS => ?_)
  refine lv_iload_n hx hb (z_d hX7_tells_0 3 rfl) rfl (lv_at hl 1 rfl) ?_
  obtain rfl := hF
  subst hQ
  subst hA
  exact W.iret hx hb hr (fun t ht hW => zq_mu (by rw [ht]; exact hP) (hS.F ht)) hS.2.2 (z_d hX7_tells_0 4 rfl)
def rm_X7_copies : Room := { frames := 0, cells := 0, slots := 0, locals := 0 }
set_option maxRecDepth 100000 in
set_option maxHeartbeats 4000000 in
theorem c_X7_copies (l : Launch) (Z : zZ) (a1 : Nat) (a2 : Nat) (f1 : Rw) (f2 : Rw) (R : Rw) (hF : X7_copies f1 f2 = some R) : zMU l yX7_copies (zw yX7_copies cX7_copies 3 none) rm_X7_copies Z [.ref a1, .ref a2] (List.flatten [w_Arr Z.2.1 542 a1 f1, w_Arr Z.2.1 542 a2 f2]) (List.flatten [w_Arr Z.2.1 542 a1 R, w_Arr Z.2.1 542 a2 f2]) none := by
  refine zMU_of (by decide) (Nat.le_of_ble_eq_true rfl) (fun p e s m below meth c hx hb hr hml hown hts hlocks hK A hA Q hQ ls hl hP hD hS => ?_)
  unfold X7_copies at hF
  have hl : lv_has ls 3 [(0, .ref a1), (1, .ref a2)] := hl
  have hown : s.vm.findClass RX7 = some m.cls := hown
  have L2 : ∀  (n : Nat) (v : Rw × Int32) (X : Rw) (hF : zloop (b_X7_copies_2 f2 ) n v = some X) (H : Heap) (locs : List Loc) (ls : Array Slot) (hP : va_P Z.1 vwCl ([w_Arr Z.2.1 542 a1 v.1, w_Arr Z.2.1 542 a2 f2]).flatten H) (hD : va_D A ([w_Arr Z.2.1 542 a1 v.1, w_Arr Z.2.1 542 a2 f2]).flatten) (hS : va_S A s.heap H locs) (hl : lv_has ls 3 [(0, .ref a1), (1, .ref a2), (2, .int v.2)]) (K1 : ∀ (H : Heap) (locs : List Loc) (ls : Array Slot) (hP : va_P Z.1 vwCl ([w_Arr Z.2.1 542 a1 X, w_Arr Z.2.1 542 a2 f2]).flatten H) (hD : va_D A ([w_Arr Z.2.1 542 a1 X, w_Arr Z.2.1 542 a2 f2]).flatten) (hS : va_S A s.heap H locs) (hl : lv_has ls 3 [(0, .ref a1), (1, .ref a2)]), W p l e rm_X7_copies s m ([.ref a1, .ref a2] : List Value).toArray below meth c H locs 0 0 Q (F0 m 21 ls [])), W p l e rm_X7_copies s m ([.ref a1, .ref a2] : List Value).toArray below meth c H locs 0 0 Q (F0 m 2 ls []) := by
    skip
    refine z_loopE (fun rec ih v X hF H locs ls hP hD hS hl K1 => ?_)
    unfold b_X7_copies_2 at hF
    refine lv_iload_n hx hb (z_d hX7_copies_0 2 rfl) rfl (lv_at hl 2 rfl) ?_
    refine lv_sipush (v := 542) hx hb (z_d hX7_copies_0 3 rfl) (by decide) ?_
    refine lv_icmp_ge (tgt := 21) hx hb (z_d hX7_copies_0 4 rfl) (by decide) (fun hc6 => ?_) (fun hc6 => ?_)
    · have hF := z_pos hc6 hF
      obtain rfl := Option.some.inj hF
      exact K1 _ _ ls hP hD hS (lv_sub hl [0, 1] rfl)
    · have hF := z_neg hc6 hF
      refine lv_aload_n hx hb (z_d hX7_copies_0 5 rfl) rfl (lv_at hl 0 rfl) ?_
      refine lv_iload_n hx hb (z_d hX7_copies_0 6 rfl) rfl (lv_at hl 2 rfl) ?_
      refine lv_aload_n hx hb (z_d hX7_copies_0 7 rfl) rfl (lv_at hl 1 rfl) ?_
      refine lv_iload_n hx hb (z_d hX7_copies_0 8 rfl) rfl (lv_at hl 2 rfl) ?_
      refine z_ix hF (fun hin hF => ?_)
      refine va_iald (D := Z.1) (f := f2) hx hb hK.1 (zP_reg hP 1 rfl) 0 0 rfl rfl hin (z_d hX7_copies_0 9 rfl) ?_
      refine z_let hF (fun u1 hu1 hF => ?_)
      refine lv_topE hu1 ?_
      refine z_ix hF (fun hin hF => ?_)
      refine z_let hF (fun g2 hg2 hF => ?_)
      refine z_iast (Z := Z) (L := [w_Arr Z.2.1 542 a1 v.1, w_Arr Z.2.1 542 a2 f2]) (L' := [w_Arr Z.2.1 542 a1 g2, w_Arr Z.2.1 542 a2 f2]) (f := v.1) hx hb hK hP hD hS 0 rfl hin hg2 rfl (z_d hX7_copies_0 10 rfl) (fun H locs hP hD hS => ?_)
      refine z_let hF (fun u3 hu3 hF => ?_)
      refine lv_iinc (v := u3) (lv' := [(2, .int u3), (0, .ref a1), (1, .ref a2)]) hx hb (z_d hX7_copies_0 11 rfl) hl (k := 2) rfl (z_inc1 hu3) (by decide) rfl (fun ls hl => ?_)
      refine lv_goto (tgt := 2) hx hb (z_d hX7_copies_0 12 rfl) (by decide) ?_
      exact ih _ _ hF _ _ ls hP hD hS (lv_sub hl [1, 2, 0] rfl) K1
  refine lv_iconst (v := 0) hx hb (z_d hX7_copies_0 0 rfl) (by decide) ?_
  refine lv_istore_n (lv' := [(2, .int 0), (0, .ref a1), (1, .ref a2)]) hx hb (z_d hX7_copies_0 1 rfl) rfl hl (by decide) rfl (fun ls hl => ?_)
  refine z_bnd hF (fun q4 hq4 hF => ?_)
  refine L2  _ _ _ hq4 _ _ ls hP hD hS (lv_sub hl [1, 2, 0] rfl) (fun H locs ls hP hD hS hl => ?_)
  obtain rfl := Option.some.inj hF
  subst hQ
  subst hA
  exact W.vret hx hb hr (fun t ht hW => zq_mu (by rw [ht]; exact hP) (hS.F ht)) hS.2.2 (z_d hX7_copies_0 13 rfl)
def rm_X7_hold : Room := { frames := 1, cells := 0, slots := 0, locals := 22 }
set_option maxRecDepth 100000 in
set_option maxHeartbeats 4000000 in
theorem c_X7_hold (l : Launch) (Z : zZ) (Am : Nat → Nat) (M : t_Model) (R : t_Model) (hF : X7_hold M = some R) : zMU l yX7_hold (zw yX7_hold cX7_hold 1 none) rm_X7_hold Z [.ref (Am 0)] (w_Model Z.2.1 Am M) (w_Model Z.2.1 Am R) none := by
  refine zMU_of (by decide) (Nat.le_of_ble_eq_true rfl) (fun p e s m below meth c hx hb hr hml hown hts hlocks hK A hA Q hQ ls hl hP hD hS => ?_)
  unfold X7_hold at hF
  have hl : lv_has ls 1 [(0, .ref (Am 0))] := hl
  have hown : s.vm.findClass RX7 = some m.cls := hown
  have hP : va_P Z.1 vwCl (l_Model Z.2.1 Am M.1 M.2.1 M.2.2.1 M.2.2.2.1 M.2.2.2.2.1 M.2.2.2.2.2.1 M.2.2.2.2.2.2.1 M.2.2.2.2.2.2.2.1 M.2.2.2.2.2.2.2.2.1 M.2.2.2.2.2.2.2.2.2.1 M.2.2.2.2.2.2.2.2.2.2.1 M.2.2.2.2.2.2.2.2.2.2.2.1 M.2.2.2.2.2.2.2.2.2.2.2.2.1 M.2.2.2.2.2.2.2.2.2.2.2.2.2.1 M.2.2.2.2.2.2.2.2.2.2.2.2.2.2.1 M.2.2.2.2.2.2.2.2.2.2.2.2.2.2.2.1 M.2.2.2.2.2.2.2.2.2.2.2.2.2.2.2.2.1 M.2.2.2.2.2.2.2.2.2.2.2.2.2.2.2.2.2.1 M.2.2.2.2.2.2.2.2.2.2.2.2.2.2.2.2.2.2).flatten s.heap := hP
  have hD : va_D A (l_Model Z.2.1 Am M.1 M.2.1 M.2.2.1 M.2.2.2.1 M.2.2.2.2.1 M.2.2.2.2.2.1 M.2.2.2.2.2.2.1 M.2.2.2.2.2.2.2.1 M.2.2.2.2.2.2.2.2.1 M.2.2.2.2.2.2.2.2.2.1 M.2.2.2.2.2.2.2.2.2.2.1 M.2.2.2.2.2.2.2.2.2.2.2.1 M.2.2.2.2.2.2.2.2.2.2.2.2.1 M.2.2.2.2.2.2.2.2.2.2.2.2.2.1 M.2.2.2.2.2.2.2.2.2.2.2.2.2.2.1 M.2.2.2.2.2.2.2.2.2.2.2.2.2.2.2.1 M.2.2.2.2.2.2.2.2.2.2.2.2.2.2.2.2.1 M.2.2.2.2.2.2.2.2.2.2.2.2.2.2.2.2.2.1 M.2.2.2.2.2.2.2.2.2.2.2.2.2.2.2.2.2.2).flatten := hD
  refine lv_aload_n hx hb (z_d hX7_hold_0 0 rfl) rfl (lv_at hl 0 rfl) ?_
  refine va_get (D := Z.1) (ci := 7) (v := .ref (Am 3)) (C := RX7) (T := TX7) (N := 19) hx hb hts zinX7 hown hK.1 (zP_reg hP 0 rfl) 0 rfl rfl 2 (by decide) (hts _ k_f_X7_16) (fun _ h9 => h9) rfl (z_d hX7_hold_0 1 rfl) ?_
  refine lv_aload_n hx hb (z_d hX7_hold_0 2 rfl) rfl (lv_at hl 0 rfl) ?_
  refine va_get (D := Z.1) (ci := 7) (v := .ref (Am 1)) (C := RX7) (T := TX7) (N := 19) hx hb hts zinX7 hown hK.1 (zP_reg hP 0 rfl) 0 rfl rfl 0 (by decide) (hts _ k_f_X7_7) (fun _ h9 => h9) rfl (z_d hX7_hold_0 3 rfl) ?_
  refine z_bnd hF (fun q1 hq1 hF => ?_)
  refine z_mu2 (L := l_Model Z.2.1 Am M.1 M.2.1 M.2.2.1 M.2.2.2.1 M.2.2.2.2.1 M.2.2.2.2.2.1 M.2.2.2.2.2.2.1 M.2.2.2.2.2.2.2.1 M.2.2.2.2.2.2.2.2.1 M.2.2.2.2.2.2.2.2.2.1 M.2.2.2.2.2.2.2.2.2.2.1 M.2.2.2.2.2.2.2.2.2.2.2.1 M.2.2.2.2.2.2.2.2.2.2.2.2.1 M.2.2.2.2.2.2.2.2.2.2.2.2.2.1 M.2.2.2.2.2.2.2.2.2.2.2.2.2.2.1 M.2.2.2.2.2.2.2.2.2.2.2.2.2.2.2.1 M.2.2.2.2.2.2.2.2.2.2.2.2.2.2.2.2.1 M.2.2.2.2.2.2.2.2.2.2.2.2.2.2.2.2.2.1 M.2.2.2.2.2.2.2.2.2.2.2.2.2.2.2.2.2.2) (L' := l_Model Z.2.1 Am M.1 M.2.1 q1 M.2.2.2.1 M.2.2.2.2.1 M.2.2.2.2.2.1 M.2.2.2.2.2.2.1 M.2.2.2.2.2.2.2.1 M.2.2.2.2.2.2.2.2.1 M.2.2.2.2.2.2.2.2.2.1 M.2.2.2.2.2.2.2.2.2.2.1 M.2.2.2.2.2.2.2.2.2.2.2.1 M.2.2.2.2.2.2.2.2.2.2.2.2.1 M.2.2.2.2.2.2.2.2.2.2.2.2.2.1 M.2.2.2.2.2.2.2.2.2.2.2.2.2.2.1 M.2.2.2.2.2.2.2.2.2.2.2.2.2.2.2.1 M.2.2.2.2.2.2.2.2.2.2.2.2.2.2.2.2.1 M.2.2.2.2.2.2.2.2.2.2.2.2.2.2.2.2.2.1 M.2.2.2.2.2.2.2.2.2.2.2.2.2.2.2.2.2.2) (z_rS (As := [.ref (Am 3), .ref (Am 1)]) (rest := []) hx hb hml hown hts vs_X7_copies (c_X7_copies l Z (Am 3) (Am 1) M.2.2.1 M.1 _ hq1) rfl rfl ⟨Nat.le_of_ble_eq_true rfl, Nat.le_of_ble_eq_true rfl⟩ k_m_X7_47 zPmu_blind (z_prem hK (zP_r2 hP 3 1 rfl rfl) (zD_r2 hD 3 1 rfl rfl (by decide))) rfl hl.1 (Nat.le_of_ble_eq_true rfl) (z_d hX7_hold_0 4 rfl) ⟨Nat.zero_le _, Nat.zero_le _⟩) hS hP hD 3 1 rfl rfl (by decide) rfl rfl rfl (fun H locs hP hD hS => ?_)
  refine W.eq (g2 := F0 m 11 ls []) rfl ?_
  obtain rfl := Option.some.inj hF
  subst hQ
  subst hA
  exact W.vret hx hb hr (fun t ht hW => zq_mu (by rw [ht]; exact hP) (hS.F ht)) hS.2.2 (z_d hX7_hold_0 5 rfl)
def rm_X7_ends : Room := { frames := 1, cells := 0, slots := 0, locals := 21 }
set_option maxRecDepth 100000 in
set_option maxHeartbeats 4000000 in
theorem c_X7_ends (l : Launch) (Z : zZ) (Am : Nat → Nat) (M : t_Model) (p1 : Int32) (R : Int32 × t_Model) (hF : X7_ends M p1 = some R) : zMU l yX7_ends (zw yX7_ends cX7_ends 3 (some .int)) rm_X7_ends Z [.ref (Am 0), .int p1] (w_Model Z.2.1 Am M) (w_Model Z.2.1 Am R.2) (some (.int R.1)) := by
  refine zMU_of (by decide) (Nat.le_of_ble_eq_true rfl) (fun p e s m below meth c hx hb hr hml hown hts hlocks hK A hA Q hQ ls hl hP hD hS => ?_)
  unfold X7_ends at hF
  have hl : lv_has ls 3 [(0, .ref (Am 0)), (1, .int p1)] := hl
  have hown : s.vm.findClass RX7 = some m.cls := hown
  have hP : va_P Z.1 vwCl (l_Model Z.2.1 Am M.1 M.2.1 M.2.2.1 M.2.2.2.1 M.2.2.2.2.1 M.2.2.2.2.2.1 M.2.2.2.2.2.2.1 M.2.2.2.2.2.2.2.1 M.2.2.2.2.2.2.2.2.1 M.2.2.2.2.2.2.2.2.2.1 M.2.2.2.2.2.2.2.2.2.2.1 M.2.2.2.2.2.2.2.2.2.2.2.1 M.2.2.2.2.2.2.2.2.2.2.2.2.1 M.2.2.2.2.2.2.2.2.2.2.2.2.2.1 M.2.2.2.2.2.2.2.2.2.2.2.2.2.2.1 M.2.2.2.2.2.2.2.2.2.2.2.2.2.2.2.1 M.2.2.2.2.2.2.2.2.2.2.2.2.2.2.2.2.1 M.2.2.2.2.2.2.2.2.2.2.2.2.2.2.2.2.2.1 M.2.2.2.2.2.2.2.2.2.2.2.2.2.2.2.2.2.2).flatten s.heap := hP
  have hD : va_D A (l_Model Z.2.1 Am M.1 M.2.1 M.2.2.1 M.2.2.2.1 M.2.2.2.2.1 M.2.2.2.2.2.1 M.2.2.2.2.2.2.1 M.2.2.2.2.2.2.2.1 M.2.2.2.2.2.2.2.2.1 M.2.2.2.2.2.2.2.2.2.1 M.2.2.2.2.2.2.2.2.2.2.1 M.2.2.2.2.2.2.2.2.2.2.2.1 M.2.2.2.2.2.2.2.2.2.2.2.2.1 M.2.2.2.2.2.2.2.2.2.2.2.2.2.1 M.2.2.2.2.2.2.2.2.2.2.2.2.2.2.1 M.2.2.2.2.2.2.2.2.2.2.2.2.2.2.2.1 M.2.2.2.2.2.2.2.2.2.2.2.2.2.2.2.2.1 M.2.2.2.2.2.2.2.2.2.2.2.2.2.2.2.2.2.1 M.2.2.2.2.2.2.2.2.2.2.2.2.2.2.2.2.2.2).flatten := hD
  have L51 : ∀  (n : Nat) (v : t_Model × Int32) (X : t_Model) (hF : zloop (b_X7_ends_51 p1 ) n v = some X) (H : Heap) (locs : List Loc) (ls : Array Slot) (hP : va_P Z.1 vwCl (l_Model Z.2.1 Am v.1.1 v.1.2.1 v.1.2.2.1 v.1.2.2.2.1 v.1.2.2.2.2.1 v.1.2.2.2.2.2.1 v.1.2.2.2.2.2.2.1 v.1.2.2.2.2.2.2.2.1 v.1.2.2.2.2.2.2.2.2.1 v.1.2.2.2.2.2.2.2.2.2.1 v.1.2.2.2.2.2.2.2.2.2.2.1 v.1.2.2.2.2.2.2.2.2.2.2.2.1 v.1.2.2.2.2.2.2.2.2.2.2.2.2.1 v.1.2.2.2.2.2.2.2.2.2.2.2.2.2.1 v.1.2.2.2.2.2.2.2.2.2.2.2.2.2.2.1 v.1.2.2.2.2.2.2.2.2.2.2.2.2.2.2.2.1 v.1.2.2.2.2.2.2.2.2.2.2.2.2.2.2.2.2.1 v.1.2.2.2.2.2.2.2.2.2.2.2.2.2.2.2.2.2.1 v.1.2.2.2.2.2.2.2.2.2.2.2.2.2.2.2.2.2.2).flatten H) (hD : va_D A (l_Model Z.2.1 Am v.1.1 v.1.2.1 v.1.2.2.1 v.1.2.2.2.1 v.1.2.2.2.2.1 v.1.2.2.2.2.2.1 v.1.2.2.2.2.2.2.1 v.1.2.2.2.2.2.2.2.1 v.1.2.2.2.2.2.2.2.2.1 v.1.2.2.2.2.2.2.2.2.2.1 v.1.2.2.2.2.2.2.2.2.2.2.1 v.1.2.2.2.2.2.2.2.2.2.2.2.1 v.1.2.2.2.2.2.2.2.2.2.2.2.2.1 v.1.2.2.2.2.2.2.2.2.2.2.2.2.2.1 v.1.2.2.2.2.2.2.2.2.2.2.2.2.2.2.1 v.1.2.2.2.2.2.2.2.2.2.2.2.2.2.2.2.1 v.1.2.2.2.2.2.2.2.2.2.2.2.2.2.2.2.2.1 v.1.2.2.2.2.2.2.2.2.2.2.2.2.2.2.2.2.2.1 v.1.2.2.2.2.2.2.2.2.2.2.2.2.2.2.2.2.2.2).flatten) (hS : va_S A s.heap H locs) (hl : lv_has ls 3 [(0, .ref (Am 0)), (1, .int p1), (2, .int v.2)]) (K1 : ∀ (H : Heap) (locs : List Loc) (ls : Array Slot) (hP : va_P Z.1 vwCl (l_Model Z.2.1 Am X.1 X.2.1 X.2.2.1 X.2.2.2.1 X.2.2.2.2.1 X.2.2.2.2.2.1 X.2.2.2.2.2.2.1 X.2.2.2.2.2.2.2.1 X.2.2.2.2.2.2.2.2.1 X.2.2.2.2.2.2.2.2.2.1 X.2.2.2.2.2.2.2.2.2.2.1 X.2.2.2.2.2.2.2.2.2.2.2.1 X.2.2.2.2.2.2.2.2.2.2.2.2.1 X.2.2.2.2.2.2.2.2.2.2.2.2.2.1 X.2.2.2.2.2.2.2.2.2.2.2.2.2.2.1 X.2.2.2.2.2.2.2.2.2.2.2.2.2.2.2.1 X.2.2.2.2.2.2.2.2.2.2.2.2.2.2.2.2.1 X.2.2.2.2.2.2.2.2.2.2.2.2.2.2.2.2.2.1 X.2.2.2.2.2.2.2.2.2.2.2.2.2.2.2.2.2.2).flatten H) (hD : va_D A (l_Model Z.2.1 Am X.1 X.2.1 X.2.2.1 X.2.2.2.1 X.2.2.2.2.1 X.2.2.2.2.2.1 X.2.2.2.2.2.2.1 X.2.2.2.2.2.2.2.1 X.2.2.2.2.2.2.2.2.1 X.2.2.2.2.2.2.2.2.2.1 X.2.2.2.2.2.2.2.2.2.2.1 X.2.2.2.2.2.2.2.2.2.2.2.1 X.2.2.2.2.2.2.2.2.2.2.2.2.1 X.2.2.2.2.2.2.2.2.2.2.2.2.2.1 X.2.2.2.2.2.2.2.2.2.2.2.2.2.2.1 X.2.2.2.2.2.2.2.2.2.2.2.2.2.2.2.1 X.2.2.2.2.2.2.2.2.2.2.2.2.2.2.2.2.1 X.2.2.2.2.2.2.2.2.2.2.2.2.2.2.2.2.2.1 X.2.2.2.2.2.2.2.2.2.2.2.2.2.2.2.2.2.2).flatten) (hS : va_S A s.heap H locs) (hl : lv_has ls 3 [(0, .ref (Am 0)), (1, .int p1)]), W p l e rm_X7_ends s m ([.ref (Am 0), .int p1] : List Value).toArray below meth c H locs 0 0 Q (F0 m 85 ls [])), W p l e rm_X7_ends s m ([.ref (Am 0), .int p1] : List Value).toArray below meth c H locs 0 0 Q (F0 m 51 ls []) := by
    skip
    refine z_loopE (fun rec ih v X hF H locs ls hP hD hS hl K1 => ?_)
    unfold b_X7_ends_51 at hF
    refine lv_iload_n hx hb (z_d hX7_ends_0 29 rfl) rfl (lv_at hl 2 rfl) ?_
    refine lv_sipush (v := 542) hx hb (z_d hX7_ends_0 30 rfl) (by decide) ?_
    refine lv_icmp_ge (tgt := 85) hx hb (z_d hX7_ends_0 31 rfl) (by decide) (fun hc55 => ?_) (fun hc55 => ?_)
    · have hF := z_pos hc55 hF
      obtain rfl := Option.some.inj hF
      exact K1 _ _ ls hP hD hS (lv_sub hl [0, 1] rfl)
    · have hF := z_neg hc55 hF
      refine lv_aload_n hx hb (z_d hX7_ends_0 32 rfl) rfl (lv_at hl 0 rfl) ?_
      refine va_get (D := Z.1) (ci := 7) (v := .ref (Am 2)) (C := RX7) (T := TX7) (N := 19) hx hb hts zinX7 hown hK.1 (zP_reg hP 0 rfl) 0 rfl rfl 1 (by decide) (hts _ k_f_X7_13) (fun _ h9 => h9) rfl (z_d hX7_ends_0 33 rfl) ?_
      refine lv_sipush (v := 542) hx hb (z_d hX7_ends_0 34 rfl) (by decide) ?_
      refine lv_aload_n hx hb (z_d hX7_ends_0 35 rfl) rfl (lv_at hl 0 rfl) ?_
      refine va_get (D := Z.1) (ci := 7) (v := .int v.1.2.2.2.1) (C := RX7) (T := TX7) (N := 19) hx hb hts zinX7 hown hK.1 (zP_reg hP 0 rfl) 0 rfl rfl 3 (by decide) (hts _ k_f_X7_51) (fun _ h9 => h9) rfl (z_d hX7_ends_0 36 rfl) ?_
      refine lv_imul hx hb (z_d hX7_ends_0 37 rfl) ?_
      refine z_let hF (fun u1 hu1 hF => ?_)
      refine lv_topE hu1 ?_
      refine lv_iload_n hx hb (z_d hX7_ends_0 38 rfl) rfl (lv_at hl 2 rfl) ?_
      refine lv_iadd hx hb (z_d hX7_ends_0 39 rfl) ?_
      refine z_let hF (fun u2 hu2 hF => ?_)
      refine lv_topE hu2 ?_
      refine lv_aload_n hx hb (z_d hX7_ends_0 40 rfl) rfl (lv_at hl 0 rfl) ?_
      refine va_get (D := Z.1) (ci := 7) (v := .ref (Am 3)) (C := RX7) (T := TX7) (N := 19) hx hb hts zinX7 hown hK.1 (zP_reg hP 0 rfl) 0 rfl rfl 2 (by decide) (hts _ k_f_X7_16) (fun _ h9 => h9) rfl (z_d hX7_ends_0 41 rfl) ?_
      refine lv_iload_n hx hb (z_d hX7_ends_0 42 rfl) rfl (lv_at hl 2 rfl) ?_
      refine z_ix hF (fun hin hF => ?_)
      refine va_iald (D := Z.1) (f := v.1.2.2.1) hx hb hK.1 (zP_reg hP 3 rfl) 0 0 rfl rfl hin (z_d hX7_ends_0 43 rfl) ?_
      refine z_let hF (fun u3 hu3 hF => ?_)
      refine lv_topE hu3 ?_
      refine z_ix hF (fun hin hF => ?_)
      refine z_let hF (fun g4 hg4 hF => ?_)
      refine z_iast (Z := Z) (L := l_Model Z.2.1 Am v.1.1 v.1.2.1 v.1.2.2.1 v.1.2.2.2.1 v.1.2.2.2.2.1 v.1.2.2.2.2.2.1 v.1.2.2.2.2.2.2.1 v.1.2.2.2.2.2.2.2.1 v.1.2.2.2.2.2.2.2.2.1 v.1.2.2.2.2.2.2.2.2.2.1 v.1.2.2.2.2.2.2.2.2.2.2.1 v.1.2.2.2.2.2.2.2.2.2.2.2.1 v.1.2.2.2.2.2.2.2.2.2.2.2.2.1 v.1.2.2.2.2.2.2.2.2.2.2.2.2.2.1 v.1.2.2.2.2.2.2.2.2.2.2.2.2.2.2.1 v.1.2.2.2.2.2.2.2.2.2.2.2.2.2.2.2.1 v.1.2.2.2.2.2.2.2.2.2.2.2.2.2.2.2.2.1 v.1.2.2.2.2.2.2.2.2.2.2.2.2.2.2.2.2.2.1 v.1.2.2.2.2.2.2.2.2.2.2.2.2.2.2.2.2.2.2) (L' := l_Model Z.2.1 Am v.1.1 g4 v.1.2.2.1 v.1.2.2.2.1 v.1.2.2.2.2.1 v.1.2.2.2.2.2.1 v.1.2.2.2.2.2.2.1 v.1.2.2.2.2.2.2.2.1 v.1.2.2.2.2.2.2.2.2.1 v.1.2.2.2.2.2.2.2.2.2.1 v.1.2.2.2.2.2.2.2.2.2.2.1 v.1.2.2.2.2.2.2.2.2.2.2.2.1 v.1.2.2.2.2.2.2.2.2.2.2.2.2.1 v.1.2.2.2.2.2.2.2.2.2.2.2.2.2.1 v.1.2.2.2.2.2.2.2.2.2.2.2.2.2.2.1 v.1.2.2.2.2.2.2.2.2.2.2.2.2.2.2.2.1 v.1.2.2.2.2.2.2.2.2.2.2.2.2.2.2.2.2.1 v.1.2.2.2.2.2.2.2.2.2.2.2.2.2.2.2.2.2.1 v.1.2.2.2.2.2.2.2.2.2.2.2.2.2.2.2.2.2.2) (f := v.1.2.1) hx hb hK hP hD hS 2 rfl hin hg4 rfl (z_d hX7_ends_0 44 rfl) (fun H locs hP hD hS => ?_)
      refine z_let hF (fun u5 hu5 hF => ?_)
      refine lv_iinc (v := u5) (lv' := [(2, .int u5), (0, .ref (Am 0)), (1, .int p1)]) hx hb (z_d hX7_ends_0 45 rfl) hl (k := 2) rfl (z_inc1 hu5) (by decide) rfl (fun ls hl => ?_)
      refine lv_goto (tgt := 51) hx hb (z_d hX7_ends_0 46 rfl) (by decide) ?_
      exact ih _ _ hF _ _ ls hP hD hS (lv_sub hl [1, 2, 0] rfl) K1
  have J49 : ∀ (M : t_Model) (hF : j_X7_ends_49 p1 M = some R) (H : Heap) (locs : List Loc) (ls : Array Slot) (hP : va_P Z.1 vwCl (l_Model Z.2.1 Am M.1 M.2.1 M.2.2.1 M.2.2.2.1 M.2.2.2.2.1 M.2.2.2.2.2.1 M.2.2.2.2.2.2.1 M.2.2.2.2.2.2.2.1 M.2.2.2.2.2.2.2.2.1 M.2.2.2.2.2.2.2.2.2.1 M.2.2.2.2.2.2.2.2.2.2.1 M.2.2.2.2.2.2.2.2.2.2.2.1 M.2.2.2.2.2.2.2.2.2.2.2.2.1 M.2.2.2.2.2.2.2.2.2.2.2.2.2.1 M.2.2.2.2.2.2.2.2.2.2.2.2.2.2.1 M.2.2.2.2.2.2.2.2.2.2.2.2.2.2.2.1 M.2.2.2.2.2.2.2.2.2.2.2.2.2.2.2.2.1 M.2.2.2.2.2.2.2.2.2.2.2.2.2.2.2.2.2.1 M.2.2.2.2.2.2.2.2.2.2.2.2.2.2.2.2.2.2).flatten H) (hD : va_D A (l_Model Z.2.1 Am M.1 M.2.1 M.2.2.1 M.2.2.2.1 M.2.2.2.2.1 M.2.2.2.2.2.1 M.2.2.2.2.2.2.1 M.2.2.2.2.2.2.2.1 M.2.2.2.2.2.2.2.2.1 M.2.2.2.2.2.2.2.2.2.1 M.2.2.2.2.2.2.2.2.2.2.1 M.2.2.2.2.2.2.2.2.2.2.2.1 M.2.2.2.2.2.2.2.2.2.2.2.2.1 M.2.2.2.2.2.2.2.2.2.2.2.2.2.1 M.2.2.2.2.2.2.2.2.2.2.2.2.2.2.1 M.2.2.2.2.2.2.2.2.2.2.2.2.2.2.2.1 M.2.2.2.2.2.2.2.2.2.2.2.2.2.2.2.2.1 M.2.2.2.2.2.2.2.2.2.2.2.2.2.2.2.2.2.1 M.2.2.2.2.2.2.2.2.2.2.2.2.2.2.2.2.2.2).flatten) (hS : va_S A s.heap H locs) (hl : lv_has ls 3 [(0, .ref (Am 0)), (1, .int p1)]), W p l e rm_X7_ends s m ([.ref (Am 0), .int p1] : List Value).toArray below meth c H locs 0 0 Q (F0 m 49 ls []) := by
    intro M hF H locs ls hP hD hS hl
    unfold j_X7_ends_49 at hF
    refine lv_iconst (v := 0) hx hb (z_d hX7_ends_0 27 rfl) (by decide) ?_
    refine lv_istore_n (lv' := [(2, .int 0), (0, .ref (Am 0)), (1, .int p1)]) hx hb (z_d hX7_ends_0 28 rfl) rfl hl (by decide) rfl (fun ls hl => ?_)
    refine z_bnd hF (fun q6 hq6 hF => ?_)
    refine L51  _ _ _ hq6 _ _ ls hP hD hS (lv_sub hl [1, 2, 0] rfl) (fun H locs ls hP hD hS hl => ?_)
    refine lv_aload_n hx hb (z_d hX7_ends_0 47 rfl) rfl (lv_at hl 0 rfl) ?_
    refine lv_dup hx hb (z_d hX7_ends_0 48 rfl) rfl ?_
    refine va_get (D := Z.1) (ci := 7) (v := .int q6.2.2.2.1) (C := RX7) (T := TX7) (N := 19) hx hb hts zinX7 hown hK.1 (zP_reg hP 0 rfl) 0 rfl rfl 3 (by decide) (hts _ k_f_X7_51) (fun _ h9 => h9) rfl (z_d hX7_ends_0 49 rfl) ?_
    refine lv_iconst (v := 1) hx hb (z_d hX7_ends_0 50 rfl) (by decide) ?_
    refine lv_iadd hx hb (z_d hX7_ends_0 51 rfl) ?_
    refine z_let hF (fun u7 hu7 hF => ?_)
    refine lv_topE hu7 ?_
    refine z_put (Z := Z) (ci := 7) (v := .int u7) (ty := .int) (L := l_Model Z.2.1 Am q6.1 q6.2.1 q6.2.2.1 q6.2.2.2.1 q6.2.2.2.2.1 q6.2.2.2.2.2.1 q6.2.2.2.2.2.2.1 q6.2.2.2.2.2.2.2.1 q6.2.2.2.2.2.2.2.2.1 q6.2.2.2.2.2.2.2.2.2.1 q6.2.2.2.2.2.2.2.2.2.2.1 q6.2.2.2.2.2.2.2.2.2.2.2.1 q6.2.2.2.2.2.2.2.2.2.2.2.2.1 q6.2.2.2.2.2.2.2.2.2.2.2.2.2.1 q6.2.2.2.2.2.2.2.2.2.2.2.2.2.2.1 q6.2.2.2.2.2.2.2.2.2.2.2.2.2.2.2.1 q6.2.2.2.2.2.2.2.2.2.2.2.2.2.2.2.2.1 q6.2.2.2.2.2.2.2.2.2.2.2.2.2.2.2.2.2.1 q6.2.2.2.2.2.2.2.2.2.2.2.2.2.2.2.2.2.2) (L' := l_Model Z.2.1 Am q6.1 q6.2.1 q6.2.2.1 u7 q6.2.2.2.2.1 q6.2.2.2.2.2.1 q6.2.2.2.2.2.2.1 q6.2.2.2.2.2.2.2.1 q6.2.2.2.2.2.2.2.2.1 q6.2.2.2.2.2.2.2.2.2.1 q6.2.2.2.2.2.2.2.2.2.2.1 q6.2.2.2.2.2.2.2.2.2.2.2.1 q6.2.2.2.2.2.2.2.2.2.2.2.2.1 q6.2.2.2.2.2.2.2.2.2.2.2.2.2.1 q6.2.2.2.2.2.2.2.2.2.2.2.2.2.2.1 q6.2.2.2.2.2.2.2.2.2.2.2.2.2.2.2.1 q6.2.2.2.2.2.2.2.2.2.2.2.2.2.2.2.2.1 q6.2.2.2.2.2.2.2.2.2.2.2.2.2.2.2.2.2.1 q6.2.2.2.2.2.2.2.2.2.2.2.2.2.2.2.2.2.2) (C := RX7) (T := TX7) (N := 19) hx hb hts zinX7 tyX7 tyX7_ok nmX7 hown hK hP hD hS 0 rfl rfl 3 (by decide) (hts _ k_f_X7_51) (fun _ h9 => h9) rfl (tyX7_ok 3 (by decide)) rfl rfl (Nat.le_of_ble_eq_true rfl) rfl (z_d hX7_ends_0 52 rfl) (fun H locs hP hD hS => ?_)
    refine lv_aload_n hx hb (z_d hX7_ends_0 53 rfl) rfl (lv_at hl 0 rfl) ?_
    refine lv_iload_n hx hb (z_d hX7_ends_0 54 rfl) rfl (lv_at hl 1 rfl) ?_
    refine z_let hF (fun q8 hq8 hF => ?_)
    refine z_mu0 (z_rV (As := [.int p1]) (rest := []) hx hb hml hown hts vt_X7_tells (c_X7_tells l Z Am (q6.1, q6.2.1, q6.2.2.1, u7, q6.2.2.2.2.1, q6.2.2.2.2.2.1, q6.2.2.2.2.2.2.1, q6.2.2.2.2.2.2.2.1, q6.2.2.2.2.2.2.2.2.1, q6.2.2.2.2.2.2.2.2.2.1, q6.2.2.2.2.2.2.2.2.2.2.1, q6.2.2.2.2.2.2.2.2.2.2.2.1, q6.2.2.2.2.2.2.2.2.2.2.2.2.1, q6.2.2.2.2.2.2.2.2.2.2.2.2.2.1, q6.2.2.2.2.2.2.2.2.2.2.2.2.2.2.1, q6.2.2.2.2.2.2.2.2.2.2.2.2.2.2.2.1, q6.2.2.2.2.2.2.2.2.2.2.2.2.2.2.2.2.1, q6.2.2.2.2.2.2.2.2.2.2.2.2.2.2.2.2.2.1, q6.2.2.2.2.2.2.2.2.2.2.2.2.2.2.2.2.2.2) p1 _ hq8) rfl rfl ⟨Nat.le_of_ble_eq_true rfl, Nat.le_of_ble_eq_true rfl⟩ k_m_X7_54 zPmu_blind (z_recv (q := (RX7, TX7, 19)) (ci := 7) (q0 := 0) hK (zP_reg hP 0 rfl) rfl rfl) (z_prem hK hP hD) rfl hl.1 (Nat.le_of_ble_eq_true rfl) (z_d hX7_ends_0 55 rfl) ⟨Nat.zero_le _, Nat.zero_le _⟩) hS hD (adr_Model _ _ _ _) (fun H locs hP hD hS => ?_)
    have hP : va_P Z.1 vwCl (l_Model Z.2.1 Am q8.2.1 q8.2.2.1 q8.2.2.2.1 q8.2.2.2.2.1 q8.2.2.2.2.2.1 q8.2.2.2.2.2.2.1 q8.2.2.2.2.2.2.2.1 q8.2.2.2.2.2.2.2.2.1 q8.2.2.2.2.2.2.2.2.2.1 q8.2.2.2.2.2.2.2.2.2.2.1 q8.2.2.2.2.2.2.2.2.2.2.2.1 q8.2.2.2.2.2.2.2.2.2.2.2.2.1 q8.2.2.2.2.2.2.2.2.2.2.2.2.2.1 q8.2.2.2.2.2.2.2.2.2.2.2.2.2.2.1 q8.2.2.2.2.2.2.2.2.2.2.2.2.2.2.2.1 q8.2.2.2.2.2.2.2.2.2.2.2.2.2.2.2.2.1 q8.2.2.2.2.2.2.2.2.2.2.2.2.2.2.2.2.2.1 q8.2.2.2.2.2.2.2.2.2.2.2.2.2.2.2.2.2.2.1 q8.2.2.2.2.2.2.2.2.2.2.2.2.2.2.2.2.2.2.2).flatten H := hP
    have hD : va_D A (l_Model Z.2.1 Am q8.2.1 q8.2.2.1 q8.2.2.2.1 q8.2.2.2.2.1 q8.2.2.2.2.2.1 q8.2.2.2.2.2.2.1 q8.2.2.2.2.2.2.2.1 q8.2.2.2.2.2.2.2.2.1 q8.2.2.2.2.2.2.2.2.2.1 q8.2.2.2.2.2.2.2.2.2.2.1 q8.2.2.2.2.2.2.2.2.2.2.2.1 q8.2.2.2.2.2.2.2.2.2.2.2.2.1 q8.2.2.2.2.2.2.2.2.2.2.2.2.2.1 q8.2.2.2.2.2.2.2.2.2.2.2.2.2.2.1 q8.2.2.2.2.2.2.2.2.2.2.2.2.2.2.2.1 q8.2.2.2.2.2.2.2.2.2.2.2.2.2.2.2.2.1 q8.2.2.2.2.2.2.2.2.2.2.2.2.2.2.2.2.2.1 q8.2.2.2.2.2.2.2.2.2.2.2.2.2.2.2.2.2.2.1 q8.2.2.2.2.2.2.2.2.2.2.2.2.2.2.2.2.2.2.2).flatten := hD
    refine W.eq (g2 := F0 m 100 ls [.int q8.1]) rfl ?_
    obtain rfl := Option.some.inj hF
    subst hQ
    subst hA
    exact W.iret hx hb hr (fun t ht hW => zq_mu (by rw [ht]; exact hP) (hS.F ht)) hS.2.2 (z_d hX7_ends_0 56 rfl)
  have L10 : ∀  (n : Nat) (v : t_Model × Int32) (X : t_Model) (hF : zloop (b_X7_ends_10 p1 ) n v = some X) (H : Heap) (locs : List Loc) (ls : Array Slot) (hP : va_P Z.1 vwCl (l_Model Z.2.1 Am v.1.1 v.1.2.1 v.1.2.2.1 v.1.2.2.2.1 v.1.2.2.2.2.1 v.1.2.2.2.2.2.1 v.1.2.2.2.2.2.2.1 v.1.2.2.2.2.2.2.2.1 v.1.2.2.2.2.2.2.2.2.1 v.1.2.2.2.2.2.2.2.2.2.1 v.1.2.2.2.2.2.2.2.2.2.2.1 v.1.2.2.2.2.2.2.2.2.2.2.2.1 v.1.2.2.2.2.2.2.2.2.2.2.2.2.1 v.1.2.2.2.2.2.2.2.2.2.2.2.2.2.1 v.1.2.2.2.2.2.2.2.2.2.2.2.2.2.2.1 v.1.2.2.2.2.2.2.2.2.2.2.2.2.2.2.2.1 v.1.2.2.2.2.2.2.2.2.2.2.2.2.2.2.2.2.1 v.1.2.2.2.2.2.2.2.2.2.2.2.2.2.2.2.2.2.1 v.1.2.2.2.2.2.2.2.2.2.2.2.2.2.2.2.2.2.2).flatten H) (hD : va_D A (l_Model Z.2.1 Am v.1.1 v.1.2.1 v.1.2.2.1 v.1.2.2.2.1 v.1.2.2.2.2.1 v.1.2.2.2.2.2.1 v.1.2.2.2.2.2.2.1 v.1.2.2.2.2.2.2.2.1 v.1.2.2.2.2.2.2.2.2.1 v.1.2.2.2.2.2.2.2.2.2.1 v.1.2.2.2.2.2.2.2.2.2.2.1 v.1.2.2.2.2.2.2.2.2.2.2.2.1 v.1.2.2.2.2.2.2.2.2.2.2.2.2.1 v.1.2.2.2.2.2.2.2.2.2.2.2.2.2.1 v.1.2.2.2.2.2.2.2.2.2.2.2.2.2.2.1 v.1.2.2.2.2.2.2.2.2.2.2.2.2.2.2.2.1 v.1.2.2.2.2.2.2.2.2.2.2.2.2.2.2.2.2.1 v.1.2.2.2.2.2.2.2.2.2.2.2.2.2.2.2.2.2.1 v.1.2.2.2.2.2.2.2.2.2.2.2.2.2.2.2.2.2.2).flatten) (hS : va_S A s.heap H locs) (hl : lv_has ls 3 [(0, .ref (Am 0)), (1, .int p1), (2, .int v.2)]) (K1 : ∀ (H : Heap) (locs : List Loc) (ls : Array Slot) (hP : va_P Z.1 vwCl (l_Model Z.2.1 Am X.1 X.2.1 X.2.2.1 X.2.2.2.1 X.2.2.2.2.1 X.2.2.2.2.2.1 X.2.2.2.2.2.2.1 X.2.2.2.2.2.2.2.1 X.2.2.2.2.2.2.2.2.1 X.2.2.2.2.2.2.2.2.2.1 X.2.2.2.2.2.2.2.2.2.2.1 X.2.2.2.2.2.2.2.2.2.2.2.1 X.2.2.2.2.2.2.2.2.2.2.2.2.1 X.2.2.2.2.2.2.2.2.2.2.2.2.2.1 X.2.2.2.2.2.2.2.2.2.2.2.2.2.2.1 X.2.2.2.2.2.2.2.2.2.2.2.2.2.2.2.1 X.2.2.2.2.2.2.2.2.2.2.2.2.2.2.2.2.1 X.2.2.2.2.2.2.2.2.2.2.2.2.2.2.2.2.2.1 X.2.2.2.2.2.2.2.2.2.2.2.2.2.2.2.2.2.2).flatten H) (hD : va_D A (l_Model Z.2.1 Am X.1 X.2.1 X.2.2.1 X.2.2.2.1 X.2.2.2.2.1 X.2.2.2.2.2.1 X.2.2.2.2.2.2.1 X.2.2.2.2.2.2.2.1 X.2.2.2.2.2.2.2.2.1 X.2.2.2.2.2.2.2.2.2.1 X.2.2.2.2.2.2.2.2.2.2.1 X.2.2.2.2.2.2.2.2.2.2.2.1 X.2.2.2.2.2.2.2.2.2.2.2.2.1 X.2.2.2.2.2.2.2.2.2.2.2.2.2.1 X.2.2.2.2.2.2.2.2.2.2.2.2.2.2.1 X.2.2.2.2.2.2.2.2.2.2.2.2.2.2.2.1 X.2.2.2.2.2.2.2.2.2.2.2.2.2.2.2.2.1 X.2.2.2.2.2.2.2.2.2.2.2.2.2.2.2.2.2.1 X.2.2.2.2.2.2.2.2.2.2.2.2.2.2.2.2.2.2).flatten) (hS : va_S A s.heap H locs) (hl : lv_has ls 3 [(0, .ref (Am 0)), (1, .int p1)]), W p l e rm_X7_ends s m ([.ref (Am 0), .int p1] : List Value).toArray below meth c H locs 0 0 Q (F0 m 39 ls [])), W p l e rm_X7_ends s m ([.ref (Am 0), .int p1] : List Value).toArray below meth c H locs 0 0 Q (F0 m 10 ls []) := by
    skip
    refine z_loopE (fun rec ih v X hF H locs ls hP hD hS hl K1 => ?_)
    unfold b_X7_ends_10 at hF
    refine lv_iload_n hx hb (z_d hX7_ends_0 6 rfl) rfl (lv_at hl 2 rfl) ?_
    refine lv_sipush (v := 1626) hx hb (z_d hX7_ends_0 7 rfl) (by decide) ?_
    refine lv_icmp_ge (tgt := 39) hx hb (z_d hX7_ends_0 8 rfl) (by decide) (fun hc14 => ?_) (fun hc14 => ?_)
    · have hF := z_pos hc14 hF
      obtain rfl := Option.some.inj hF
      exact K1 _ _ ls hP hD hS (lv_sub hl [0, 1] rfl)
    · have hF := z_neg hc14 hF
      refine lv_aload_n hx hb (z_d hX7_ends_0 9 rfl) rfl (lv_at hl 0 rfl) ?_
      refine va_get (D := Z.1) (ci := 7) (v := .ref (Am 2)) (C := RX7) (T := TX7) (N := 19) hx hb hts zinX7 hown hK.1 (zP_reg hP 0 rfl) 0 rfl rfl 1 (by decide) (hts _ k_f_X7_13) (fun _ h9 => h9) rfl (z_d hX7_ends_0 10 rfl) ?_
      refine lv_iload_n hx hb (z_d hX7_ends_0 11 rfl) rfl (lv_at hl 2 rfl) ?_
      refine lv_aload_n hx hb (z_d hX7_ends_0 12 rfl) rfl (lv_at hl 0 rfl) ?_
      refine va_get (D := Z.1) (ci := 7) (v := .ref (Am 2)) (C := RX7) (T := TX7) (N := 19) hx hb hts zinX7 hown hK.1 (zP_reg hP 0 rfl) 0 rfl rfl 1 (by decide) (hts _ k_f_X7_13) (fun _ h9 => h9) rfl (z_d hX7_ends_0 13 rfl) ?_
      refine lv_iload_n hx hb (z_d hX7_ends_0 14 rfl) rfl (lv_at hl 2 rfl) ?_
      refine lv_sipush (v := 542) hx hb (z_d hX7_ends_0 15 rfl) (by decide) ?_
      refine lv_iadd hx hb (z_d hX7_ends_0 16 rfl) ?_
      refine z_let hF (fun u9 hu9 hF => ?_)
      refine lv_topE hu9 ?_
      refine z_ix hF (fun hin hF => ?_)
      refine va_iald (D := Z.1) (f := v.1.2.1) hx hb hK.1 (zP_reg hP 2 rfl) 0 0 rfl rfl hin (z_d hX7_ends_0 17 rfl) ?_
      refine z_let hF (fun u10 hu10 hF => ?_)
      refine lv_topE hu10 ?_
      refine z_ix hF (fun hin hF => ?_)
      refine z_let hF (fun g11 hg11 hF => ?_)
      refine z_iast (Z := Z) (L := l_Model Z.2.1 Am v.1.1 v.1.2.1 v.1.2.2.1 v.1.2.2.2.1 v.1.2.2.2.2.1 v.1.2.2.2.2.2.1 v.1.2.2.2.2.2.2.1 v.1.2.2.2.2.2.2.2.1 v.1.2.2.2.2.2.2.2.2.1 v.1.2.2.2.2.2.2.2.2.2.1 v.1.2.2.2.2.2.2.2.2.2.2.1 v.1.2.2.2.2.2.2.2.2.2.2.2.1 v.1.2.2.2.2.2.2.2.2.2.2.2.2.1 v.1.2.2.2.2.2.2.2.2.2.2.2.2.2.1 v.1.2.2.2.2.2.2.2.2.2.2.2.2.2.2.1 v.1.2.2.2.2.2.2.2.2.2.2.2.2.2.2.2.1 v.1.2.2.2.2.2.2.2.2.2.2.2.2.2.2.2.2.1 v.1.2.2.2.2.2.2.2.2.2.2.2.2.2.2.2.2.2.1 v.1.2.2.2.2.2.2.2.2.2.2.2.2.2.2.2.2.2.2) (L' := l_Model Z.2.1 Am v.1.1 g11 v.1.2.2.1 v.1.2.2.2.1 v.1.2.2.2.2.1 v.1.2.2.2.2.2.1 v.1.2.2.2.2.2.2.1 v.1.2.2.2.2.2.2.2.1 v.1.2.2.2.2.2.2.2.2.1 v.1.2.2.2.2.2.2.2.2.2.1 v.1.2.2.2.2.2.2.2.2.2.2.1 v.1.2.2.2.2.2.2.2.2.2.2.2.1 v.1.2.2.2.2.2.2.2.2.2.2.2.2.1 v.1.2.2.2.2.2.2.2.2.2.2.2.2.2.1 v.1.2.2.2.2.2.2.2.2.2.2.2.2.2.2.1 v.1.2.2.2.2.2.2.2.2.2.2.2.2.2.2.2.1 v.1.2.2.2.2.2.2.2.2.2.2.2.2.2.2.2.2.1 v.1.2.2.2.2.2.2.2.2.2.2.2.2.2.2.2.2.2.1 v.1.2.2.2.2.2.2.2.2.2.2.2.2.2.2.2.2.2.2) (f := v.1.2.1) hx hb hK hP hD hS 2 rfl hin hg11 rfl (z_d hX7_ends_0 18 rfl) (fun H locs hP hD hS => ?_)
      refine z_let hF (fun u12 hu12 hF => ?_)
      refine lv_iinc (v := u12) (lv' := [(2, .int u12), (0, .ref (Am 0)), (1, .int p1)]) hx hb (z_d hX7_ends_0 19 rfl) hl (k := 2) rfl (z_inc1 hu12) (by decide) rfl (fun ls hl => ?_)
      refine lv_goto (tgt := 10) hx hb (z_d hX7_ends_0 20 rfl) (by decide) ?_
      exact ih _ _ hF _ _ ls hP hD hS (lv_sub hl [1, 2, 0] rfl) K1
  refine lv_aload_n hx hb (z_d hX7_ends_0 0 rfl) rfl (lv_at hl 0 rfl) ?_
  refine va_get (D := Z.1) (ci := 7) (v := .int M.2.2.2.1) (C := RX7) (T := TX7) (N := 19) hx hb hts zinX7 hown hK.1 (zP_reg hP 0 rfl) 0 rfl rfl 3 (by decide) (hts _ k_f_X7_51) (fun _ h9 => h9) rfl (z_d hX7_ends_0 1 rfl) ?_
  refine lv_iconst (v := 4) hx hb (z_d hX7_ends_0 2 rfl) (by decide) ?_
  refine lv_icmp_ne (tgt := 49) hx hb (z_d hX7_ends_0 3 rfl) (by decide) (fun hc5 => ?_) (fun hc5 => ?_)
  · have hF := z_neg hc5 hF
    exact J49 M hF _ _ ls hP hD hS (lv_sub hl [0, 1] rfl)
  · have hF := z_pos hc5 hF
    refine lv_iconst (v := 0) hx hb (z_d hX7_ends_0 4 rfl) (by decide) ?_
    refine lv_istore_n (lv' := [(2, .int 0), (0, .ref (Am 0)), (1, .int p1)]) hx hb (z_d hX7_ends_0 5 rfl) rfl hl (by decide) rfl (fun ls hl => ?_)
    refine z_bnd hF (fun q13 hq13 hF => ?_)
    refine L10  _ _ _ hq13 _ _ ls hP hD hS (lv_sub hl [1, 2, 0] rfl) (fun H locs ls hP hD hS hl => ?_)
    refine lv_aload_n hx hb (z_d hX7_ends_0 21 rfl) rfl (lv_at hl 0 rfl) ?_
    refine lv_dup hx hb (z_d hX7_ends_0 22 rfl) rfl ?_
    refine va_get (D := Z.1) (ci := 7) (v := .int q13.2.2.2.1) (C := RX7) (T := TX7) (N := 19) hx hb hts zinX7 hown hK.1 (zP_reg hP 0 rfl) 0 rfl rfl 3 (by decide) (hts _ k_f_X7_51) (fun _ h9 => h9) rfl (z_d hX7_ends_0 23 rfl) ?_
    refine lv_iconst (v := 1) hx hb (z_d hX7_ends_0 24 rfl) (by decide) ?_
    refine lv_isub hx hb (z_d hX7_ends_0 25 rfl) ?_
    refine z_let hF (fun u14 hu14 hF => ?_)
    refine lv_topE hu14 ?_
    refine z_put (Z := Z) (ci := 7) (v := .int u14) (ty := .int) (L := l_Model Z.2.1 Am q13.1 q13.2.1 q13.2.2.1 q13.2.2.2.1 q13.2.2.2.2.1 q13.2.2.2.2.2.1 q13.2.2.2.2.2.2.1 q13.2.2.2.2.2.2.2.1 q13.2.2.2.2.2.2.2.2.1 q13.2.2.2.2.2.2.2.2.2.1 q13.2.2.2.2.2.2.2.2.2.2.1 q13.2.2.2.2.2.2.2.2.2.2.2.1 q13.2.2.2.2.2.2.2.2.2.2.2.2.1 q13.2.2.2.2.2.2.2.2.2.2.2.2.2.1 q13.2.2.2.2.2.2.2.2.2.2.2.2.2.2.1 q13.2.2.2.2.2.2.2.2.2.2.2.2.2.2.2.1 q13.2.2.2.2.2.2.2.2.2.2.2.2.2.2.2.2.1 q13.2.2.2.2.2.2.2.2.2.2.2.2.2.2.2.2.2.1 q13.2.2.2.2.2.2.2.2.2.2.2.2.2.2.2.2.2.2) (L' := l_Model Z.2.1 Am q13.1 q13.2.1 q13.2.2.1 u14 q13.2.2.2.2.1 q13.2.2.2.2.2.1 q13.2.2.2.2.2.2.1 q13.2.2.2.2.2.2.2.1 q13.2.2.2.2.2.2.2.2.1 q13.2.2.2.2.2.2.2.2.2.1 q13.2.2.2.2.2.2.2.2.2.2.1 q13.2.2.2.2.2.2.2.2.2.2.2.1 q13.2.2.2.2.2.2.2.2.2.2.2.2.1 q13.2.2.2.2.2.2.2.2.2.2.2.2.2.1 q13.2.2.2.2.2.2.2.2.2.2.2.2.2.2.1 q13.2.2.2.2.2.2.2.2.2.2.2.2.2.2.2.1 q13.2.2.2.2.2.2.2.2.2.2.2.2.2.2.2.2.1 q13.2.2.2.2.2.2.2.2.2.2.2.2.2.2.2.2.2.1 q13.2.2.2.2.2.2.2.2.2.2.2.2.2.2.2.2.2.2) (C := RX7) (T := TX7) (N := 19) hx hb hts zinX7 tyX7 tyX7_ok nmX7 hown hK hP hD hS 0 rfl rfl 3 (by decide) (hts _ k_f_X7_51) (fun _ h9 => h9) rfl (tyX7_ok 3 (by decide)) rfl rfl (Nat.le_of_ble_eq_true rfl) rfl (z_d hX7_ends_0 26 rfl) (fun H locs hP hD hS => ?_)
    exact J49 (q13.1, q13.2.1, q13.2.2.1, u14, q13.2.2.2.2.1, q13.2.2.2.2.2.1, q13.2.2.2.2.2.2.1, q13.2.2.2.2.2.2.2.1, q13.2.2.2.2.2.2.2.2.1, q13.2.2.2.2.2.2.2.2.2.1, q13.2.2.2.2.2.2.2.2.2.2.1, q13.2.2.2.2.2.2.2.2.2.2.2.1, q13.2.2.2.2.2.2.2.2.2.2.2.2.1, q13.2.2.2.2.2.2.2.2.2.2.2.2.2.1, q13.2.2.2.2.2.2.2.2.2.2.2.2.2.2.1, q13.2.2.2.2.2.2.2.2.2.2.2.2.2.2.2.1, q13.2.2.2.2.2.2.2.2.2.2.2.2.2.2.2.2.1, q13.2.2.2.2.2.2.2.2.2.2.2.2.2.2.2.2.2.1, q13.2.2.2.2.2.2.2.2.2.2.2.2.2.2.2.2.2.2) hF _ _ ls hP hD hS (lv_sub hl [0, 1] rfl)
def rm_X7_puts : Room := { frames := 0, cells := 0, slots := 0, locals := 0 }
set_option maxRecDepth 100000 in
set_option maxHeartbeats 4000000 in
theorem c_X7_puts (l : Launch) (Z : zZ) (Am : Nat → Nat) (M : t_Model) (p1 : Int32) (p2 : Int32) (p3 : Int32) (R : t_Model) (hF : X7_puts M p1 p2 p3 = some R) : zMU l yX7_puts (zw yX7_puts cX7_puts 4 none) rm_X7_puts Z [.ref (Am 0), .int p1, .int p2, .int p3] (w_Model Z.2.1 Am M) (w_Model Z.2.1 Am R) none := by
  refine zMU_of (by decide) (Nat.le_of_ble_eq_true rfl) (fun p e s m below meth c hx hb hr hml hown hts hlocks hK A hA Q hQ ls hl hP hD hS => ?_)
  unfold X7_puts at hF
  have hl : lv_has ls 4 [(0, .ref (Am 0)), (1, .int p1), (2, .int p2), (3, .int p3)] := hl
  have hown : s.vm.findClass RX7 = some m.cls := hown
  have hP : va_P Z.1 vwCl (l_Model Z.2.1 Am M.1 M.2.1 M.2.2.1 M.2.2.2.1 M.2.2.2.2.1 M.2.2.2.2.2.1 M.2.2.2.2.2.2.1 M.2.2.2.2.2.2.2.1 M.2.2.2.2.2.2.2.2.1 M.2.2.2.2.2.2.2.2.2.1 M.2.2.2.2.2.2.2.2.2.2.1 M.2.2.2.2.2.2.2.2.2.2.2.1 M.2.2.2.2.2.2.2.2.2.2.2.2.1 M.2.2.2.2.2.2.2.2.2.2.2.2.2.1 M.2.2.2.2.2.2.2.2.2.2.2.2.2.2.1 M.2.2.2.2.2.2.2.2.2.2.2.2.2.2.2.1 M.2.2.2.2.2.2.2.2.2.2.2.2.2.2.2.2.1 M.2.2.2.2.2.2.2.2.2.2.2.2.2.2.2.2.2.1 M.2.2.2.2.2.2.2.2.2.2.2.2.2.2.2.2.2.2).flatten s.heap := hP
  have hD : va_D A (l_Model Z.2.1 Am M.1 M.2.1 M.2.2.1 M.2.2.2.1 M.2.2.2.2.1 M.2.2.2.2.2.1 M.2.2.2.2.2.2.1 M.2.2.2.2.2.2.2.1 M.2.2.2.2.2.2.2.2.1 M.2.2.2.2.2.2.2.2.2.1 M.2.2.2.2.2.2.2.2.2.2.1 M.2.2.2.2.2.2.2.2.2.2.2.1 M.2.2.2.2.2.2.2.2.2.2.2.2.1 M.2.2.2.2.2.2.2.2.2.2.2.2.2.1 M.2.2.2.2.2.2.2.2.2.2.2.2.2.2.1 M.2.2.2.2.2.2.2.2.2.2.2.2.2.2.2.1 M.2.2.2.2.2.2.2.2.2.2.2.2.2.2.2.2.1 M.2.2.2.2.2.2.2.2.2.2.2.2.2.2.2.2.2.1 M.2.2.2.2.2.2.2.2.2.2.2.2.2.2.2.2.2.2).flatten := hD
  refine lv_aload_n hx hb (z_d hX7_puts_0 0 rfl) rfl (lv_at hl 0 rfl) ?_
  refine va_get (D := Z.1) (ci := 7) (v := .ref (Am 1)) (C := RX7) (T := TX7) (N := 19) hx hb hts zinX7 hown hK.1 (zP_reg hP 0 rfl) 0 rfl rfl 0 (by decide) (hts _ k_f_X7_7) (fun _ h9 => h9) rfl (z_d hX7_puts_0 1 rfl) ?_
  refine lv_iconst (v := 2) hx hb (z_d hX7_puts_0 2 rfl) (by decide) ?_
  refine lv_bipush (v := 9) hx hb (z_d hX7_puts_0 3 rfl) (by decide) ?_
  refine lv_iload_n hx hb (z_d hX7_puts_0 4 rfl) rfl (lv_at hl 1 rfl) ?_
  refine lv_imul hx hb (z_d hX7_puts_0 5 rfl) ?_
  refine z_let hF (fun u1 hu1 hF => ?_)
  refine lv_topE hu1 ?_
  refine lv_iadd hx hb (z_d hX7_puts_0 6 rfl) ?_
  refine z_let hF (fun u2 hu2 hF => ?_)
  refine lv_topE hu2 ?_
  refine lv_iload_n hx hb (z_d hX7_puts_0 7 rfl) rfl (lv_at hl 2 rfl) ?_
  refine lv_iadd hx hb (z_d hX7_puts_0 8 rfl) ?_
  refine z_let hF (fun u3 hu3 hF => ?_)
  refine lv_topE hu3 ?_
  refine lv_iload_n hx hb (z_d hX7_puts_0 9 rfl) rfl (lv_at hl 3 rfl) ?_
  refine z_ix hF (fun hin hF => ?_)
  refine z_let hF (fun g4 hg4 hF => ?_)
  refine z_iast (Z := Z) (L := l_Model Z.2.1 Am M.1 M.2.1 M.2.2.1 M.2.2.2.1 M.2.2.2.2.1 M.2.2.2.2.2.1 M.2.2.2.2.2.2.1 M.2.2.2.2.2.2.2.1 M.2.2.2.2.2.2.2.2.1 M.2.2.2.2.2.2.2.2.2.1 M.2.2.2.2.2.2.2.2.2.2.1 M.2.2.2.2.2.2.2.2.2.2.2.1 M.2.2.2.2.2.2.2.2.2.2.2.2.1 M.2.2.2.2.2.2.2.2.2.2.2.2.2.1 M.2.2.2.2.2.2.2.2.2.2.2.2.2.2.1 M.2.2.2.2.2.2.2.2.2.2.2.2.2.2.2.1 M.2.2.2.2.2.2.2.2.2.2.2.2.2.2.2.2.1 M.2.2.2.2.2.2.2.2.2.2.2.2.2.2.2.2.2.1 M.2.2.2.2.2.2.2.2.2.2.2.2.2.2.2.2.2.2) (L' := l_Model Z.2.1 Am g4 M.2.1 M.2.2.1 M.2.2.2.1 M.2.2.2.2.1 M.2.2.2.2.2.1 M.2.2.2.2.2.2.1 M.2.2.2.2.2.2.2.1 M.2.2.2.2.2.2.2.2.1 M.2.2.2.2.2.2.2.2.2.1 M.2.2.2.2.2.2.2.2.2.2.1 M.2.2.2.2.2.2.2.2.2.2.2.1 M.2.2.2.2.2.2.2.2.2.2.2.2.1 M.2.2.2.2.2.2.2.2.2.2.2.2.2.1 M.2.2.2.2.2.2.2.2.2.2.2.2.2.2.1 M.2.2.2.2.2.2.2.2.2.2.2.2.2.2.2.1 M.2.2.2.2.2.2.2.2.2.2.2.2.2.2.2.2.1 M.2.2.2.2.2.2.2.2.2.2.2.2.2.2.2.2.2.1 M.2.2.2.2.2.2.2.2.2.2.2.2.2.2.2.2.2.2) (f := M.1) hx hb hK hP hD hS 1 rfl hin hg4 rfl (z_d hX7_puts_0 10 rfl) (fun H locs hP hD hS => ?_)
  obtain rfl := Option.some.inj hF
  subst hQ
  subst hA
  exact W.vret hx hb hr (fun t ht hW => zq_mu (by rw [ht]; exact hP) (hS.F ht)) hS.2.2 (z_d hX7_puts_0 11 rfl)
def rm_X7_newPage : Room := { frames := 0, cells := 0, slots := 0, locals := 0 }
set_option maxRecDepth 100000 in
set_option maxHeartbeats 4000000 in
theorem c_X7_newPage (l : Launch) (Z : zZ) (Am : Nat → Nat) (M : t_Model) (R : t_Model) (hF : X7_newPage M = some R) : zMU l yX7_newPage (zw yX7_newPage cX7_newPage 1 none) rm_X7_newPage Z [.ref (Am 0)] (w_Model Z.2.1 Am M) (w_Model Z.2.1 Am R) none := by
  refine zMU_of (by decide) (Nat.le_of_ble_eq_true rfl) (fun p e s m below meth c hx hb hr hml hown hts hlocks hK A hA Q hQ ls hl hP hD hS => ?_)
  unfold X7_newPage at hF
  have hl : lv_has ls 1 [(0, .ref (Am 0))] := hl
  have hown : s.vm.findClass RX7 = some m.cls := hown
  have hP : va_P Z.1 vwCl (l_Model Z.2.1 Am M.1 M.2.1 M.2.2.1 M.2.2.2.1 M.2.2.2.2.1 M.2.2.2.2.2.1 M.2.2.2.2.2.2.1 M.2.2.2.2.2.2.2.1 M.2.2.2.2.2.2.2.2.1 M.2.2.2.2.2.2.2.2.2.1 M.2.2.2.2.2.2.2.2.2.2.1 M.2.2.2.2.2.2.2.2.2.2.2.1 M.2.2.2.2.2.2.2.2.2.2.2.2.1 M.2.2.2.2.2.2.2.2.2.2.2.2.2.1 M.2.2.2.2.2.2.2.2.2.2.2.2.2.2.1 M.2.2.2.2.2.2.2.2.2.2.2.2.2.2.2.1 M.2.2.2.2.2.2.2.2.2.2.2.2.2.2.2.2.1 M.2.2.2.2.2.2.2.2.2.2.2.2.2.2.2.2.2.1 M.2.2.2.2.2.2.2.2.2.2.2.2.2.2.2.2.2.2).flatten s.heap := hP
  have hD : va_D A (l_Model Z.2.1 Am M.1 M.2.1 M.2.2.1 M.2.2.2.1 M.2.2.2.2.1 M.2.2.2.2.2.1 M.2.2.2.2.2.2.1 M.2.2.2.2.2.2.2.1 M.2.2.2.2.2.2.2.2.1 M.2.2.2.2.2.2.2.2.2.1 M.2.2.2.2.2.2.2.2.2.2.1 M.2.2.2.2.2.2.2.2.2.2.2.1 M.2.2.2.2.2.2.2.2.2.2.2.2.1 M.2.2.2.2.2.2.2.2.2.2.2.2.2.1 M.2.2.2.2.2.2.2.2.2.2.2.2.2.2.1 M.2.2.2.2.2.2.2.2.2.2.2.2.2.2.2.1 M.2.2.2.2.2.2.2.2.2.2.2.2.2.2.2.2.1 M.2.2.2.2.2.2.2.2.2.2.2.2.2.2.2.2.2.1 M.2.2.2.2.2.2.2.2.2.2.2.2.2.2.2.2.2.2).flatten := hD
  refine lv_aload_n hx hb (z_d hX7_newPage_0 0 rfl) rfl (lv_at hl 0 rfl) ?_
  refine va_get (D := Z.1) (ci := 7) (v := .ref (Am 8)) (C := RX7) (T := TX7) (N := 19) hx hb hts zinX7 hown hK.1 (zP_reg hP 0 rfl) 0 rfl rfl 12 (by decide) (hts _ k_f_X7_31) (fun _ h9 => h9) rfl (z_d hX7_newPage_0 1 rfl) ?_
  refine lv_aload_n hx hb (z_d hX7_newPage_0 2 rfl) rfl (lv_at hl 0 rfl) ?_
  refine va_get (D := Z.1) (ci := 7) (v := .int M.2.2.2.2.2.2.2.1) (C := RX7) (T := TX7) (N := 19) hx hb hts zinX7 hown hK.1 (zP_reg hP 0 rfl) 0 rfl rfl 7 (by decide) (hts _ k_f_X7_101) (fun _ h9 => h9) rfl (z_d hX7_newPage_0 3 rfl) ?_
  refine lv_iconst (v := 0) hx hb (z_d hX7_newPage_0 4 rfl) (by decide) ?_
  refine z_ix hF (fun hin hF => ?_)
  refine z_let hF (fun g1 hg1 hF => ?_)
  refine z_iast (Z := Z) (L := l_Model Z.2.1 Am M.1 M.2.1 M.2.2.1 M.2.2.2.1 M.2.2.2.2.1 M.2.2.2.2.2.1 M.2.2.2.2.2.2.1 M.2.2.2.2.2.2.2.1 M.2.2.2.2.2.2.2.2.1 M.2.2.2.2.2.2.2.2.2.1 M.2.2.2.2.2.2.2.2.2.2.1 M.2.2.2.2.2.2.2.2.2.2.2.1 M.2.2.2.2.2.2.2.2.2.2.2.2.1 M.2.2.2.2.2.2.2.2.2.2.2.2.2.1 M.2.2.2.2.2.2.2.2.2.2.2.2.2.2.1 M.2.2.2.2.2.2.2.2.2.2.2.2.2.2.2.1 M.2.2.2.2.2.2.2.2.2.2.2.2.2.2.2.2.1 M.2.2.2.2.2.2.2.2.2.2.2.2.2.2.2.2.2.1 M.2.2.2.2.2.2.2.2.2.2.2.2.2.2.2.2.2.2) (L' := l_Model Z.2.1 Am M.1 M.2.1 M.2.2.1 M.2.2.2.1 M.2.2.2.2.1 M.2.2.2.2.2.1 M.2.2.2.2.2.2.1 M.2.2.2.2.2.2.2.1 M.2.2.2.2.2.2.2.2.1 M.2.2.2.2.2.2.2.2.2.1 M.2.2.2.2.2.2.2.2.2.2.1 M.2.2.2.2.2.2.2.2.2.2.2.1 g1 M.2.2.2.2.2.2.2.2.2.2.2.2.2.1 M.2.2.2.2.2.2.2.2.2.2.2.2.2.2.1 M.2.2.2.2.2.2.2.2.2.2.2.2.2.2.2.1 M.2.2.2.2.2.2.2.2.2.2.2.2.2.2.2.2.1 M.2.2.2.2.2.2.2.2.2.2.2.2.2.2.2.2.2.1 M.2.2.2.2.2.2.2.2.2.2.2.2.2.2.2.2.2.2) (f := M.2.2.2.2.2.2.2.2.2.2.2.2.1) hx hb hK hP hD hS 8 rfl hin hg1 rfl (z_d hX7_newPage_0 5 rfl) (fun H locs hP hD hS => ?_)
  refine lv_aload_n hx hb (z_d hX7_newPage_0 6 rfl) rfl (lv_at hl 0 rfl) ?_
  refine va_get (D := Z.1) (ci := 7) (v := .ref (Am 9)) (C := RX7) (T := TX7) (N := 19) hx hb hts zinX7 hown hK.1 (zP_reg hP 0 rfl) 0 rfl rfl 13 (by decide) (hts _ k_f_X7_34) (fun _ h9 => h9) rfl (z_d hX7_newPage_0 7 rfl) ?_
  refine lv_aload_n hx hb (z_d hX7_newPage_0 8 rfl) rfl (lv_at hl 0 rfl) ?_
  refine va_get (D := Z.1) (ci := 7) (v := .int M.2.2.2.2.2.2.2.1) (C := RX7) (T := TX7) (N := 19) hx hb hts zinX7 hown hK.1 (zP_reg hP 0 rfl) 0 rfl rfl 7 (by decide) (hts _ k_f_X7_101) (fun _ h9 => h9) rfl (z_d hX7_newPage_0 9 rfl) ?_
  refine lv_iconst (v := (-1)) hx hb (z_d hX7_newPage_0 10 rfl) (by decide) ?_
  refine z_ix hF (fun hin hF => ?_)
  refine z_let hF (fun g2 hg2 hF => ?_)
  refine z_iast (Z := Z) (L := l_Model Z.2.1 Am M.1 M.2.1 M.2.2.1 M.2.2.2.1 M.2.2.2.2.1 M.2.2.2.2.2.1 M.2.2.2.2.2.2.1 M.2.2.2.2.2.2.2.1 M.2.2.2.2.2.2.2.2.1 M.2.2.2.2.2.2.2.2.2.1 M.2.2.2.2.2.2.2.2.2.2.1 M.2.2.2.2.2.2.2.2.2.2.2.1 g1 M.2.2.2.2.2.2.2.2.2.2.2.2.2.1 M.2.2.2.2.2.2.2.2.2.2.2.2.2.2.1 M.2.2.2.2.2.2.2.2.2.2.2.2.2.2.2.1 M.2.2.2.2.2.2.2.2.2.2.2.2.2.2.2.2.1 M.2.2.2.2.2.2.2.2.2.2.2.2.2.2.2.2.2.1 M.2.2.2.2.2.2.2.2.2.2.2.2.2.2.2.2.2.2) (L' := l_Model Z.2.1 Am M.1 M.2.1 M.2.2.1 M.2.2.2.1 M.2.2.2.2.1 M.2.2.2.2.2.1 M.2.2.2.2.2.2.1 M.2.2.2.2.2.2.2.1 M.2.2.2.2.2.2.2.2.1 M.2.2.2.2.2.2.2.2.2.1 M.2.2.2.2.2.2.2.2.2.2.1 M.2.2.2.2.2.2.2.2.2.2.2.1 g1 g2 M.2.2.2.2.2.2.2.2.2.2.2.2.2.2.1 M.2.2.2.2.2.2.2.2.2.2.2.2.2.2.2.1 M.2.2.2.2.2.2.2.2.2.2.2.2.2.2.2.2.1 M.2.2.2.2.2.2.2.2.2.2.2.2.2.2.2.2.2.1 M.2.2.2.2.2.2.2.2.2.2.2.2.2.2.2.2.2.2) (f := M.2.2.2.2.2.2.2.2.2.2.2.2.2.1) hx hb hK hP hD hS 9 rfl hin hg2 rfl (z_d hX7_newPage_0 11 rfl) (fun H locs hP hD hS => ?_)
  refine lv_aload_n hx hb (z_d hX7_newPage_0 12 rfl) rfl (lv_at hl 0 rfl) ?_
  refine va_get (D := Z.1) (ci := 7) (v := .ref (Am 10)) (C := RX7) (T := TX7) (N := 19) hx hb hts zinX7 hown hK.1 (zP_reg hP 0 rfl) 0 rfl rfl 14 (by decide) (hts _ k_f_X7_37) (fun _ h9 => h9) rfl (z_d hX7_newPage_0 13 rfl) ?_
  refine lv_aload_n hx hb (z_d hX7_newPage_0 14 rfl) rfl (lv_at hl 0 rfl) ?_
  refine va_get (D := Z.1) (ci := 7) (v := .int M.2.2.2.2.2.2.2.1) (C := RX7) (T := TX7) (N := 19) hx hb hts zinX7 hown hK.1 (zP_reg hP 0 rfl) 0 rfl rfl 7 (by decide) (hts _ k_f_X7_101) (fun _ h9 => h9) rfl (z_d hX7_newPage_0 15 rfl) ?_
  refine lv_iconst (v := 0) hx hb (z_d hX7_newPage_0 16 rfl) (by decide) ?_
  refine z_ix hF (fun hin hF => ?_)
  refine z_let hF (fun g3 hg3 hF => ?_)
  refine z_iast (Z := Z) (L := l_Model Z.2.1 Am M.1 M.2.1 M.2.2.1 M.2.2.2.1 M.2.2.2.2.1 M.2.2.2.2.2.1 M.2.2.2.2.2.2.1 M.2.2.2.2.2.2.2.1 M.2.2.2.2.2.2.2.2.1 M.2.2.2.2.2.2.2.2.2.1 M.2.2.2.2.2.2.2.2.2.2.1 M.2.2.2.2.2.2.2.2.2.2.2.1 g1 g2 M.2.2.2.2.2.2.2.2.2.2.2.2.2.2.1 M.2.2.2.2.2.2.2.2.2.2.2.2.2.2.2.1 M.2.2.2.2.2.2.2.2.2.2.2.2.2.2.2.2.1 M.2.2.2.2.2.2.2.2.2.2.2.2.2.2.2.2.2.1 M.2.2.2.2.2.2.2.2.2.2.2.2.2.2.2.2.2.2) (L' := l_Model Z.2.1 Am M.1 M.2.1 M.2.2.1 M.2.2.2.1 M.2.2.2.2.1 M.2.2.2.2.2.1 M.2.2.2.2.2.2.1 M.2.2.2.2.2.2.2.1 M.2.2.2.2.2.2.2.2.1 M.2.2.2.2.2.2.2.2.2.1 M.2.2.2.2.2.2.2.2.2.2.1 M.2.2.2.2.2.2.2.2.2.2.2.1 g1 g2 g3 M.2.2.2.2.2.2.2.2.2.2.2.2.2.2.2.1 M.2.2.2.2.2.2.2.2.2.2.2.2.2.2.2.2.1 M.2.2.2.2.2.2.2.2.2.2.2.2.2.2.2.2.2.1 M.2.2.2.2.2.2.2.2.2.2.2.2.2.2.2.2.2.2) (f := M.2.2.2.2.2.2.2.2.2.2.2.2.2.2.1) hx hb hK hP hD hS 10 rfl hin hg3 rfl (z_d hX7_newPage_0 17 rfl) (fun H locs hP hD hS => ?_)
  refine lv_aload_n hx hb (z_d hX7_newPage_0 18 rfl) rfl (lv_at hl 0 rfl) ?_
  refine lv_dup hx hb (z_d hX7_newPage_0 19 rfl) rfl ?_
  refine va_get (D := Z.1) (ci := 7) (v := .int M.2.2.2.2.2.2.2.1) (C := RX7) (T := TX7) (N := 19) hx hb hts zinX7 hown hK.1 (zP_reg hP 0 rfl) 0 rfl rfl 7 (by decide) (hts _ k_f_X7_101) (fun _ h9 => h9) rfl (z_d hX7_newPage_0 20 rfl) ?_
  refine lv_iconst (v := 1) hx hb (z_d hX7_newPage_0 21 rfl) (by decide) ?_
  refine lv_iadd hx hb (z_d hX7_newPage_0 22 rfl) ?_
  refine z_let hF (fun u4 hu4 hF => ?_)
  refine lv_topE hu4 ?_
  refine z_put (Z := Z) (ci := 7) (v := .int u4) (ty := .int) (L := l_Model Z.2.1 Am M.1 M.2.1 M.2.2.1 M.2.2.2.1 M.2.2.2.2.1 M.2.2.2.2.2.1 M.2.2.2.2.2.2.1 M.2.2.2.2.2.2.2.1 M.2.2.2.2.2.2.2.2.1 M.2.2.2.2.2.2.2.2.2.1 M.2.2.2.2.2.2.2.2.2.2.1 M.2.2.2.2.2.2.2.2.2.2.2.1 g1 g2 g3 M.2.2.2.2.2.2.2.2.2.2.2.2.2.2.2.1 M.2.2.2.2.2.2.2.2.2.2.2.2.2.2.2.2.1 M.2.2.2.2.2.2.2.2.2.2.2.2.2.2.2.2.2.1 M.2.2.2.2.2.2.2.2.2.2.2.2.2.2.2.2.2.2) (L' := l_Model Z.2.1 Am M.1 M.2.1 M.2.2.1 M.2.2.2.1 M.2.2.2.2.1 M.2.2.2.2.2.1 M.2.2.2.2.2.2.1 u4 M.2.2.2.2.2.2.2.2.1 M.2.2.2.2.2.2.2.2.2.1 M.2.2.2.2.2.2.2.2.2.2.1 M.2.2.2.2.2.2.2.2.2.2.2.1 g1 g2 g3 M.2.2.2.2.2.2.2.2.2.2.2.2.2.2.2.1 M.2.2.2.2.2.2.2.2.2.2.2.2.2.2.2.2.1 M.2.2.2.2.2.2.2.2.2.2.2.2.2.2.2.2.2.1 M.2.2.2.2.2.2.2.2.2.2.2.2.2.2.2.2.2.2) (C := RX7) (T := TX7) (N := 19) hx hb hts zinX7 tyX7 tyX7_ok nmX7 hown hK hP hD hS 0 rfl rfl 7 (by decide) (hts _ k_f_X7_101) (fun _ h9 => h9) rfl (tyX7_ok 7 (by decide)) rfl rfl (Nat.le_of_ble_eq_true rfl) rfl (z_d hX7_newPage_0 23 rfl) (fun H locs hP hD hS => ?_)
  obtain rfl := Option.some.inj hF
  subst hQ
  subst hA
  exact W.vret hx hb hr (fun t ht hW => zq_mu (by rw [ht]; exact hP) (hS.F ht)) hS.2.2 (z_d hX7_newPage_0 24 rfl)
def rm_X7_sets : Room := { frames := 4, cells := 0, slots := 0, locals := 89 }
set_option maxRecDepth 100000 in
set_option maxHeartbeats 4000000 in
theorem c_X7_sets (l : Launch) (Z : zZ) (Am : Nat → Nat) (M : t_Model) (p1 : Int32) (p2 : Int32) (R : t_Model) (hF : X7_sets M p1 p2 = some R) : zMU l yX7_sets (zw yX7_sets cX7_sets 11 none) rm_X7_sets Z [.ref (Am 0), .int p1, .int p2] (w_Model Z.2.1 Am M) (w_Model Z.2.1 Am R) none := by
  refine zMU_of (by decide) (Nat.le_of_ble_eq_true rfl) (fun p e s m below meth c hx hb hr hml hown hts hlocks hK A hA Q hQ ls hl hP hD hS => ?_)
  unfold X7_sets at hF
  have hl : lv_has ls 11 [(0, .ref (Am 0)), (1, .int p1), (2, .int p2)] := hl
  have hown : s.vm.findClass RX7 = some m.cls := hown
  have hP : va_P Z.1 vwCl (l_Model Z.2.1 Am M.1 M.2.1 M.2.2.1 M.2.2.2.1 M.2.2.2.2.1 M.2.2.2.2.2.1 M.2.2.2.2.2.2.1 M.2.2.2.2.2.2.2.1 M.2.2.2.2.2.2.2.2.1 M.2.2.2.2.2.2.2.2.2.1 M.2.2.2.2.2.2.2.2.2.2.1 M.2.2.2.2.2.2.2.2.2.2.2.1 M.2.2.2.2.2.2.2.2.2.2.2.2.1 M.2.2.2.2.2.2.2.2.2.2.2.2.2.1 M.2.2.2.2.2.2.2.2.2.2.2.2.2.2.1 M.2.2.2.2.2.2.2.2.2.2.2.2.2.2.2.1 M.2.2.2.2.2.2.2.2.2.2.2.2.2.2.2.2.1 M.2.2.2.2.2.2.2.2.2.2.2.2.2.2.2.2.2.1 M.2.2.2.2.2.2.2.2.2.2.2.2.2.2.2.2.2.2).flatten s.heap := hP
  have hD : va_D A (l_Model Z.2.1 Am M.1 M.2.1 M.2.2.1 M.2.2.2.1 M.2.2.2.2.1 M.2.2.2.2.2.1 M.2.2.2.2.2.2.1 M.2.2.2.2.2.2.2.1 M.2.2.2.2.2.2.2.2.1 M.2.2.2.2.2.2.2.2.2.1 M.2.2.2.2.2.2.2.2.2.2.1 M.2.2.2.2.2.2.2.2.2.2.2.1 M.2.2.2.2.2.2.2.2.2.2.2.2.1 M.2.2.2.2.2.2.2.2.2.2.2.2.2.1 M.2.2.2.2.2.2.2.2.2.2.2.2.2.2.1 M.2.2.2.2.2.2.2.2.2.2.2.2.2.2.2.1 M.2.2.2.2.2.2.2.2.2.2.2.2.2.2.2.2.1 M.2.2.2.2.2.2.2.2.2.2.2.2.2.2.2.2.2.1 M.2.2.2.2.2.2.2.2.2.2.2.2.2.2.2.2.2.2).flatten := hD
  have J232 : ∀ (M : t_Model) (x3 : Int32) (x6 : Int32) (x7 : Int32) (x9 : Int32) (x10 : Int32) (z0 : Int32) (z1 : Int32) (hF : j_X7_sets_232 p1 p2 M x3 x6 x7 x9 x10 z0 z1 = some R) (H : Heap) (locs : List Loc) (ls : Array Slot) (hP : va_P Z.1 vwCl (l_Model Z.2.1 Am M.1 M.2.1 M.2.2.1 M.2.2.2.1 M.2.2.2.2.1 M.2.2.2.2.2.1 M.2.2.2.2.2.2.1 M.2.2.2.2.2.2.2.1 M.2.2.2.2.2.2.2.2.1 M.2.2.2.2.2.2.2.2.2.1 M.2.2.2.2.2.2.2.2.2.2.1 M.2.2.2.2.2.2.2.2.2.2.2.1 M.2.2.2.2.2.2.2.2.2.2.2.2.1 M.2.2.2.2.2.2.2.2.2.2.2.2.2.1 M.2.2.2.2.2.2.2.2.2.2.2.2.2.2.1 M.2.2.2.2.2.2.2.2.2.2.2.2.2.2.2.1 M.2.2.2.2.2.2.2.2.2.2.2.2.2.2.2.2.1 M.2.2.2.2.2.2.2.2.2.2.2.2.2.2.2.2.2.1 M.2.2.2.2.2.2.2.2.2.2.2.2.2.2.2.2.2.2).flatten H) (hD : va_D A (l_Model Z.2.1 Am M.1 M.2.1 M.2.2.1 M.2.2.2.1 M.2.2.2.2.1 M.2.2.2.2.2.1 M.2.2.2.2.2.2.1 M.2.2.2.2.2.2.2.1 M.2.2.2.2.2.2.2.2.1 M.2.2.2.2.2.2.2.2.2.1 M.2.2.2.2.2.2.2.2.2.2.1 M.2.2.2.2.2.2.2.2.2.2.2.1 M.2.2.2.2.2.2.2.2.2.2.2.2.1 M.2.2.2.2.2.2.2.2.2.2.2.2.2.1 M.2.2.2.2.2.2.2.2.2.2.2.2.2.2.1 M.2.2.2.2.2.2.2.2.2.2.2.2.2.2.2.1 M.2.2.2.2.2.2.2.2.2.2.2.2.2.2.2.2.1 M.2.2.2.2.2.2.2.2.2.2.2.2.2.2.2.2.2.1 M.2.2.2.2.2.2.2.2.2.2.2.2.2.2.2.2.2.2).flatten) (hS : va_S A s.heap H locs) (hl : lv_has ls 11 [(0, .ref (Am 0)), (1, .int p1), (2, .int p2), (3, .int x3), (6, .int x6), (7, .int x7), (9, .int x9), (10, .int x10)]), W p l e rm_X7_sets s m ([.ref (Am 0), .int p1, .int p2] : List Value).toArray below meth c H locs 0 0 Q (F0 m 232 ls [.int z0, .int z1, .ref (Am 9)]) := by
    intro M x3 x6 x7 x9 x10 z0 z1 hF H locs ls hP hD hS hl
    unfold j_X7_sets_232 at hF
    refine z_ix hF (fun hin hF => ?_)
    refine z_let hF (fun g21 hg21 hF => ?_)
    refine z_iast (Z := Z) (L := l_Model Z.2.1 Am M.1 M.2.1 M.2.2.1 M.2.2.2.1 M.2.2.2.2.1 M.2.2.2.2.2.1 M.2.2.2.2.2.2.1 M.2.2.2.2.2.2.2.1 M.2.2.2.2.2.2.2.2.1 M.2.2.2.2.2.2.2.2.2.1 M.2.2.2.2.2.2.2.2.2.2.1 M.2.2.2.2.2.2.2.2.2.2.2.1 M.2.2.2.2.2.2.2.2.2.2.2.2.1 M.2.2.2.2.2.2.2.2.2.2.2.2.2.1 M.2.2.2.2.2.2.2.2.2.2.2.2.2.2.1 M.2.2.2.2.2.2.2.2.2.2.2.2.2.2.2.1 M.2.2.2.2.2.2.2.2.2.2.2.2.2.2.2.2.1 M.2.2.2.2.2.2.2.2.2.2.2.2.2.2.2.2.2.1 M.2.2.2.2.2.2.2.2.2.2.2.2.2.2.2.2.2.2) (L' := l_Model Z.2.1 Am M.1 M.2.1 M.2.2.1 M.2.2.2.1 M.2.2.2.2.1 M.2.2.2.2.2.1 M.2.2.2.2.2.2.1 M.2.2.2.2.2.2.2.1 M.2.2.2.2.2.2.2.2.1 M.2.2.2.2.2.2.2.2.2.1 M.2.2.2.2.2.2.2.2.2.2.1 M.2.2.2.2.2.2.2.2.2.2.2.1 M.2.2.2.2.2.2.2.2.2.2.2.2.1 g21 M.2.2.2.2.2.2.2.2.2.2.2.2.2.2.1 M.2.2.2.2.2.2.2.2.2.2.2.2.2.2.2.1 M.2.2.2.2.2.2.2.2.2.2.2.2.2.2.2.2.1 M.2.2.2.2.2.2.2.2.2.2.2.2.2.2.2.2.2.1 M.2.2.2.2.2.2.2.2.2.2.2.2.2.2.2.2.2.2) (f := M.2.2.2.2.2.2.2.2.2.2.2.2.2.1) hx hb hK hP hD hS 9 rfl hin hg21 rfl (z_d hX7_sets_2 14 rfl) (fun H locs hP hD hS => ?_)
    refine lv_aload_n hx hb (z_d hX7_sets_2 15 rfl) rfl (lv_at hl 0 rfl) ?_
    refine va_get (D := Z.1) (ci := 7) (v := .ref (Am 10)) (C := RX7) (T := TX7) (N := 19) hx hb hts zinX7 hown hK.1 (zP_reg hP 0 rfl) 0 rfl rfl 14 (by decide) (hts _ k_f_X7_37) (fun _ h9 => h9) rfl (z_d hX7_sets_2 16 rfl) ?_
    refine lv_iload_n hx hb (z_d hX7_sets_2 17 rfl) rfl (lv_at hl 3 rfl) ?_
    refine lv_dup2_11 hx hb (z_d hX7_sets_2 18 rfl) rfl rfl ?_
    refine z_ix hF (fun hin hF => ?_)
    refine va_iald (D := Z.1) (f := M.2.2.2.2.2.2.2.2.2.2.2.2.2.2.1) hx hb hK.1 (zP_reg hP 10 rfl) 0 0 rfl rfl hin (z_d hX7_sets_2 19 rfl) ?_
    refine z_let hF (fun u22 hu22 hF => ?_)
    refine lv_topE hu22 ?_
    refine lv_iconst (v := 1) hx hb (z_d hX7_sets_2 20 rfl) (by decide) ?_
    refine lv_iadd hx hb (z_d hX7_sets_2 21 rfl) ?_
    refine z_let hF (fun u23 hu23 hF => ?_)
    refine lv_topE hu23 ?_
    refine z_ix hF (fun hin hF => ?_)
    refine z_let hF (fun g24 hg24 hF => ?_)
    refine z_iast (Z := Z) (L := l_Model Z.2.1 Am M.1 M.2.1 M.2.2.1 M.2.2.2.1 M.2.2.2.2.1 M.2.2.2.2.2.1 M.2.2.2.2.2.2.1 M.2.2.2.2.2.2.2.1 M.2.2.2.2.2.2.2.2.1 M.2.2.2.2.2.2.2.2.2.1 M.2.2.2.2.2.2.2.2.2.2.1 M.2.2.2.2.2.2.2.2.2.2.2.1 M.2.2.2.2.2.2.2.2.2.2.2.2.1 g21 M.2.2.2.2.2.2.2.2.2.2.2.2.2.2.1 M.2.2.2.2.2.2.2.2.2.2.2.2.2.2.2.1 M.2.2.2.2.2.2.2.2.2.2.2.2.2.2.2.2.1 M.2.2.2.2.2.2.2.2.2.2.2.2.2.2.2.2.2.1 M.2.2.2.2.2.2.2.2.2.2.2.2.2.2.2.2.2.2) (L' := l_Model Z.2.1 Am M.1 M.2.1 M.2.2.1 M.2.2.2.1 M.2.2.2.2.1 M.2.2.2.2.2.1 M.2.2.2.2.2.2.1 M.2.2.2.2.2.2.2.1 M.2.2.2.2.2.2.2.2.1 M.2.2.2.2.2.2.2.2.2.1 M.2.2.2.2.2.2.2.2.2.2.1 M.2.2.2.2.2.2.2.2.2.2.2.1 M.2.2.2.2.2.2.2.2.2.2.2.2.1 g21 g24 M.2.2.2.2.2.2.2.2.2.2.2.2.2.2.2.1 M.2.2.2.2.2.2.2.2.2.2.2.2.2.2.2.2.1 M.2.2.2.2.2.2.2.2.2.2.2.2.2.2.2.2.2.1 M.2.2.2.2.2.2.2.2.2.2.2.2.2.2.2.2.2.2) (f := M.2.2.2.2.2.2.2.2.2.2.2.2.2.2.1) hx hb hK hP hD hS 10 rfl hin hg24 rfl (z_d hX7_sets_2 22 rfl) (fun H locs hP hD hS => ?_)
    refine lv_aload_n hx hb (z_d hX7_sets_2 23 rfl) rfl (lv_at hl 0 rfl) ?_
    refine va_get (D := Z.1) (ci := 7) (v := .ref (Am 8)) (C := RX7) (T := TX7) (N := 19) hx hb hts zinX7 hown hK.1 (zP_reg hP 0 rfl) 0 rfl rfl 12 (by decide) (hts _ k_f_X7_31) (fun _ h9 => h9) rfl (z_d hX7_sets_2 24 rfl) ?_
    refine lv_iload_n hx hb (z_d hX7_sets_2 25 rfl) rfl (lv_at hl 3 rfl) ?_
    refine lv_iload hx hb (z_d hX7_sets_2 26 rfl) (lv_at hl 5 rfl) ?_
    refine lv_iload hx hb (z_d hX7_sets_2 27 rfl) (lv_at hl 7 rfl) ?_
    refine lv_iadd hx hb (z_d hX7_sets_2 28 rfl) ?_
    refine z_let hF (fun u25 hu25 hF => ?_)
    refine lv_topE hu25 ?_
    refine z_ix hF (fun hin hF => ?_)
    refine z_let hF (fun g26 hg26 hF => ?_)
    refine z_iast (Z := Z) (L := l_Model Z.2.1 Am M.1 M.2.1 M.2.2.1 M.2.2.2.1 M.2.2.2.2.1 M.2.2.2.2.2.1 M.2.2.2.2.2.2.1 M.2.2.2.2.2.2.2.1 M.2.2.2.2.2.2.2.2.1 M.2.2.2.2.2.2.2.2.2.1 M.2.2.2.2.2.2.2.2.2.2.1 M.2.2.2.2.2.2.2.2.2.2.2.1 M.2.2.2.2.2.2.2.2.2.2.2.2.1 g21 g24 M.2.2.2.2.2.2.2.2.2.2.2.2.2.2.2.1 M.2.2.2.2.2.2.2.2.2.2.2.2.2.2.2.2.1 M.2.2.2.2.2.2.2.2.2.2.2.2.2.2.2.2.2.1 M.2.2.2.2.2.2.2.2.2.2.2.2.2.2.2.2.2.2) (L' := l_Model Z.2.1 Am M.1 M.2.1 M.2.2.1 M.2.2.2.1 M.2.2.2.2.1 M.2.2.2.2.2.1 M.2.2.2.2.2.2.1 M.2.2.2.2.2.2.2.1 M.2.2.2.2.2.2.2.2.1 M.2.2.2.2.2.2.2.2.2.1 M.2.2.2.2.2.2.2.2.2.2.1 M.2.2.2.2.2.2.2.2.2.2.2.1 g26 g21 g24 M.2.2.2.2.2.2.2.2.2.2.2.2.2.2.2.1 M.2.2.2.2.2.2.2.2.2.2.2.2.2.2.2.2.1 M.2.2.2.2.2.2.2.2.2.2.2.2.2.2.2.2.2.1 M.2.2.2.2.2.2.2.2.2.2.2.2.2.2.2.2.2.2) (f := M.2.2.2.2.2.2.2.2.2.2.2.2.1) hx hb hK hP hD hS 8 rfl hin hg26 rfl (z_d hX7_sets_2 29 rfl) (fun H locs hP hD hS => ?_)
    refine lv_iload hx hb (z_d hX7_sets_2 30 rfl) (lv_at hl 7 rfl) ?_
    refine lv_iload hx hb (z_d hX7_sets_2 31 rfl) (lv_at hl 4 rfl) ?_
    refine lv_icmp_ge (tgt := 302) hx hb (z_d hX7_sets_2 32 rfl) (by decide) (fun hc258 => ?_) (fun hc258 => ?_)
    · have hF := z_pos hc258 hF
      obtain rfl := Option.some.inj hF
      subst hQ
      subst hA
      exact W.vret hx hb hr (fun t ht hW => zq_mu (by rw [ht]; exact hP) (hS.F ht)) hS.2.2 (z_d hX7_sets_3 0 rfl)
    · have hF := z_neg hc258 hF
      refine lv_aload_n hx hb (z_d hX7_sets_2 33 rfl) rfl (lv_at hl 0 rfl) ?_
      refine va_get (D := Z.1) (ci := 7) (v := .ref (Am 8)) (C := RX7) (T := TX7) (N := 19) hx hb hts zinX7 hown hK.1 (zP_reg hP 0 rfl) 0 rfl rfl 12 (by decide) (hts _ k_f_X7_31) (fun _ h9 => h9) rfl (z_d hX7_sets_2 34 rfl) ?_
      refine lv_iload_n hx hb (z_d hX7_sets_2 35 rfl) rfl (lv_at hl 3 rfl) ?_
      refine lv_dup2_11 hx hb (z_d hX7_sets_2 36 rfl) rfl rfl ?_
      refine z_ix hF (fun hin hF => ?_)
      refine va_iald (D := Z.1) (f := g26) hx hb hK.1 (zP_reg hP 8 rfl) 0 0 rfl rfl hin (z_d hX7_sets_2 37 rfl) ?_
      refine z_let hF (fun u27 hu27 hF => ?_)
      refine lv_topE hu27 ?_
      refine lv_iload hx hb (z_d hX7_sets_2 38 rfl) (lv_at hl 6 rfl) ?_
      refine lv_iadd hx hb (z_d hX7_sets_2 39 rfl) ?_
      refine z_let hF (fun u28 hu28 hF => ?_)
      refine lv_topE hu28 ?_
      refine z_ix hF (fun hin hF => ?_)
      refine z_let hF (fun g29 hg29 hF => ?_)
      refine z_iast (Z := Z) (L := l_Model Z.2.1 Am M.1 M.2.1 M.2.2.1 M.2.2.2.1 M.2.2.2.2.1 M.2.2.2.2.2.1 M.2.2.2.2.2.2.1 M.2.2.2.2.2.2.2.1 M.2.2.2.2.2.2.2.2.1 M.2.2.2.2.2.2.2.2.2.1 M.2.2.2.2.2.2.2.2.2.2.1 M.2.2.2.2.2.2.2.2.2.2.2.1 g26 g21 g24 M.2.2.2.2.2.2.2.2.2.2.2.2.2.2.2.1 M.2.2.2.2.2.2.2.2.2.2.2.2.2.2.2.2.1 M.2.2.2.2.2.2.2.2.2.2.2.2.2.2.2.2.2.1 M.2.2.2.2.2.2.2.2.2.2.2.2.2.2.2.2.2.2) (L' := l_Model Z.2.1 Am M.1 M.2.1 M.2.2.1 M.2.2.2.1 M.2.2.2.2.1 M.2.2.2.2.2.1 M.2.2.2.2.2.2.1 M.2.2.2.2.2.2.2.1 M.2.2.2.2.2.2.2.2.1 M.2.2.2.2.2.2.2.2.2.1 M.2.2.2.2.2.2.2.2.2.2.1 M.2.2.2.2.2.2.2.2.2.2.2.1 g29 g21 g24 M.2.2.2.2.2.2.2.2.2.2.2.2.2.2.2.1 M.2.2.2.2.2.2.2.2.2.2.2.2.2.2.2.2.1 M.2.2.2.2.2.2.2.2.2.2.2.2.2.2.2.2.2.1 M.2.2.2.2.2.2.2.2.2.2.2.2.2.2.2.2.2.2) (f := g26) hx hb hK hP hD hS 8 rfl hin hg29 rfl (z_d hX7_sets_2 40 rfl) (fun H locs hP hD hS => ?_)
      refine lv_aload_n hx hb (z_d hX7_sets_2 41 rfl) rfl (lv_at hl 0 rfl) ?_
      refine lv_dup hx hb (z_d hX7_sets_2 42 rfl) rfl ?_
      refine va_get (D := Z.1) (ci := 7) (v := .int M.2.2.2.2.2.2.2.2.1) (C := RX7) (T := TX7) (N := 19) hx hb hts zinX7 hown hK.1 (zP_reg hP 0 rfl) 0 rfl rfl 8 (by decide) (hts _ k_f_X7_110) (fun _ h9 => h9) rfl (z_d hX7_sets_2 43 rfl) ?_
      refine lv_iconst (v := 1) hx hb (z_d hX7_sets_2 44 rfl) (by decide) ?_
      refine lv_iadd hx hb (z_d hX7_sets_2 45 rfl) ?_
      refine z_let hF (fun u30 hu30 hF => ?_)
      refine lv_topE hu30 ?_
      refine z_put (Z := Z) (ci := 7) (v := .int u30) (ty := .int) (L := l_Model Z.2.1 Am M.1 M.2.1 M.2.2.1 M.2.2.2.1 M.2.2.2.2.1 M.2.2.2.2.2.1 M.2.2.2.2.2.2.1 M.2.2.2.2.2.2.2.1 M.2.2.2.2.2.2.2.2.1 M.2.2.2.2.2.2.2.2.2.1 M.2.2.2.2.2.2.2.2.2.2.1 M.2.2.2.2.2.2.2.2.2.2.2.1 g29 g21 g24 M.2.2.2.2.2.2.2.2.2.2.2.2.2.2.2.1 M.2.2.2.2.2.2.2.2.2.2.2.2.2.2.2.2.1 M.2.2.2.2.2.2.2.2.2.2.2.2.2.2.2.2.2.1 M.2.2.2.2.2.2.2.2.2.2.2.2.2.2.2.2.2.2) (L' := l_Model Z.2.1 Am M.1 M.2.1 M.2.2.1 M.2.2.2.1 M.2.2.2.2.1 M.2.2.2.2.2.1 M.2.2.2.2.2.2.1 M.2.2.2.2.2.2.2.1 u30 M.2.2.2.2.2.2.2.2.2.1 M.2.2.2.2.2.2.2.2.2.2.1 M.2.2.2.2.2.2.2.2.2.2.2.1 g29 g21 g24 M.2.2.2.2.2.2.2.2.2.2.2.2.2.2.2.1 M.2.2.2.2.2.2.2.2.2.2.2.2.2.2.2.2.1 M.2.2.2.2.2.2.2.2.2.2.2.2.2.2.2.2.2.1 M.2.2.2.2.2.2.2.2.2.2.2.2.2.2.2.2.2.2) (C := RX7) (T := TX7) (N := 19) hx hb hts zinX7 tyX7 tyX7_ok nmX7 hown hK hP hD hS 0 rfl rfl 8 (by decide) (hts _ k_f_X7_110) (fun _ h9 => h9) rfl (tyX7_ok 8 (by decide)) rfl rfl (Nat.le_of_ble_eq_true rfl) rfl (z_d hX7_sets_2 46 rfl) (fun H locs hP hD hS => ?_)
      refine lv_aload_n hx hb (z_d hX7_sets_2 47 rfl) rfl (lv_at hl 0 rfl) ?_
      refine z_bnd hF (fun q31 hq31 hF => ?_)
      refine z_mu0 (z_rV (As := []) (rest := []) hx hb hml hown hts vt_X7_newPage (c_X7_newPage l Z Am (M.1, M.2.1, M.2.2.1, M.2.2.2.1, M.2.2.2.2.1, M.2.2.2.2.2.1, M.2.2.2.2.2.2.1, M.2.2.2.2.2.2.2.1, u30, M.2.2.2.2.2.2.2.2.2.1, M.2.2.2.2.2.2.2.2.2.2.1, M.2.2.2.2.2.2.2.2.2.2.2.1, g29, g21, g24, M.2.2.2.2.2.2.2.2.2.2.2.2.2.2.2.1, M.2.2.2.2.2.2.2.2.2.2.2.2.2.2.2.2.1, M.2.2.2.2.2.2.2.2.2.2.2.2.2.2.2.2.2.1, M.2.2.2.2.2.2.2.2.2.2.2.2.2.2.2.2.2.2) _ hq31) rfl rfl ⟨Nat.le_of_ble_eq_true rfl, Nat.le_of_ble_eq_true rfl⟩ k_m_X7_107 zPmu_blind (z_recv (q := (RX7, TX7, 19)) (ci := 7) (q0 := 0) hK (zP_reg hP 0 rfl) rfl rfl) (z_prem hK hP hD) rfl hl.1 (Nat.le_of_ble_eq_true rfl) (z_d hX7_sets_2 48 rfl) ⟨Nat.zero_le _, Nat.zero_le _⟩) hS hD (adr_Model _ _ _ _) (fun H locs hP hD hS => ?_)
      have hP : va_P Z.1 vwCl (l_Model Z.2.1 Am q31.1 q31.2.1 q31.2.2.1 q31.2.2.2.1 q31.2.2.2.2.1 q31.2.2.2.2.2.1 q31.2.2.2.2.2.2.1 q31.2.2.2.2.2.2.2.1 q31.2.2.2.2.2.2.2.2.1 q31.2.2.2.2.2.2.2.2.2.1 q31.2.2.2.2.2.2.2.2.2.2.1 q31.2.2.2.2.2.2.2.2.2.2.2.1 q31.2.2.2.2.2.2.2.2.2.2.2.2.1 q31.2.2.2.2.2.2.2.2.2.2.2.2.2.1 q31.2.2.2.2.2.2.2.2.2.2.2.2.2.2.1 q31.2.2.2.2.2.2.2.2.2.2.2.2.2.2.2.1 q31.2.2.2.2.2.2.2.2.2.2.2.2.2.2.2.2.1 q31.2.2.2.2.2.2.2.2.2.2.2.2.2.2.2.2.2.1 q31.2.2.2.2.2.2.2.2.2.2.2.2.2.2.2.2.2.2).flatten H := hP
      have hD : va_D A (l_Model Z.2.1 Am q31.1 q31.2.1 q31.2.2.1 q31.2.2.2.1 q31.2.2.2.2.1 q31.2.2.2.2.2.1 q31.2.2.2.2.2.2.1 q31.2.2.2.2.2.2.2.1 q31.2.2.2.2.2.2.2.2.1 q31.2.2.2.2.2.2.2.2.2.1 q31.2.2.2.2.2.2.2.2.2.2.1 q31.2.2.2.2.2.2.2.2.2.2.2.1 q31.2.2.2.2.2.2.2.2.2.2.2.2.1 q31.2.2.2.2.2.2.2.2.2.2.2.2.2.1 q31.2.2.2.2.2.2.2.2.2.2.2.2.2.2.1 q31.2.2.2.2.2.2.2.2.2.2.2.2.2.2.2.1 q31.2.2.2.2.2.2.2.2.2.2.2.2.2.2.2.2.1 q31.2.2.2.2.2.2.2.2.2.2.2.2.2.2.2.2.2.1 q31.2.2.2.2.2.2.2.2.2.2.2.2.2.2.2.2.2.2).flatten := hD
      refine W.eq (g2 := F0 m 286 ls []) rfl ?_
      refine lv_aload_n hx hb (z_d hX7_sets_2 49 rfl) rfl (lv_at hl 0 rfl) ?_
      refine va_get (D := Z.1) (ci := 7) (v := .ref (Am 8)) (C := RX7) (T := TX7) (N := 19) hx hb hts zinX7 hown hK.1 (zP_reg hP 0 rfl) 0 rfl rfl 12 (by decide) (hts _ k_f_X7_31) (fun _ h9 => h9) rfl (z_d hX7_sets_2 50 rfl) ?_
      refine lv_iload_n hx hb (z_d hX7_sets_2 51 rfl) rfl (lv_at hl 3 rfl) ?_
      refine lv_iconst (v := 1) hx hb (z_d hX7_sets_2 52 rfl) (by decide) ?_
      refine lv_iadd hx hb (z_d hX7_sets_2 53 rfl) ?_
      refine z_let hF (fun u32 hu32 hF => ?_)
      refine lv_topE hu32 ?_
      refine lv_iload hx hb (z_d hX7_sets_2 54 rfl) (lv_at hl 4 rfl) ?_
      refine lv_iload hx hb (z_d hX7_sets_2 55 rfl) (lv_at hl 7 rfl) ?_
      refine lv_isub hx hb (z_d hX7_sets_2 56 rfl) ?_
      refine z_let hF (fun u33 hu33 hF => ?_)
      refine lv_topE hu33 ?_
      refine lv_iload hx hb (z_d hX7_sets_2 57 rfl) (lv_at hl 6 rfl) ?_
      refine lv_iadd hx hb (z_d hX7_sets_2 58 rfl) ?_
      refine z_let hF (fun u34 hu34 hF => ?_)
      refine lv_topE hu34 ?_
      refine z_ix hF (fun hin hF => ?_)
      refine z_let hF (fun g35 hg35 hF => ?_)
      refine z_iast (Z := Z) (L := l_Model Z.2.1 Am q31.1 q31.2.1 q31.2.2.1 q31.2.2.2.1 q31.2.2.2.2.1 q31.2.2.2.2.2.1 q31.2.2.2.2.2.2.1 q31.2.2.2.2.2.2.2.1 q31.2.2.2.2.2.2.2.2.1 q31.2.2.2.2.2.2.2.2.2.1 q31.2.2.2.2.2.2.2.2.2.2.1 q31.2.2.2.2.2.2.2.2.2.2.2.1 q31.2.2.2.2.2.2.2.2.2.2.2.2.1 q31.2.2.2.2.2.2.2.2.2.2.2.2.2.1 q31.2.2.2.2.2.2.2.2.2.2.2.2.2.2.1 q31.2.2.2.2.2.2.2.2.2.2.2.2.2.2.2.1 q31.2.2.2.2.2.2.2.2.2.2.2.2.2.2.2.2.1 q31.2.2.2.2.2.2.2.2.2.2.2.2.2.2.2.2.2.1 q31.2.2.2.2.2.2.2.2.2.2.2.2.2.2.2.2.2.2) (L' := l_Model Z.2.1 Am q31.1 q31.2.1 q31.2.2.1 q31.2.2.2.1 q31.2.2.2.2.1 q31.2.2.2.2.2.1 q31.2.2.2.2.2.2.1 q31.2.2.2.2.2.2.2.1 q31.2.2.2.2.2.2.2.2.1 q31.2.2.2.2.2.2.2.2.2.1 q31.2.2.2.2.2.2.2.2.2.2.1 q31.2.2.2.2.2.2.2.2.2.2.2.1 g35 q31.2.2.2.2.2.2.2.2.2.2.2.2.2.1 q31.2.2.2.2.2.2.2.2.2.2.2.2.2.2.1 q31.2.2.2.2.2.2.2.2.2.2.2.2.2.2.2.1 q31.2.2.2.2.2.2.2.2.2.2.2.2.2.2.2.2.1 q31.2.2.2.2.2.2.2.2.2.2.2.2.2.2.2.2.2.1 q31.2.2.2.2.2.2.2.2.2.2.2.2.2.2.2.2.2.2) (f := q31.2.2.2.2.2.2.2.2.2.2.2.2.1) hx hb hK hP hD hS 8 rfl hin hg35 rfl (z_d hX7_sets_2 59 rfl) (fun H locs hP hD hS => ?_)
      obtain rfl := Option.some.inj hF
      subst hQ
      subst hA
      exact W.vret hx hb hr (fun t ht hW => zq_mu (by rw [ht]; exact hP) (hS.F ht)) hS.2.2 (z_d hX7_sets_3 0 rfl)
  have J182 : ∀ (M : t_Model) (x3 : Int32) (x6 : Int32) (x7 : Int32) (x9 : Int32) (z0 : Int32) (hF : j_X7_sets_182 p1 p2 M x3 x6 x7 x9 z0 = some R) (H : Heap) (locs : List Loc) (ls : Array Slot) (hP : va_P Z.1 vwCl (l_Model Z.2.1 Am M.1 M.2.1 M.2.2.1 M.2.2.2.1 M.2.2.2.2.1 M.2.2.2.2.2.1 M.2.2.2.2.2.2.1 M.2.2.2.2.2.2.2.1 M.2.2.2.2.2.2.2.2.1 M.2.2.2.2.2.2.2.2.2.1 M.2.2.2.2.2.2.2.2.2.2.1 M.2.2.2.2.2.2.2.2.2.2.2.1 M.2.2.2.2.2.2.2.2.2.2.2.2.1 M.2.2.2.2.2.2.2.2.2.2.2.2.2.1 M.2.2.2.2.2.2.2.2.2.2.2.2.2.2.1 M.2.2.2.2.2.2.2.2.2.2.2.2.2.2.2.1 M.2.2.2.2.2.2.2.2.2.2.2.2.2.2.2.2.1 M.2.2.2.2.2.2.2.2.2.2.2.2.2.2.2.2.2.1 M.2.2.2.2.2.2.2.2.2.2.2.2.2.2.2.2.2.2).flatten H) (hD : va_D A (l_Model Z.2.1 Am M.1 M.2.1 M.2.2.1 M.2.2.2.1 M.2.2.2.2.1 M.2.2.2.2.2.1 M.2.2.2.2.2.2.1 M.2.2.2.2.2.2.2.1 M.2.2.2.2.2.2.2.2.1 M.2.2.2.2.2.2.2.2.2.1 M.2.2.2.2.2.2.2.2.2.2.1 M.2.2.2.2.2.2.2.2.2.2.2.1 M.2.2.2.2.2.2.2.2.2.2.2.2.1 M.2.2.2.2.2.2.2.2.2.2.2.2.2.1 M.2.2.2.2.2.2.2.2.2.2.2.2.2.2.1 M.2.2.2.2.2.2.2.2.2.2.2.2.2.2.2.1 M.2.2.2.2.2.2.2.2.2.2.2.2.2.2.2.2.1 M.2.2.2.2.2.2.2.2.2.2.2.2.2.2.2.2.2.1 M.2.2.2.2.2.2.2.2.2.2.2.2.2.2.2.2.2.2).flatten) (hS : va_S A s.heap H locs) (hl : lv_has ls 11 [(0, .ref (Am 0)), (1, .int p1), (2, .int p2), (3, .int x3), (6, .int x6), (7, .int x7), (9, .int x9)]), W p l e rm_X7_sets s m ([.ref (Am 0), .int p1, .int p2] : List Value).toArray below meth c H locs 0 0 Q (F0 m 182 ls [.int z0]) := by
    intro M x3 x6 x7 x9 z0 hF H locs ls hP hD hS hl
    unfold j_X7_sets_182 at hF
    refine lv_istore (lv' := [(10, .int z0), (0, .ref (Am 0)), (1, .int p1), (2, .int p2), (3, .int x3), (6, .int x6), (7, .int x7), (9, .int x9)]) hx hb (z_d hX7_sets_1 43 rfl) hl (by decide) rfl (fun ls hl => ?_)
    refine lv_aload_n hx hb (z_d hX7_sets_1 44 rfl) rfl (lv_at hl 1 rfl) ?_
    refine va_get (D := Z.1) (ci := 7) (v := .ref (Am 5)) (C := RX7) (T := TX7) (N := 19) hx hb hts zinX7 hown hK.1 (zP_reg hP 0 rfl) 0 rfl rfl 9 (by decide) (hts _ k_f_X7_22) (fun _ h9 => h9) rfl (z_d hX7_sets_1 45 rfl) ?_
    refine lv_iload_n hx hb (z_d hX7_sets_1 46 rfl) rfl (lv_at hl 2 rfl) ?_
    refine lv_iload_n hx hb (z_d hX7_sets_1 47 rfl) rfl (lv_at hl 4 rfl) ?_
    refine z_ix hF (fun hin hF => ?_)
    refine z_let hF (fun g16 hg16 hF => ?_)
    refine z_iast (Z := Z) (L := l_Model Z.2.1 Am M.1 M.2.1 M.2.2.1 M.2.2.2.1 M.2.2.2.2.1 M.2.2.2.2.2.1 M.2.2.2.2.2.2.1 M.2.2.2.2.2.2.2.1 M.2.2.2.2.2.2.2.2.1 M.2.2.2.2.2.2.2.2.2.1 M.2.2.2.2.2.2.2.2.2.2.1 M.2.2.2.2.2.2.2.2.2.2.2.1 M.2.2.2.2.2.2.2.2.2.2.2.2.1 M.2.2.2.2.2.2.2.2.2.2.2.2.2.1 M.2.2.2.2.2.2.2.2.2.2.2.2.2.2.1 M.2.2.2.2.2.2.2.2.2.2.2.2.2.2.2.1 M.2.2.2.2.2.2.2.2.2.2.2.2.2.2.2.2.1 M.2.2.2.2.2.2.2.2.2.2.2.2.2.2.2.2.2.1 M.2.2.2.2.2.2.2.2.2.2.2.2.2.2.2.2.2.2) (L' := l_Model Z.2.1 Am M.1 M.2.1 M.2.2.1 M.2.2.2.1 M.2.2.2.2.1 M.2.2.2.2.2.1 M.2.2.2.2.2.2.1 M.2.2.2.2.2.2.2.1 M.2.2.2.2.2.2.2.2.1 g16 M.2.2.2.2.2.2.2.2.2.2.1 M.2.2.2.2.2.2.2.2.2.2.2.1 M.2.2.2.2.2.2.2.2.2.2.2.2.1 M.2.2.2.2.2.2.2.2.2.2.2.2.2.1 M.2.2.2.2.2.2.2.2.2.2.2.2.2.2.1 M.2.2.2.2.2.2.2.2.2.2.2.2.2.2.2.1 M.2.2.2.2.2.2.2.2.2.2.2.2.2.2.2.2.1 M.2.2.2.2.2.2.2.2.2.2.2.2.2.2.2.2.2.1 M.2.2.2.2.2.2.2.2.2.2.2.2.2.2.2.2.2.2) (f := M.2.2.2.2.2.2.2.2.2.1) hx hb hK hP hD hS 5 rfl hin hg16 rfl (z_d hX7_sets_1 48 rfl) (fun H locs hP hD hS => ?_)
    refine lv_aload_n hx hb (z_d hX7_sets_1 49 rfl) rfl (lv_at hl 1 rfl) ?_
    refine va_get (D := Z.1) (ci := 7) (v := .ref (Am 6)) (C := RX7) (T := TX7) (N := 19) hx hb hts zinX7 hown hK.1 (zP_reg hP 0 rfl) 0 rfl rfl 10 (by decide) (hts _ k_f_X7_25) (fun _ h9 => h9) rfl (z_d hX7_sets_1 50 rfl) ?_
    refine lv_iload_n hx hb (z_d hX7_sets_1 51 rfl) rfl (lv_at hl 2 rfl) ?_
    refine lv_iload hx hb (z_d hX7_sets_1 52 rfl) (lv_at hl 6 rfl) ?_
    refine z_ix hF (fun hin hF => ?_)
    refine z_let hF (fun g17 hg17 hF => ?_)
    refine z_iast (Z := Z) (L := l_Model Z.2.1 Am M.1 M.2.1 M.2.2.1 M.2.2.2.1 M.2.2.2.2.1 M.2.2.2.2.2.1 M.2.2.2.2.2.2.1 M.2.2.2.2.2.2.2.1 M.2.2.2.2.2.2.2.2.1 g16 M.2.2.2.2.2.2.2.2.2.2.1 M.2.2.2.2.2.2.2.2.2.2.2.1 M.2.2.2.2.2.2.2.2.2.2.2.2.1 M.2.2.2.2.2.2.2.2.2.2.2.2.2.1 M.2.2.2.2.2.2.2.2.2.2.2.2.2.2.1 M.2.2.2.2.2.2.2.2.2.2.2.2.2.2.2.1 M.2.2.2.2.2.2.2.2.2.2.2.2.2.2.2.2.1 M.2.2.2.2.2.2.2.2.2.2.2.2.2.2.2.2.2.1 M.2.2.2.2.2.2.2.2.2.2.2.2.2.2.2.2.2.2) (L' := l_Model Z.2.1 Am M.1 M.2.1 M.2.2.1 M.2.2.2.1 M.2.2.2.2.1 M.2.2.2.2.2.1 M.2.2.2.2.2.2.1 M.2.2.2.2.2.2.2.1 M.2.2.2.2.2.2.2.2.1 g16 g17 M.2.2.2.2.2.2.2.2.2.2.2.1 M.2.2.2.2.2.2.2.2.2.2.2.2.1 M.2.2.2.2.2.2.2.2.2.2.2.2.2.1 M.2.2.2.2.2.2.2.2.2.2.2.2.2.2.1 M.2.2.2.2.2.2.2.2.2.2.2.2.2.2.2.1 M.2.2.2.2.2.2.2.2.2.2.2.2.2.2.2.2.1 M.2.2.2.2.2.2.2.2.2.2.2.2.2.2.2.2.2.1 M.2.2.2.2.2.2.2.2.2.2.2.2.2.2.2.2.2.2) (f := M.2.2.2.2.2.2.2.2.2.2.1) hx hb hK hP hD hS 6 rfl hin hg17 rfl (z_d hX7_sets_1 53 rfl) (fun H locs hP hD hS => ?_)
    refine lv_aload_n hx hb (z_d hX7_sets_1 54 rfl) rfl (lv_at hl 1 rfl) ?_
    refine va_get (D := Z.1) (ci := 7) (v := .ref (Am 7)) (C := RX7) (T := TX7) (N := 19) hx hb hts zinX7 hown hK.1 (zP_reg hP 0 rfl) 0 rfl rfl 11 (by decide) (hts _ k_f_X7_28) (fun _ h9 => h9) rfl (z_d hX7_sets_1 55 rfl) ?_
    refine lv_iload_n hx hb (z_d hX7_sets_1 56 rfl) rfl (lv_at hl 2 rfl) ?_
    refine lv_iload hx hb (z_d hX7_sets_1 57 rfl) (lv_at hl 0 rfl) ?_
    refine z_ix hF (fun hin hF => ?_)
    refine z_let hF (fun g18 hg18 hF => ?_)
    refine z_iast (Z := Z) (L := l_Model Z.2.1 Am M.1 M.2.1 M.2.2.1 M.2.2.2.1 M.2.2.2.2.1 M.2.2.2.2.2.1 M.2.2.2.2.2.2.1 M.2.2.2.2.2.2.2.1 M.2.2.2.2.2.2.2.2.1 g16 g17 M.2.2.2.2.2.2.2.2.2.2.2.1 M.2.2.2.2.2.2.2.2.2.2.2.2.1 M.2.2.2.2.2.2.2.2.2.2.2.2.2.1 M.2.2.2.2.2.2.2.2.2.2.2.2.2.2.1 M.2.2.2.2.2.2.2.2.2.2.2.2.2.2.2.1 M.2.2.2.2.2.2.2.2.2.2.2.2.2.2.2.2.1 M.2.2.2.2.2.2.2.2.2.2.2.2.2.2.2.2.2.1 M.2.2.2.2.2.2.2.2.2.2.2.2.2.2.2.2.2.2) (L' := l_Model Z.2.1 Am M.1 M.2.1 M.2.2.1 M.2.2.2.1 M.2.2.2.2.1 M.2.2.2.2.2.1 M.2.2.2.2.2.2.1 M.2.2.2.2.2.2.2.1 M.2.2.2.2.2.2.2.2.1 g16 g17 g18 M.2.2.2.2.2.2.2.2.2.2.2.2.1 M.2.2.2.2.2.2.2.2.2.2.2.2.2.1 M.2.2.2.2.2.2.2.2.2.2.2.2.2.2.1 M.2.2.2.2.2.2.2.2.2.2.2.2.2.2.2.1 M.2.2.2.2.2.2.2.2.2.2.2.2.2.2.2.2.1 M.2.2.2.2.2.2.2.2.2.2.2.2.2.2.2.2.2.1 M.2.2.2.2.2.2.2.2.2.2.2.2.2.2.2.2.2.2) (f := M.2.2.2.2.2.2.2.2.2.2.2.1) hx hb hK hP hD hS 7 rfl hin hg18 rfl (z_d hX7_sets_1 58 rfl) (fun H locs hP hD hS => ?_)
    refine lv_aload_n hx hb (z_d hX7_sets_1 59 rfl) rfl (lv_at hl 1 rfl) ?_
    refine va_get (D := Z.1) (ci := 7) (v := .ref (Am 9)) (C := RX7) (T := TX7) (N := 19) hx hb hts zinX7 hown hK.1 (zP_reg hP 0 rfl) 0 rfl rfl 13 (by decide) (hts _ k_f_X7_34) (fun _ h9 => h9) rfl (z_d hX7_sets_2 0 rfl) ?_
    refine lv_iload_n hx hb (z_d hX7_sets_2 1 rfl) rfl (lv_at hl 4 rfl) ?_
    refine lv_aload_n hx hb (z_d hX7_sets_2 2 rfl) rfl (lv_at hl 1 rfl) ?_
    refine va_get (D := Z.1) (ci := 7) (v := .ref (Am 9)) (C := RX7) (T := TX7) (N := 19) hx hb hts zinX7 hown hK.1 (zP_reg hP 0 rfl) 0 rfl rfl 13 (by decide) (hts _ k_f_X7_34) (fun _ h9 => h9) rfl (z_d hX7_sets_2 3 rfl) ?_
    refine lv_iload_n hx hb (z_d hX7_sets_2 4 rfl) rfl (lv_at hl 4 rfl) ?_
    refine z_ix hF (fun hin hF => ?_)
    refine va_iald (D := Z.1) (f := M.2.2.2.2.2.2.2.2.2.2.2.2.2.1) hx hb hK.1 (zP_reg hP 9 rfl) 0 0 rfl rfl hin (z_d hX7_sets_2 5 rfl) ?_
    refine z_let hF (fun u19 hu19 hF => ?_)
    refine lv_topE hu19 ?_
    refine lv_iconst (v := (-1)) hx hb (z_d hX7_sets_2 6 rfl) (by decide) ?_
    refine lv_icmp_ne (tgt := 226) hx hb (z_d hX7_sets_2 7 rfl) (by decide) (fun hc219 => ?_) (fun hc219 => ?_)
    · have hF := z_neg hc219 hF
      refine lv_aload_n hx hb (z_d hX7_sets_2 10 rfl) rfl (lv_at hl 1 rfl) ?_
      refine va_get (D := Z.1) (ci := 7) (v := .ref (Am 9)) (C := RX7) (T := TX7) (N := 19) hx hb hts zinX7 hown hK.1 (zP_reg hP 0 rfl) 0 rfl rfl 13 (by decide) (hts _ k_f_X7_34) (fun _ h9 => h9) rfl (z_d hX7_sets_2 11 rfl) ?_
      refine lv_iload_n hx hb (z_d hX7_sets_2 12 rfl) rfl (lv_at hl 4 rfl) ?_
      refine z_ix hF (fun hin hF => ?_)
      refine va_iald (D := Z.1) (f := M.2.2.2.2.2.2.2.2.2.2.2.2.2.1) hx hb hK.1 (zP_reg hP 9 rfl) 0 0 rfl rfl hin (z_d hX7_sets_2 13 rfl) ?_
      refine z_let hF (fun u20 hu20 hF => ?_)
      refine lv_topE hu20 ?_
      exact J232 (M.1, M.2.1, M.2.2.1, M.2.2.2.1, M.2.2.2.2.1, M.2.2.2.2.2.1, M.2.2.2.2.2.2.1, M.2.2.2.2.2.2.2.1, M.2.2.2.2.2.2.2.2.1, g16, g17, g18, M.2.2.2.2.2.2.2.2.2.2.2.2.1, M.2.2.2.2.2.2.2.2.2.2.2.2.2.1, M.2.2.2.2.2.2.2.2.2.2.2.2.2.2.1, M.2.2.2.2.2.2.2.2.2.2.2.2.2.2.2.1, M.2.2.2.2.2.2.2.2.2.2.2.2.2.2.2.2.1, M.2.2.2.2.2.2.2.2.2.2.2.2.2.2.2.2.2.1, M.2.2.2.2.2.2.2.2.2.2.2.2.2.2.2.2.2.2) x3 x6 x7 x9 z0 u20 x3 hF _ _ ls hP hD hS (lv_sub hl [1, 2, 3, 4, 5, 6, 7, 0] rfl)
    · have hF := z_pos hc219 hF
      refine lv_iload_n hx hb (z_d hX7_sets_2 8 rfl) rfl (lv_at hl 2 rfl) ?_
      refine lv_goto (tgt := 232) hx hb (z_d hX7_sets_2 9 rfl) (by decide) ?_
      exact J232 (M.1, M.2.1, M.2.2.1, M.2.2.2.1, M.2.2.2.2.1, M.2.2.2.2.2.1, M.2.2.2.2.2.2.1, M.2.2.2.2.2.2.2.1, M.2.2.2.2.2.2.2.2.1, g16, g17, g18, M.2.2.2.2.2.2.2.2.2.2.2.2.1, M.2.2.2.2.2.2.2.2.2.2.2.2.2.1, M.2.2.2.2.2.2.2.2.2.2.2.2.2.2.1, M.2.2.2.2.2.2.2.2.2.2.2.2.2.2.2.1, M.2.2.2.2.2.2.2.2.2.2.2.2.2.2.2.2.1, M.2.2.2.2.2.2.2.2.2.2.2.2.2.2.2.2.2.1, M.2.2.2.2.2.2.2.2.2.2.2.2.2.2.2.2.2.2) x3 x6 x7 x9 z0 p1 x3 hF _ _ ls hP hD hS (lv_sub hl [1, 2, 3, 4, 5, 6, 7, 0] rfl)
  have J144 : ∀ (M : t_Model) (x3 : Int32) (x6 : Int32) (x7 : Int32) (x8 : Int32) (z0 : Int32) (hF : j_X7_sets_144 p1 p2 M x3 x6 x7 x8 z0 = some R) (H : Heap) (locs : List Loc) (ls : Array Slot) (hP : va_P Z.1 vwCl (l_Model Z.2.1 Am M.1 M.2.1 M.2.2.1 M.2.2.2.1 M.2.2.2.2.1 M.2.2.2.2.2.1 M.2.2.2.2.2.2.1 M.2.2.2.2.2.2.2.1 M.2.2.2.2.2.2.2.2.1 M.2.2.2.2.2.2.2.2.2.1 M.2.2.2.2.2.2.2.2.2.2.1 M.2.2.2.2.2.2.2.2.2.2.2.1 M.2.2.2.2.2.2.2.2.2.2.2.2.1 M.2.2.2.2.2.2.2.2.2.2.2.2.2.1 M.2.2.2.2.2.2.2.2.2.2.2.2.2.2.1 M.2.2.2.2.2.2.2.2.2.2.2.2.2.2.2.1 M.2.2.2.2.2.2.2.2.2.2.2.2.2.2.2.2.1 M.2.2.2.2.2.2.2.2.2.2.2.2.2.2.2.2.2.1 M.2.2.2.2.2.2.2.2.2.2.2.2.2.2.2.2.2.2).flatten H) (hD : va_D A (l_Model Z.2.1 Am M.1 M.2.1 M.2.2.1 M.2.2.2.1 M.2.2.2.2.1 M.2.2.2.2.2.1 M.2.2.2.2.2.2.1 M.2.2.2.2.2.2.2.1 M.2.2.2.2.2.2.2.2.1 M.2.2.2.2.2.2.2.2.2.1 M.2.2.2.2.2.2.2.2.2.2.1 M.2.2.2.2.2.2.2.2.2.2.2.1 M.2.2.2.2.2.2.2.2.2.2.2.2.1 M.2.2.2.2.2.2.2.2.2.2.2.2.2.1 M.2.2.2.2.2.2.2.2.2.2.2.2.2.2.1 M.2.2.2.2.2.2.2.2.2.2.2.2.2.2.2.1 M.2.2.2.2.2.2.2.2.2.2.2.2.2.2.2.2.1 M.2.2.2.2.2.2.2.2.2.2.2.2.2.2.2.2.2.1 M.2.2.2.2.2.2.2.2.2.2.2.2.2.2.2.2.2.2).flatten) (hS : va_S A s.heap H locs) (hl : lv_has ls 11 [(0, .ref (Am 0)), (1, .int p1), (2, .int p2), (3, .int x3), (6, .int x6), (7, .int x7), (8, .int x8)]), W p l e rm_X7_sets s m ([.ref (Am 0), .int p1, .int p2] : List Value).toArray below meth c H locs 0 0 Q (F0 m 144 ls [.int z0]) := by
    intro M x3 x6 x7 x8 z0 hF H locs ls hP hD hS hl
    unfold j_X7_sets_144 at hF
    refine lv_istore (lv' := [(9, .int z0), (0, .ref (Am 0)), (1, .int p1), (2, .int p2), (3, .int x3), (6, .int x6), (7, .int x7), (8, .int x8)]) hx hb (z_d hX7_sets_1 23 rfl) hl (by decide) rfl (fun ls hl => ?_)
    refine lv_iload hx hb (z_d hX7_sets_1 24 rfl) (lv_at hl 5 rfl) ?_
    refine lv_iload hx hb (z_d hX7_sets_1 25 rfl) (lv_at hl 7 rfl) ?_
    refine lv_icmp_gt (tgt := 158) hx hb (z_d hX7_sets_1 26 rfl) (by decide) (fun hc150 => ?_) (fun hc150 => ?_)
    · have hF := z_pos hc150 hF
      refine lv_iload hx hb (z_d hX7_sets_1 29 rfl) (lv_at hl 7 rfl) ?_
      refine lv_iload hx hb (z_d hX7_sets_1 30 rfl) (lv_at hl 0 rfl) ?_
      refine lv_isub hx hb (z_d hX7_sets_1 31 rfl) ?_
      refine z_let hF (fun u13 hu13 hF => ?_)
      refine lv_topE hu13 ?_
      refine lv_iload hx hb (z_d hX7_sets_1 32 rfl) (lv_at hl 5 rfl) ?_
      refine lv_iconst (v := 2) hx hb (z_d hX7_sets_1 33 rfl) (by decide) ?_
      refine lv_isub hx hb (z_d hX7_sets_1 34 rfl) ?_
      refine z_let hF (fun u14 hu14 hF => ?_)
      refine lv_topE hu14 ?_
      refine lv_icmp_ge (tgt := 178) hx hb (z_d hX7_sets_1 35 rfl) (by decide) (fun hc167 => ?_) (fun hc167 => ?_)
      · have hF := z_pos hc167 hF
        refine lv_iload hx hb (z_d hX7_sets_1 40 rfl) (lv_at hl 5 rfl) ?_
        refine lv_iconst (v := 2) hx hb (z_d hX7_sets_1 41 rfl) (by decide) ?_
        refine lv_isub hx hb (z_d hX7_sets_1 42 rfl) ?_
        refine z_let hF (fun u15 hu15 hF => ?_)
        refine lv_topE hu15 ?_
        exact J182 M x3 x6 x7 z0 u15 hF _ _ ls hP hD hS (lv_sub hl [1, 2, 3, 4, 5, 6, 0] rfl)
      · have hF := z_neg hc167 hF
        refine lv_iload hx hb (z_d hX7_sets_1 36 rfl) (lv_at hl 7 rfl) ?_
        refine lv_iload hx hb (z_d hX7_sets_1 37 rfl) (lv_at hl 0 rfl) ?_
        refine lv_isub hx hb (z_d hX7_sets_1 38 rfl) ?_
        refine z_let hF (fun u36 hu36 hF => ?_)
        refine lv_topE hu36 ?_
        refine lv_goto (tgt := 182) hx hb (z_d hX7_sets_1 39 rfl) (by decide) ?_
        exact J182 M x3 x6 x7 z0 u36 hF _ _ ls hP hD hS (lv_sub hl [1, 2, 3, 4, 5, 6, 0] rfl)
    · have hF := z_neg hc150 hF
      refine lv_iload hx hb (z_d hX7_sets_1 27 rfl) (lv_at hl 5 rfl) ?_
      refine lv_goto (tgt := 182) hx hb (z_d hX7_sets_1 28 rfl) (by decide) ?_
      exact J182 M x3 x6 x7 z0 x6 hF _ _ ls hP hD hS (lv_sub hl [1, 2, 3, 4, 5, 6, 0] rfl)
  have J121 : ∀ (M : t_Model) (x3 : Int32) (x6 : Int32) (z0 : Int32) (hF : j_X7_sets_121 p1 p2 M x3 x6 z0 = some R) (H : Heap) (locs : List Loc) (ls : Array Slot) (hP : va_P Z.1 vwCl (l_Model Z.2.1 Am M.1 M.2.1 M.2.2.1 M.2.2.2.1 M.2.2.2.2.1 M.2.2.2.2.2.1 M.2.2.2.2.2.2.1 M.2.2.2.2.2.2.2.1 M.2.2.2.2.2.2.2.2.1 M.2.2.2.2.2.2.2.2.2.1 M.2.2.2.2.2.2.2.2.2.2.1 M.2.2.2.2.2.2.2.2.2.2.2.1 M.2.2.2.2.2.2.2.2.2.2.2.2.1 M.2.2.2.2.2.2.2.2.2.2.2.2.2.1 M.2.2.2.2.2.2.2.2.2.2.2.2.2.2.1 M.2.2.2.2.2.2.2.2.2.2.2.2.2.2.2.1 M.2.2.2.2.2.2.2.2.2.2.2.2.2.2.2.2.1 M.2.2.2.2.2.2.2.2.2.2.2.2.2.2.2.2.2.1 M.2.2.2.2.2.2.2.2.2.2.2.2.2.2.2.2.2.2).flatten H) (hD : va_D A (l_Model Z.2.1 Am M.1 M.2.1 M.2.2.1 M.2.2.2.1 M.2.2.2.2.1 M.2.2.2.2.2.1 M.2.2.2.2.2.2.1 M.2.2.2.2.2.2.2.1 M.2.2.2.2.2.2.2.2.1 M.2.2.2.2.2.2.2.2.2.1 M.2.2.2.2.2.2.2.2.2.2.1 M.2.2.2.2.2.2.2.2.2.2.2.1 M.2.2.2.2.2.2.2.2.2.2.2.2.1 M.2.2.2.2.2.2.2.2.2.2.2.2.2.1 M.2.2.2.2.2.2.2.2.2.2.2.2.2.2.1 M.2.2.2.2.2.2.2.2.2.2.2.2.2.2.2.1 M.2.2.2.2.2.2.2.2.2.2.2.2.2.2.2.2.1 M.2.2.2.2.2.2.2.2.2.2.2.2.2.2.2.2.2.1 M.2.2.2.2.2.2.2.2.2.2.2.2.2.2.2.2.2.2).flatten) (hS : va_S A s.heap H locs) (hl : lv_has ls 11 [(0, .ref (Am 0)), (1, .int p1), (2, .int p2), (3, .int x3), (6, .int x6)]), W p l e rm_X7_sets s m ([.ref (Am 0), .int p1, .int p2] : List Value).toArray below meth c H locs 0 0 Q (F0 m 121 ls [.int z0]) := by
    intro M x3 x6 z0 hF H locs ls hP hD hS hl
    unfold j_X7_sets_121 at hF
    refine lv_istore (lv' := [(7, .int z0), (0, .ref (Am 0)), (1, .int p1), (2, .int p2), (3, .int x3), (6, .int x6)]) hx hb (z_d hX7_sets_1 9 rfl) hl (by decide) rfl (fun ls hl => ?_)
    refine lv_iload_n hx hb (z_d hX7_sets_1 10 rfl) rfl (lv_at hl 3 rfl) ?_
    refine lv_iload hx hb (z_d hX7_sets_1 11 rfl) (lv_at hl 0 rfl) ?_
    refine lv_isub hx hb (z_d hX7_sets_1 12 rfl) ?_
    refine z_let hF (fun u11 hu11 hF => ?_)
    refine lv_topE hu11 ?_
    refine lv_istore (lv' := [(8, .int u11), (7, .int z0), (0, .ref (Am 0)), (1, .int p1), (2, .int p2), (3, .int x3), (6, .int x6)]) hx hb (z_d hX7_sets_1 13 rfl) hl (by decide) rfl (fun ls hl => ?_)
    refine lv_aload_n hx hb (z_d hX7_sets_1 14 rfl) rfl (lv_at hl 2 rfl) ?_
    refine lv_iload_n hx hb (z_d hX7_sets_1 15 rfl) rfl (lv_at hl 3 rfl) ?_
    refine lv_iconst (v := 0) hx hb (z_d hX7_sets_1 16 rfl) (by decide) ?_
    refine z_bnd hF (fun q12 hq12 hF => ?_)
    refine z_ro_i (z_rV (As := [.int p1, .int 0]) (rest := []) hx hb hml hown hts vt_X7_of (c_X7_of l Z Am M p1 0 _ hq12) rfl rfl ⟨Nat.le_of_ble_eq_true rfl, Nat.le_of_ble_eq_true rfl⟩ k_m_X7_62 zPro_blind (z_recv (q := (RX7, TX7, 19)) (ci := 7) (q0 := 0) hK (zP_reg hP 0 rfl) rfl rfl) (z_prec hK hP) rfl hl.1 (Nat.le_of_ble_eq_true rfl) (z_d hX7_sets_1 17 rfl) ⟨Nat.zero_le _, Nat.zero_le _⟩) hS hP (fun H locs hP hS => ?_)
    refine lv_iconst (v := 3) hx hb (z_d hX7_sets_1 18 rfl) (by decide) ?_
    refine lv_icmp_ne (tgt := 143) hx hb (z_d hX7_sets_1 19 rfl) (by decide) (fun hc136 => ?_) (fun hc136 => ?_)
    · have hF := z_neg hc136 hF
      refine lv_iconst (v := 0) hx hb (z_d hX7_sets_1 22 rfl) (by decide) ?_
      exact J144 M x3 x6 z0 u11 0 hF _ _ ls hP hD hS (lv_sub hl [2, 3, 4, 5, 6, 1, 0] rfl)
    · have hF := z_pos hc136 hF
      refine lv_iconst (v := 1) hx hb (z_d hX7_sets_1 20 rfl) (by decide) ?_
      refine lv_goto (tgt := 144) hx hb (z_d hX7_sets_1 21 rfl) (by decide) ?_
      exact J144 M x3 x6 z0 u11 1 hF _ _ ls hP hD hS (lv_sub hl [2, 3, 4, 5, 6, 1, 0] rfl)
  have J89 : ∀ (M : t_Model) (x3 : Int32) (hF : j_X7_sets_89 p1 p2 M x3 = some R) (H : Heap) (locs : List Loc) (ls : Array Slot) (hP : va_P Z.1 vwCl (l_Model Z.2.1 Am M.1 M.2.1 M.2.2.1 M.2.2.2.1 M.2.2.2.2.1 M.2.2.2.2.2.1 M.2.2.2.2.2.2.1 M.2.2.2.2.2.2.2.1 M.2.2.2.2.2.2.2.2.1 M.2.2.2.2.2.2.2.2.2.1 M.2.2.2.2.2.2.2.2.2.2.1 M.2.2.2.2.2.2.2.2.2.2.2.1 M.2.2.2.2.2.2.2.2.2.2.2.2.1 M.2.2.2.2.2.2.2.2.2.2.2.2.2.1 M.2.2.2.2.2.2.2.2.2.2.2.2.2.2.1 M.2.2.2.2.2.2.2.2.2.2.2.2.2.2.2.1 M.2.2.2.2.2.2.2.2.2.2.2.2.2.2.2.2.1 M.2.2.2.2.2.2.2.2.2.2.2.2.2.2.2.2.2.1 M.2.2.2.2.2.2.2.2.2.2.2.2.2.2.2.2.2.2).flatten H) (hD : va_D A (l_Model Z.2.1 Am M.1 M.2.1 M.2.2.1 M.2.2.2.1 M.2.2.2.2.1 M.2.2.2.2.2.1 M.2.2.2.2.2.2.1 M.2.2.2.2.2.2.2.1 M.2.2.2.2.2.2.2.2.1 M.2.2.2.2.2.2.2.2.2.1 M.2.2.2.2.2.2.2.2.2.2.1 M.2.2.2.2.2.2.2.2.2.2.2.1 M.2.2.2.2.2.2.2.2.2.2.2.2.1 M.2.2.2.2.2.2.2.2.2.2.2.2.2.1 M.2.2.2.2.2.2.2.2.2.2.2.2.2.2.1 M.2.2.2.2.2.2.2.2.2.2.2.2.2.2.2.1 M.2.2.2.2.2.2.2.2.2.2.2.2.2.2.2.2.1 M.2.2.2.2.2.2.2.2.2.2.2.2.2.2.2.2.2.1 M.2.2.2.2.2.2.2.2.2.2.2.2.2.2.2.2.2.2).flatten) (hS : va_S A s.heap H locs) (hl : lv_has ls 11 [(0, .ref (Am 0)), (1, .int p1), (2, .int p2), (3, .int x3)]), W p l e rm_X7_sets s m ([.ref (Am 0), .int p1, .int p2] : List Value).toArray below meth c H locs 0 0 Q (F0 m 89 ls []) := by
    intro M x3 hF H locs ls hP hD hS hl
    unfold j_X7_sets_89 at hF
    refine lv_aload_n hx hb (z_d hX7_sets_0 50 rfl) rfl (lv_at hl 0 rfl) ?_
    refine lv_iload_n hx hb (z_d hX7_sets_0 51 rfl) rfl (lv_at hl 1 rfl) ?_
    refine z_bnd hF (fun q6 hq6 hF => ?_)
    refine z_ro_i (z_rV (As := [.int p1]) (rest := []) hx hb hml hown hts vt_X7_lines (c_X7_lines l Z Am M p1 _ hq6) rfl rfl ⟨Nat.le_of_ble_eq_true rfl, Nat.le_of_ble_eq_true rfl⟩ k_m_X7_69 zPro_blind (z_recv (q := (RX7, TX7, 19)) (ci := 7) (q0 := 0) hK (zP_reg hP 0 rfl) rfl rfl) (z_prec hK hP) rfl hl.1 (Nat.le_of_ble_eq_true rfl) (z_d hX7_sets_0 52 rfl) ⟨Nat.zero_le _, Nat.zero_le _⟩) hS hP (fun H locs hP hS => ?_)
    refine lv_istore (lv' := [(6, .int q6), (0, .ref (Am 0)), (1, .int p1), (2, .int p2), (3, .int x3)]) hx hb (z_d hX7_sets_0 53 rfl) hl (by decide) rfl (fun ls hl => ?_)
    refine lv_aload_n hx hb (z_d hX7_sets_0 54 rfl) rfl (lv_at hl 1 rfl) ?_
    refine va_get (D := Z.1) (ci := 7) (v := .ref (Am 8)) (C := RX7) (T := TX7) (N := 19) hx hb hts zinX7 hown hK.1 (zP_reg hP 0 rfl) 0 rfl rfl 12 (by decide) (hts _ k_f_X7_31) (fun _ h9 => h9) rfl (z_d hX7_sets_0 55 rfl) ?_
    refine lv_iload_n hx hb (z_d hX7_sets_0 56 rfl) rfl (lv_at hl 4 rfl) ?_
    refine z_ix hF (fun hin hF => ?_)
    refine va_iald (D := Z.1) (f := M.2.2.2.2.2.2.2.2.2.2.2.2.1) hx hb hK.1 (zP_reg hP 8 rfl) 0 0 rfl rfl hin (z_d hX7_sets_0 57 rfl) ?_
    refine z_let hF (fun u7 hu7 hF => ?_)
    refine lv_topE hu7 ?_
    refine lv_if_ne (tgt := 109) hx hb (z_d hX7_sets_0 58 rfl) (by decide) (fun hc102 => ?_) (fun hc102 => ?_)
    · have hF := z_neg hc102 hF
      refine lv_aload_n hx hb (z_d hX7_sets_1 1 rfl) rfl (lv_at hl 1 rfl) ?_
      refine va_get (D := Z.1) (ci := 7) (v := .ref (Am 8)) (C := RX7) (T := TX7) (N := 19) hx hb hts zinX7 hown hK.1 (zP_reg hP 0 rfl) 0 rfl rfl 12 (by decide) (hts _ k_f_X7_31) (fun _ h9 => h9) rfl (z_d hX7_sets_1 2 rfl) ?_
      refine lv_iload_n hx hb (z_d hX7_sets_1 3 rfl) rfl (lv_at hl 4 rfl) ?_
      refine z_ix hF (fun hin hF => ?_)
      refine va_iald (D := Z.1) (f := M.2.2.2.2.2.2.2.2.2.2.2.2.1) hx hb hK.1 (zP_reg hP 8 rfl) 0 0 rfl rfl hin (z_d hX7_sets_1 4 rfl) ?_
      refine z_let hF (fun u8 hu8 hF => ?_)
      refine lv_topE hu8 ?_
      refine lv_aload_n hx hb (z_d hX7_sets_1 5 rfl) rfl (lv_at hl 1 rfl) ?_
      refine lv_iload_n hx hb (z_d hX7_sets_1 6 rfl) rfl (lv_at hl 2 rfl) ?_
      refine z_bnd hF (fun q9 hq9 hF => ?_)
      refine z_ro_i (z_rV (As := [.int p1]) (rest := [.int u8]) hx hb hml hown hts vt_X7_blanks (c_X7_blanks l Z Am M p1 _ hq9) rfl rfl ⟨Nat.le_of_ble_eq_true rfl, Nat.le_of_ble_eq_true rfl⟩ k_m_X7_82 zPro_blind (z_recv (q := (RX7, TX7, 19)) (ci := 7) (q0 := 0) hK (zP_reg hP 0 rfl) rfl rfl) (z_prec hK hP) rfl hl.1 (Nat.le_of_ble_eq_true rfl) (z_d hX7_sets_1 7 rfl) ⟨Nat.zero_le _, Nat.zero_le _⟩) hS hP (fun H locs hP hS => ?_)
      refine lv_iadd hx hb (z_d hX7_sets_1 8 rfl) ?_
      refine z_let hF (fun u10 hu10 hF => ?_)
      refine lv_topE hu10 ?_
      exact J121 M x3 q6 u10 hF _ _ ls hP hD hS (lv_sub hl [1, 2, 3, 4, 0] rfl)
    · have hF := z_pos hc102 hF
      refine lv_iconst (v := 0) hx hb (z_d hX7_sets_0 59 rfl) (by decide) ?_
      refine lv_goto (tgt := 121) hx hb (z_d hX7_sets_1 0 rfl) (by decide) ?_
      exact J121 M x3 q6 0 hF _ _ ls hP hD hS (lv_sub hl [1, 2, 3, 4, 0] rfl)
  have J82 : ∀ (M : t_Model) (x3 : Int32) (hF : j_X7_sets_82 p1 p2 M x3 = some R) (H : Heap) (locs : List Loc) (ls : Array Slot) (hP : va_P Z.1 vwCl (l_Model Z.2.1 Am M.1 M.2.1 M.2.2.1 M.2.2.2.1 M.2.2.2.2.1 M.2.2.2.2.2.1 M.2.2.2.2.2.2.1 M.2.2.2.2.2.2.2.1 M.2.2.2.2.2.2.2.2.1 M.2.2.2.2.2.2.2.2.2.1 M.2.2.2.2.2.2.2.2.2.2.1 M.2.2.2.2.2.2.2.2.2.2.2.1 M.2.2.2.2.2.2.2.2.2.2.2.2.1 M.2.2.2.2.2.2.2.2.2.2.2.2.2.1 M.2.2.2.2.2.2.2.2.2.2.2.2.2.2.1 M.2.2.2.2.2.2.2.2.2.2.2.2.2.2.2.1 M.2.2.2.2.2.2.2.2.2.2.2.2.2.2.2.2.1 M.2.2.2.2.2.2.2.2.2.2.2.2.2.2.2.2.2.1 M.2.2.2.2.2.2.2.2.2.2.2.2.2.2.2.2.2.2).flatten H) (hD : va_D A (l_Model Z.2.1 Am M.1 M.2.1 M.2.2.1 M.2.2.2.1 M.2.2.2.2.1 M.2.2.2.2.2.1 M.2.2.2.2.2.2.1 M.2.2.2.2.2.2.2.1 M.2.2.2.2.2.2.2.2.1 M.2.2.2.2.2.2.2.2.2.1 M.2.2.2.2.2.2.2.2.2.2.1 M.2.2.2.2.2.2.2.2.2.2.2.1 M.2.2.2.2.2.2.2.2.2.2.2.2.1 M.2.2.2.2.2.2.2.2.2.2.2.2.2.1 M.2.2.2.2.2.2.2.2.2.2.2.2.2.2.1 M.2.2.2.2.2.2.2.2.2.2.2.2.2.2.2.1 M.2.2.2.2.2.2.2.2.2.2.2.2.2.2.2.2.1 M.2.2.2.2.2.2.2.2.2.2.2.2.2.2.2.2.2.1 M.2.2.2.2.2.2.2.2.2.2.2.2.2.2.2.2.2.2).flatten) (hS : va_S A s.heap H locs) (hl : lv_has ls 11 [(0, .ref (Am 0)), (1, .int p1), (2, .int p2), (3, .int x3)]), W p l e rm_X7_sets s m ([.ref (Am 0), .int p1, .int p2] : List Value).toArray below meth c H locs 0 0 Q (F0 m 82 ls []) := by
    intro M x3 hF H locs ls hP hD hS hl
    unfold j_X7_sets_82 at hF
    refine lv_aload_n hx hb (z_d hX7_sets_0 47 rfl) rfl (lv_at hl 0 rfl) ?_
    refine z_bnd hF (fun q4 hq4 hF => ?_)
    refine z_mu0 (z_rV (As := []) (rest := []) hx hb hml hown hts vt_X7_newPage (c_X7_newPage l Z Am M _ hq4) rfl rfl ⟨Nat.le_of_ble_eq_true rfl, Nat.le_of_ble_eq_true rfl⟩ k_m_X7_107 zPmu_blind (z_recv (q := (RX7, TX7, 19)) (ci := 7) (q0 := 0) hK (zP_reg hP 0 rfl) rfl rfl) (z_prem hK hP hD) rfl hl.1 (Nat.le_of_ble_eq_true rfl) (z_d hX7_sets_0 48 rfl) ⟨Nat.zero_le _, Nat.zero_le _⟩) hS hD (adr_Model _ _ _ _) (fun H locs hP hD hS => ?_)
    have hP : va_P Z.1 vwCl (l_Model Z.2.1 Am q4.1 q4.2.1 q4.2.2.1 q4.2.2.2.1 q4.2.2.2.2.1 q4.2.2.2.2.2.1 q4.2.2.2.2.2.2.1 q4.2.2.2.2.2.2.2.1 q4.2.2.2.2.2.2.2.2.1 q4.2.2.2.2.2.2.2.2.2.1 q4.2.2.2.2.2.2.2.2.2.2.1 q4.2.2.2.2.2.2.2.2.2.2.2.1 q4.2.2.2.2.2.2.2.2.2.2.2.2.1 q4.2.2.2.2.2.2.2.2.2.2.2.2.2.1 q4.2.2.2.2.2.2.2.2.2.2.2.2.2.2.1 q4.2.2.2.2.2.2.2.2.2.2.2.2.2.2.2.1 q4.2.2.2.2.2.2.2.2.2.2.2.2.2.2.2.2.1 q4.2.2.2.2.2.2.2.2.2.2.2.2.2.2.2.2.2.1 q4.2.2.2.2.2.2.2.2.2.2.2.2.2.2.2.2.2.2).flatten H := hP
    have hD : va_D A (l_Model Z.2.1 Am q4.1 q4.2.1 q4.2.2.1 q4.2.2.2.1 q4.2.2.2.2.1 q4.2.2.2.2.2.1 q4.2.2.2.2.2.2.1 q4.2.2.2.2.2.2.2.1 q4.2.2.2.2.2.2.2.2.1 q4.2.2.2.2.2.2.2.2.2.1 q4.2.2.2.2.2.2.2.2.2.2.1 q4.2.2.2.2.2.2.2.2.2.2.2.1 q4.2.2.2.2.2.2.2.2.2.2.2.2.1 q4.2.2.2.2.2.2.2.2.2.2.2.2.2.1 q4.2.2.2.2.2.2.2.2.2.2.2.2.2.2.1 q4.2.2.2.2.2.2.2.2.2.2.2.2.2.2.2.1 q4.2.2.2.2.2.2.2.2.2.2.2.2.2.2.2.2.1 q4.2.2.2.2.2.2.2.2.2.2.2.2.2.2.2.2.2.1 q4.2.2.2.2.2.2.2.2.2.2.2.2.2.2.2.2.2.2).flatten := hD
    refine W.eq (g2 := F0 m 86 ls []) rfl ?_
    refine z_let hF (fun u5 hu5 hF => ?_)
    refine lv_iinc (v := u5) (lv' := [(3, .int u5), (0, .ref (Am 0)), (1, .int p1), (2, .int p2)]) hx hb (z_d hX7_sets_0 49 rfl) hl (k := 3) rfl (z_inc1 hu5) (by decide) rfl (fun ls hl => ?_)
    exact J89 q4 u5 hF _ _ ls hP hD hS (lv_sub hl [1, 2, 3, 0] rfl)
  have J70 : ∀ (M : t_Model) (x3 : Int32) (x4 : Int32) (z0 : Int32) (hF : j_X7_sets_70 p1 p2 M x3 x4 z0 = some R) (H : Heap) (locs : List Loc) (ls : Array Slot) (hP : va_P Z.1 vwCl (l_Model Z.2.1 Am M.1 M.2.1 M.2.2.1 M.2.2.2.1 M.2.2.2.2.1 M.2.2.2.2.2.1 M.2.2.2.2.2.2.1 M.2.2.2.2.2.2.2.1 M.2.2.2.2.2.2.2.2.1 M.2.2.2.2.2.2.2.2.2.1 M.2.2.2.2.2.2.2.2.2.2.1 M.2.2.2.2.2.2.2.2.2.2.2.1 M.2.2.2.2.2.2.2.2.2.2.2.2.1 M.2.2.2.2.2.2.2.2.2.2.2.2.2.1 M.2.2.2.2.2.2.2.2.2.2.2.2.2.2.1 M.2.2.2.2.2.2.2.2.2.2.2.2.2.2.2.1 M.2.2.2.2.2.2.2.2.2.2.2.2.2.2.2.2.1 M.2.2.2.2.2.2.2.2.2.2.2.2.2.2.2.2.2.1 M.2.2.2.2.2.2.2.2.2.2.2.2.2.2.2.2.2.2).flatten H) (hD : va_D A (l_Model Z.2.1 Am M.1 M.2.1 M.2.2.1 M.2.2.2.1 M.2.2.2.2.1 M.2.2.2.2.2.1 M.2.2.2.2.2.2.1 M.2.2.2.2.2.2.2.1 M.2.2.2.2.2.2.2.2.1 M.2.2.2.2.2.2.2.2.2.1 M.2.2.2.2.2.2.2.2.2.2.1 M.2.2.2.2.2.2.2.2.2.2.2.1 M.2.2.2.2.2.2.2.2.2.2.2.2.1 M.2.2.2.2.2.2.2.2.2.2.2.2.2.1 M.2.2.2.2.2.2.2.2.2.2.2.2.2.2.1 M.2.2.2.2.2.2.2.2.2.2.2.2.2.2.2.1 M.2.2.2.2.2.2.2.2.2.2.2.2.2.2.2.2.1 M.2.2.2.2.2.2.2.2.2.2.2.2.2.2.2.2.2.1 M.2.2.2.2.2.2.2.2.2.2.2.2.2.2.2.2.2.2).flatten) (hS : va_S A s.heap H locs) (hl : lv_has ls 11 [(0, .ref (Am 0)), (1, .int p1), (2, .int p2), (3, .int x3), (4, .int x4)]), W p l e rm_X7_sets s m ([.ref (Am 0), .int p1, .int p2] : List Value).toArray below meth c H locs 0 0 Q (F0 m 70 ls [.int z0]) := by
    intro M x3 x4 z0 hF H locs ls hP hD hS hl
    unfold j_X7_sets_70 at hF
    refine lv_istore (lv' := [(5, .int z0), (0, .ref (Am 0)), (1, .int p1), (2, .int p2), (3, .int x3), (4, .int x4)]) hx hb (z_d hX7_sets_0 42 rfl) hl (by decide) rfl (fun ls hl => ?_)
    refine lv_iload hx hb (z_d hX7_sets_0 43 rfl) (lv_at hl 5 rfl) ?_
    refine lv_if_ne (tgt := 82) hx hb (z_d hX7_sets_0 44 rfl) (by decide) (fun hc74 => ?_) (fun hc74 => ?_)
    · have hF := z_neg hc74 hF
      exact J82 M x3 hF _ _ ls hP hD hS (lv_sub hl [1, 2, 3, 4] rfl)
    · have hF := z_pos hc74 hF
      refine lv_iload hx hb (z_d hX7_sets_0 45 rfl) (lv_at hl 0 rfl) ?_
      refine lv_if_eq (tgt := 89) hx hb (z_d hX7_sets_0 46 rfl) (by decide) (fun hc79 => ?_) (fun hc79 => ?_)
      · have hF := z_pos hc79 hF
        exact J89 M x3 hF _ _ ls hP hD hS (lv_sub hl [1, 2, 3, 4] rfl)
      · have hF := z_neg hc79 hF
        exact J82 M x3 hF _ _ ls hP hD hS (lv_sub hl [1, 2, 3, 4] rfl)
  have J69 : ∀ (M : t_Model) (x3 : Int32) (x4 : Int32) (hF : j_X7_sets_69 p1 p2 M x3 x4 = some R) (H : Heap) (locs : List Loc) (ls : Array Slot) (hP : va_P Z.1 vwCl (l_Model Z.2.1 Am M.1 M.2.1 M.2.2.1 M.2.2.2.1 M.2.2.2.2.1 M.2.2.2.2.2.1 M.2.2.2.2.2.2.1 M.2.2.2.2.2.2.2.1 M.2.2.2.2.2.2.2.2.1 M.2.2.2.2.2.2.2.2.2.1 M.2.2.2.2.2.2.2.2.2.2.1 M.2.2.2.2.2.2.2.2.2.2.2.1 M.2.2.2.2.2.2.2.2.2.2.2.2.1 M.2.2.2.2.2.2.2.2.2.2.2.2.2.1 M.2.2.2.2.2.2.2.2.2.2.2.2.2.2.1 M.2.2.2.2.2.2.2.2.2.2.2.2.2.2.2.1 M.2.2.2.2.2.2.2.2.2.2.2.2.2.2.2.2.1 M.2.2.2.2.2.2.2.2.2.2.2.2.2.2.2.2.2.1 M.2.2.2.2.2.2.2.2.2.2.2.2.2.2.2.2.2.2).flatten H) (hD : va_D A (l_Model Z.2.1 Am M.1 M.2.1 M.2.2.1 M.2.2.2.1 M.2.2.2.2.1 M.2.2.2.2.2.1 M.2.2.2.2.2.2.1 M.2.2.2.2.2.2.2.1 M.2.2.2.2.2.2.2.2.1 M.2.2.2.2.2.2.2.2.2.1 M.2.2.2.2.2.2.2.2.2.2.1 M.2.2.2.2.2.2.2.2.2.2.2.1 M.2.2.2.2.2.2.2.2.2.2.2.2.1 M.2.2.2.2.2.2.2.2.2.2.2.2.2.1 M.2.2.2.2.2.2.2.2.2.2.2.2.2.2.1 M.2.2.2.2.2.2.2.2.2.2.2.2.2.2.2.1 M.2.2.2.2.2.2.2.2.2.2.2.2.2.2.2.2.1 M.2.2.2.2.2.2.2.2.2.2.2.2.2.2.2.2.2.1 M.2.2.2.2.2.2.2.2.2.2.2.2.2.2.2.2.2.2).flatten) (hS : va_S A s.heap H locs) (hl : lv_has ls 11 [(0, .ref (Am 0)), (1, .int p1), (2, .int p2), (3, .int x3), (4, .int x4)]), W p l e rm_X7_sets s m ([.ref (Am 0), .int p1, .int p2] : List Value).toArray below meth c H locs 0 0 Q (F0 m 69 ls []) := by
    intro M x3 x4 hF H locs ls hP hD hS hl
    unfold j_X7_sets_69 at hF
    refine lv_iconst (v := 0) hx hb (z_d hX7_sets_0 41 rfl) (by decide) ?_
    exact J70 M x3 x4 0 hF _ _ ls hP hD hS (lv_sub hl [0, 1, 2, 3, 4] rfl)
  have J32 : ∀ (M : t_Model) (x3 : Int32) (z0 : Int32) (hF : j_X7_sets_32 p1 p2 M x3 z0 = some R) (H : Heap) (locs : List Loc) (ls : Array Slot) (hP : va_P Z.1 vwCl (l_Model Z.2.1 Am M.1 M.2.1 M.2.2.1 M.2.2.2.1 M.2.2.2.2.1 M.2.2.2.2.2.1 M.2.2.2.2.2.2.1 M.2.2.2.2.2.2.2.1 M.2.2.2.2.2.2.2.2.1 M.2.2.2.2.2.2.2.2.2.1 M.2.2.2.2.2.2.2.2.2.2.1 M.2.2.2.2.2.2.2.2.2.2.2.1 M.2.2.2.2.2.2.2.2.2.2.2.2.1 M.2.2.2.2.2.2.2.2.2.2.2.2.2.1 M.2.2.2.2.2.2.2.2.2.2.2.2.2.2.1 M.2.2.2.2.2.2.2.2.2.2.2.2.2.2.2.1 M.2.2.2.2.2.2.2.2.2.2.2.2.2.2.2.2.1 M.2.2.2.2.2.2.2.2.2.2.2.2.2.2.2.2.2.1 M.2.2.2.2.2.2.2.2.2.2.2.2.2.2.2.2.2.2).flatten H) (hD : va_D A (l_Model Z.2.1 Am M.1 M.2.1 M.2.2.1 M.2.2.2.1 M.2.2.2.2.1 M.2.2.2.2.2.1 M.2.2.2.2.2.2.1 M.2.2.2.2.2.2.2.1 M.2.2.2.2.2.2.2.2.1 M.2.2.2.2.2.2.2.2.2.1 M.2.2.2.2.2.2.2.2.2.2.1 M.2.2.2.2.2.2.2.2.2.2.2.1 M.2.2.2.2.2.2.2.2.2.2.2.2.1 M.2.2.2.2.2.2.2.2.2.2.2.2.2.1 M.2.2.2.2.2.2.2.2.2.2.2.2.2.2.1 M.2.2.2.2.2.2.2.2.2.2.2.2.2.2.2.1 M.2.2.2.2.2.2.2.2.2.2.2.2.2.2.2.2.1 M.2.2.2.2.2.2.2.2.2.2.2.2.2.2.2.2.2.1 M.2.2.2.2.2.2.2.2.2.2.2.2.2.2.2.2.2.2).flatten) (hS : va_S A s.heap H locs) (hl : lv_has ls 11 [(0, .ref (Am 0)), (1, .int p1), (2, .int p2), (3, .int x3)]), W p l e rm_X7_sets s m ([.ref (Am 0), .int p1, .int p2] : List Value).toArray below meth c H locs 0 0 Q (F0 m 32 ls [.int z0]) := by
    intro M x3 z0 hF H locs ls hP hD hS hl
    unfold j_X7_sets_32 at hF
    refine lv_istore (lv' := [(4, .int z0), (0, .ref (Am 0)), (1, .int p1), (2, .int p2), (3, .int x3)]) hx hb (z_d hX7_sets_0 19 rfl) hl (by decide) rfl (fun ls hl => ?_)
    refine lv_aload_n hx hb (z_d hX7_sets_0 20 rfl) rfl (lv_at hl 1 rfl) ?_
    refine va_get (D := Z.1) (ci := 7) (v := .ref (Am 8)) (C := RX7) (T := TX7) (N := 19) hx hb hts zinX7 hown hK.1 (zP_reg hP 0 rfl) 0 rfl rfl 12 (by decide) (hts _ k_f_X7_31) (fun _ h9 => h9) rfl (z_d hX7_sets_0 21 rfl) ?_
    refine lv_iload_n hx hb (z_d hX7_sets_0 22 rfl) rfl (lv_at hl 4 rfl) ?_
    refine z_ix hF (fun hin hF => ?_)
    refine va_iald (D := Z.1) (f := M.2.2.2.2.2.2.2.2.2.2.2.2.1) hx hb hK.1 (zP_reg hP 8 rfl) 0 0 rfl rfl hin (z_d hX7_sets_0 23 rfl) ?_
    refine z_let hF (fun u3 hu3 hF => ?_)
    refine lv_topE hu3 ?_
    refine lv_if_le (tgt := 69) hx hb (z_d hX7_sets_0 24 rfl) (by decide) (fun hc40 => ?_) (fun hc40 => ?_)
    · have hF := z_pos hc40 hF
      exact J69 M x3 z0 hF _ _ ls hP hD hS (lv_sub hl [1, 2, 3, 4, 0] rfl)
    · have hF := z_neg hc40 hF
      refine lv_aload_n hx hb (z_d hX7_sets_0 25 rfl) rfl (lv_at hl 1 rfl) ?_
      refine lv_iload_n hx hb (z_d hX7_sets_0 26 rfl) rfl (lv_at hl 2 rfl) ?_
      refine z_bnd hF (fun q37 hq37 hF => ?_)
      refine z_ro_i (z_rV (As := [.int p1]) (rest := []) hx hb hml hown hts vt_X7_blanks (c_X7_blanks l Z Am M p1 _ hq37) rfl rfl ⟨Nat.le_of_ble_eq_true rfl, Nat.le_of_ble_eq_true rfl⟩ k_m_X7_82 zPro_blind (z_recv (q := (RX7, TX7, 19)) (ci := 7) (q0 := 0) hK (zP_reg hP 0 rfl) rfl rfl) (z_prec hK hP) rfl hl.1 (Nat.le_of_ble_eq_true rfl) (z_d hX7_sets_0 27 rfl) ⟨Nat.zero_le _, Nat.zero_le _⟩) hS hP (fun H locs hP hS => ?_)
      refine lv_aload_n hx hb (z_d hX7_sets_0 28 rfl) rfl (lv_at hl 1 rfl) ?_
      refine lv_iload_n hx hb (z_d hX7_sets_0 29 rfl) rfl (lv_at hl 2 rfl) ?_
      refine z_bnd hF (fun q38 hq38 hF => ?_)
      refine z_ro_i (z_rV (As := [.int p1]) (rest := [.int q37]) hx hb hml hown hts vt_X7_need (c_X7_need l Z Am M p1 _ hq38) rfl rfl ⟨Nat.le_of_ble_eq_true rfl, Nat.le_of_ble_eq_true rfl⟩ k_m_X7_104 zPro_blind (z_recv (q := (RX7, TX7, 19)) (ci := 7) (q0 := 0) hK (zP_reg hP 0 rfl) rfl rfl) (z_prec hK hP) rfl hl.1 (Nat.le_of_ble_eq_true rfl) (z_d hX7_sets_0 30 rfl) ⟨Nat.zero_le _, Nat.zero_le _⟩) hS hP (fun H locs hP hS => ?_)
      refine lv_iadd hx hb (z_d hX7_sets_0 31 rfl) ?_
      refine z_let hF (fun u39 hu39 hF => ?_)
      refine lv_topE hu39 ?_
      refine lv_iload_n hx hb (z_d hX7_sets_0 32 rfl) rfl (lv_at hl 3 rfl) ?_
      refine lv_aload_n hx hb (z_d hX7_sets_0 33 rfl) rfl (lv_at hl 1 rfl) ?_
      refine va_get (D := Z.1) (ci := 7) (v := .ref (Am 8)) (C := RX7) (T := TX7) (N := 19) hx hb hts zinX7 hown hK.1 (zP_reg hP 0 rfl) 0 rfl rfl 12 (by decide) (hts _ k_f_X7_31) (fun _ h9 => h9) rfl (z_d hX7_sets_0 34 rfl) ?_
      refine lv_iload_n hx hb (z_d hX7_sets_0 35 rfl) rfl (lv_at hl 4 rfl) ?_
      refine z_ix hF (fun hin hF => ?_)
      refine va_iald (D := Z.1) (f := M.2.2.2.2.2.2.2.2.2.2.2.2.1) hx hb hK.1 (zP_reg hP 8 rfl) 0 0 rfl rfl hin (z_d hX7_sets_0 36 rfl) ?_
      refine z_let hF (fun u40 hu40 hF => ?_)
      refine lv_topE hu40 ?_
      refine lv_isub hx hb (z_d hX7_sets_0 37 rfl) ?_
      refine z_let hF (fun u41 hu41 hF => ?_)
      refine lv_topE hu41 ?_
      refine lv_icmp_le (tgt := 69) hx hb (z_d hX7_sets_0 38 rfl) (by decide) (fun hc62 => ?_) (fun hc62 => ?_)
      · have hF := z_pos hc62 hF
        exact J69 M x3 z0 hF _ _ ls hP hD hS (lv_sub hl [1, 2, 3, 4, 0] rfl)
      · have hF := z_neg hc62 hF
        refine lv_iconst (v := 1) hx hb (z_d hX7_sets_0 39 rfl) (by decide) ?_
        refine lv_goto (tgt := 70) hx hb (z_d hX7_sets_0 40 rfl) (by decide) ?_
        exact J70 M x3 z0 1 hF _ _ ls hP hD hS (lv_sub hl [1, 2, 3, 4, 0] rfl)
  have J31 : ∀ (M : t_Model) (x3 : Int32) (hF : j_X7_sets_31 p1 p2 M x3 = some R) (H : Heap) (locs : List Loc) (ls : Array Slot) (hP : va_P Z.1 vwCl (l_Model Z.2.1 Am M.1 M.2.1 M.2.2.1 M.2.2.2.1 M.2.2.2.2.1 M.2.2.2.2.2.1 M.2.2.2.2.2.2.1 M.2.2.2.2.2.2.2.1 M.2.2.2.2.2.2.2.2.1 M.2.2.2.2.2.2.2.2.2.1 M.2.2.2.2.2.2.2.2.2.2.1 M.2.2.2.2.2.2.2.2.2.2.2.1 M.2.2.2.2.2.2.2.2.2.2.2.2.1 M.2.2.2.2.2.2.2.2.2.2.2.2.2.1 M.2.2.2.2.2.2.2.2.2.2.2.2.2.2.1 M.2.2.2.2.2.2.2.2.2.2.2.2.2.2.2.1 M.2.2.2.2.2.2.2.2.2.2.2.2.2.2.2.2.1 M.2.2.2.2.2.2.2.2.2.2.2.2.2.2.2.2.2.1 M.2.2.2.2.2.2.2.2.2.2.2.2.2.2.2.2.2.2).flatten H) (hD : va_D A (l_Model Z.2.1 Am M.1 M.2.1 M.2.2.1 M.2.2.2.1 M.2.2.2.2.1 M.2.2.2.2.2.1 M.2.2.2.2.2.2.1 M.2.2.2.2.2.2.2.1 M.2.2.2.2.2.2.2.2.1 M.2.2.2.2.2.2.2.2.2.1 M.2.2.2.2.2.2.2.2.2.2.1 M.2.2.2.2.2.2.2.2.2.2.2.1 M.2.2.2.2.2.2.2.2.2.2.2.2.1 M.2.2.2.2.2.2.2.2.2.2.2.2.2.1 M.2.2.2.2.2.2.2.2.2.2.2.2.2.2.1 M.2.2.2.2.2.2.2.2.2.2.2.2.2.2.2.1 M.2.2.2.2.2.2.2.2.2.2.2.2.2.2.2.2.1 M.2.2.2.2.2.2.2.2.2.2.2.2.2.2.2.2.2.1 M.2.2.2.2.2.2.2.2.2.2.2.2.2.2.2.2.2.2).flatten) (hS : va_S A s.heap H locs) (hl : lv_has ls 11 [(0, .ref (Am 0)), (1, .int p1), (2, .int p2), (3, .int x3)]), W p l e rm_X7_sets s m ([.ref (Am 0), .int p1, .int p2] : List Value).toArray below meth c H locs 0 0 Q (F0 m 31 ls []) := by
    intro M x3 hF H locs ls hP hD hS hl
    unfold j_X7_sets_31 at hF
    refine lv_iconst (v := 0) hx hb (z_d hX7_sets_0 18 rfl) (by decide) ?_
    exact J32 M x3 0 hF _ _ ls hP hD hS (lv_sub hl [0, 1, 2, 3] rfl)
  refine lv_aload_n hx hb (z_d hX7_sets_0 0 rfl) rfl (lv_at hl 0 rfl) ?_
  refine va_get (D := Z.1) (ci := 7) (v := .int M.2.2.2.2.2.2.2.1) (C := RX7) (T := TX7) (N := 19) hx hb hts zinX7 hown hK.1 (zP_reg hP 0 rfl) 0 rfl rfl 7 (by decide) (hts _ k_f_X7_101) (fun _ h9 => h9) rfl (z_d hX7_sets_0 1 rfl) ?_
  refine lv_iconst (v := 1) hx hb (z_d hX7_sets_0 2 rfl) (by decide) ?_
  refine lv_isub hx hb (z_d hX7_sets_0 3 rfl) ?_
  refine z_let hF (fun u1 hu1 hF => ?_)
  refine lv_topE hu1 ?_
  refine lv_istore_n (lv' := [(3, .int u1), (0, .ref (Am 0)), (1, .int p1), (2, .int p2)]) hx hb (z_d hX7_sets_0 4 rfl) rfl hl (by decide) rfl (fun ls hl => ?_)
  refine lv_aload_n hx hb (z_d hX7_sets_0 5 rfl) rfl (lv_at hl 1 rfl) ?_
  refine lv_iload_n hx hb (z_d hX7_sets_0 6 rfl) rfl (lv_at hl 2 rfl) ?_
  refine lv_bipush (v := 8) hx hb (z_d hX7_sets_0 7 rfl) (by decide) ?_
  refine z_bnd hF (fun q2 hq2 hF => ?_)
  refine z_ro_i (z_rV (As := [.int p1, .int 8]) (rest := []) hx hb hml hown hts vt_X7_of (c_X7_of l Z Am M p1 8 _ hq2) rfl rfl ⟨Nat.le_of_ble_eq_true rfl, Nat.le_of_ble_eq_true rfl⟩ k_m_X7_62 zPro_blind (z_recv (q := (RX7, TX7, 19)) (ci := 7) (q0 := 0) hK (zP_reg hP 0 rfl) rfl rfl) (z_prec hK hP) rfl hl.1 (Nat.le_of_ble_eq_true rfl) (z_d hX7_sets_0 8 rfl) ⟨Nat.zero_le _, Nat.zero_le _⟩) hS hP (fun H locs hP hS => ?_)
  refine lv_iconst (v := (-1)) hx hb (z_d hX7_sets_0 9 rfl) (by decide) ?_
  refine lv_icmp_eq (tgt := 31) hx hb (z_d hX7_sets_0 10 rfl) (by decide) (fun hc15 => ?_) (fun hc15 => ?_)
  · have hF := z_pos hc15 hF
    exact J31 M u1 hF _ _ ls hP hD hS (lv_sub hl [1, 2, 3, 0] rfl)
  · have hF := z_neg hc15 hF
    refine lv_aload_n hx hb (z_d hX7_sets_0 11 rfl) rfl (lv_at hl 1 rfl) ?_
    refine va_get (D := Z.1) (ci := 7) (v := .ref (Am 8)) (C := RX7) (T := TX7) (N := 19) hx hb hts zinX7 hown hK.1 (zP_reg hP 0 rfl) 0 rfl rfl 12 (by decide) (hts _ k_f_X7_31) (fun _ h9 => h9) rfl (z_d hX7_sets_0 12 rfl) ?_
    refine lv_iload_n hx hb (z_d hX7_sets_0 13 rfl) rfl (lv_at hl 0 rfl) ?_
    refine z_ix hF (fun hin hF => ?_)
    refine va_iald (D := Z.1) (f := M.2.2.2.2.2.2.2.2.2.2.2.2.1) hx hb hK.1 (zP_reg hP 8 rfl) 0 0 rfl rfl hin (z_d hX7_sets_0 14 rfl) ?_
    refine z_let hF (fun u42 hu42 hF => ?_)
    refine lv_topE hu42 ?_
    refine lv_if_le (tgt := 31) hx hb (z_d hX7_sets_0 15 rfl) (by decide) (fun hc24 => ?_) (fun hc24 => ?_)
    · have hF := z_pos hc24 hF
      exact J31 M u1 hF _ _ ls hP hD hS (lv_sub hl [1, 2, 3, 0] rfl)
    · have hF := z_neg hc24 hF
      refine lv_iconst (v := 1) hx hb (z_d hX7_sets_0 16 rfl) (by decide) ?_
      refine lv_goto (tgt := 32) hx hb (z_d hX7_sets_0 17 rfl) (by decide) ?_
      exact J32 M u1 1 hF _ _ ls hP hD hS (lv_sub hl [1, 2, 3, 0] rfl)
def rm_X7_setsAll : Room := { frames := 5, cells := 0, slots := 0, locals := 119 }
set_option maxRecDepth 100000 in
set_option maxHeartbeats 4000000 in
theorem c_X7_setsAll (l : Launch) (Z : zZ) (Am : Nat → Nat) (M : t_Model) (p1 : Int32) (R : t_Model) (hF : X7_setsAll M p1 = some R) : zMU l yX7_setsAll (zw yX7_setsAll cX7_setsAll 3 none) rm_X7_setsAll Z [.ref (Am 0), .int p1] (w_Model Z.2.1 Am M) (w_Model Z.2.1 Am R) none := by
  refine zMU_of (by decide) (Nat.le_of_ble_eq_true rfl) (fun p e s m below meth c hx hb hr hml hown hts hlocks hK A hA Q hQ ls hl hP hD hS => ?_)
  unfold X7_setsAll at hF
  have hl : lv_has ls 3 [(0, .ref (Am 0)), (1, .int p1)] := hl
  have hown : s.vm.findClass RX7 = some m.cls := hown
  have hP : va_P Z.1 vwCl (l_Model Z.2.1 Am M.1 M.2.1 M.2.2.1 M.2.2.2.1 M.2.2.2.2.1 M.2.2.2.2.2.1 M.2.2.2.2.2.2.1 M.2.2.2.2.2.2.2.1 M.2.2.2.2.2.2.2.2.1 M.2.2.2.2.2.2.2.2.2.1 M.2.2.2.2.2.2.2.2.2.2.1 M.2.2.2.2.2.2.2.2.2.2.2.1 M.2.2.2.2.2.2.2.2.2.2.2.2.1 M.2.2.2.2.2.2.2.2.2.2.2.2.2.1 M.2.2.2.2.2.2.2.2.2.2.2.2.2.2.1 M.2.2.2.2.2.2.2.2.2.2.2.2.2.2.2.1 M.2.2.2.2.2.2.2.2.2.2.2.2.2.2.2.2.1 M.2.2.2.2.2.2.2.2.2.2.2.2.2.2.2.2.2.1 M.2.2.2.2.2.2.2.2.2.2.2.2.2.2.2.2.2.2).flatten s.heap := hP
  have hD : va_D A (l_Model Z.2.1 Am M.1 M.2.1 M.2.2.1 M.2.2.2.1 M.2.2.2.2.1 M.2.2.2.2.2.1 M.2.2.2.2.2.2.1 M.2.2.2.2.2.2.2.1 M.2.2.2.2.2.2.2.2.1 M.2.2.2.2.2.2.2.2.2.1 M.2.2.2.2.2.2.2.2.2.2.1 M.2.2.2.2.2.2.2.2.2.2.2.1 M.2.2.2.2.2.2.2.2.2.2.2.2.1 M.2.2.2.2.2.2.2.2.2.2.2.2.2.1 M.2.2.2.2.2.2.2.2.2.2.2.2.2.2.1 M.2.2.2.2.2.2.2.2.2.2.2.2.2.2.2.1 M.2.2.2.2.2.2.2.2.2.2.2.2.2.2.2.2.1 M.2.2.2.2.2.2.2.2.2.2.2.2.2.2.2.2.2.1 M.2.2.2.2.2.2.2.2.2.2.2.2.2.2.2.2.2.2).flatten := hD
  have L12 : ∀  (n : Nat) (v : t_Model × Int32) (X : t_Model) (hF : zloop (b_X7_setsAll_12 p1 ) n v = some X) (H : Heap) (locs : List Loc) (ls : Array Slot) (hP : va_P Z.1 vwCl (l_Model Z.2.1 Am v.1.1 v.1.2.1 v.1.2.2.1 v.1.2.2.2.1 v.1.2.2.2.2.1 v.1.2.2.2.2.2.1 v.1.2.2.2.2.2.2.1 v.1.2.2.2.2.2.2.2.1 v.1.2.2.2.2.2.2.2.2.1 v.1.2.2.2.2.2.2.2.2.2.1 v.1.2.2.2.2.2.2.2.2.2.2.1 v.1.2.2.2.2.2.2.2.2.2.2.2.1 v.1.2.2.2.2.2.2.2.2.2.2.2.2.1 v.1.2.2.2.2.2.2.2.2.2.2.2.2.2.1 v.1.2.2.2.2.2.2.2.2.2.2.2.2.2.2.1 v.1.2.2.2.2.2.2.2.2.2.2.2.2.2.2.2.1 v.1.2.2.2.2.2.2.2.2.2.2.2.2.2.2.2.2.1 v.1.2.2.2.2.2.2.2.2.2.2.2.2.2.2.2.2.2.1 v.1.2.2.2.2.2.2.2.2.2.2.2.2.2.2.2.2.2.2).flatten H) (hD : va_D A (l_Model Z.2.1 Am v.1.1 v.1.2.1 v.1.2.2.1 v.1.2.2.2.1 v.1.2.2.2.2.1 v.1.2.2.2.2.2.1 v.1.2.2.2.2.2.2.1 v.1.2.2.2.2.2.2.2.1 v.1.2.2.2.2.2.2.2.2.1 v.1.2.2.2.2.2.2.2.2.2.1 v.1.2.2.2.2.2.2.2.2.2.2.1 v.1.2.2.2.2.2.2.2.2.2.2.2.1 v.1.2.2.2.2.2.2.2.2.2.2.2.2.1 v.1.2.2.2.2.2.2.2.2.2.2.2.2.2.1 v.1.2.2.2.2.2.2.2.2.2.2.2.2.2.2.1 v.1.2.2.2.2.2.2.2.2.2.2.2.2.2.2.2.1 v.1.2.2.2.2.2.2.2.2.2.2.2.2.2.2.2.2.1 v.1.2.2.2.2.2.2.2.2.2.2.2.2.2.2.2.2.2.1 v.1.2.2.2.2.2.2.2.2.2.2.2.2.2.2.2.2.2.2).flatten) (hS : va_S A s.heap H locs) (hl : lv_has ls 3 [(0, .ref (Am 0)), (1, .int p1), (2, .int v.2)]) (K1 : ∀ (H : Heap) (locs : List Loc) (ls : Array Slot) (hP : va_P Z.1 vwCl (l_Model Z.2.1 Am X.1 X.2.1 X.2.2.1 X.2.2.2.1 X.2.2.2.2.1 X.2.2.2.2.2.1 X.2.2.2.2.2.2.1 X.2.2.2.2.2.2.2.1 X.2.2.2.2.2.2.2.2.1 X.2.2.2.2.2.2.2.2.2.1 X.2.2.2.2.2.2.2.2.2.2.1 X.2.2.2.2.2.2.2.2.2.2.2.1 X.2.2.2.2.2.2.2.2.2.2.2.2.1 X.2.2.2.2.2.2.2.2.2.2.2.2.2.1 X.2.2.2.2.2.2.2.2.2.2.2.2.2.2.1 X.2.2.2.2.2.2.2.2.2.2.2.2.2.2.2.1 X.2.2.2.2.2.2.2.2.2.2.2.2.2.2.2.2.1 X.2.2.2.2.2.2.2.2.2.2.2.2.2.2.2.2.2.1 X.2.2.2.2.2.2.2.2.2.2.2.2.2.2.2.2.2.2).flatten H) (hD : va_D A (l_Model Z.2.1 Am X.1 X.2.1 X.2.2.1 X.2.2.2.1 X.2.2.2.2.1 X.2.2.2.2.2.1 X.2.2.2.2.2.2.1 X.2.2.2.2.2.2.2.1 X.2.2.2.2.2.2.2.2.1 X.2.2.2.2.2.2.2.2.2.1 X.2.2.2.2.2.2.2.2.2.2.1 X.2.2.2.2.2.2.2.2.2.2.2.1 X.2.2.2.2.2.2.2.2.2.2.2.2.1 X.2.2.2.2.2.2.2.2.2.2.2.2.2.1 X.2.2.2.2.2.2.2.2.2.2.2.2.2.2.1 X.2.2.2.2.2.2.2.2.2.2.2.2.2.2.2.1 X.2.2.2.2.2.2.2.2.2.2.2.2.2.2.2.2.1 X.2.2.2.2.2.2.2.2.2.2.2.2.2.2.2.2.2.1 X.2.2.2.2.2.2.2.2.2.2.2.2.2.2.2.2.2.2).flatten) (hS : va_S A s.heap H locs) (hl : lv_has ls 3 [(0, .ref (Am 0)), (1, .int p1)]), W p l e rm_X7_setsAll s m ([.ref (Am 0), .int p1] : List Value).toArray below meth c H locs 0 0 Q (F0 m 42 ls [])), W p l e rm_X7_setsAll s m ([.ref (Am 0), .int p1] : List Value).toArray below meth c H locs 0 0 Q (F0 m 12 ls []) := by
    skip
    refine z_loopE (fun rec ih v X hF H locs ls hP hD hS hl K1 => ?_)
    unfold b_X7_setsAll_12 at hF
    have J30 : ∀ (M : t_Model) (x2 : Int32) (hF : j_X7_setsAll_30 p1 rec M x2 = some X) (H : Heap) (locs : List Loc) (ls : Array Slot) (hP : va_P Z.1 vwCl (l_Model Z.2.1 Am M.1 M.2.1 M.2.2.1 M.2.2.2.1 M.2.2.2.2.1 M.2.2.2.2.2.1 M.2.2.2.2.2.2.1 M.2.2.2.2.2.2.2.1 M.2.2.2.2.2.2.2.2.1 M.2.2.2.2.2.2.2.2.2.1 M.2.2.2.2.2.2.2.2.2.2.1 M.2.2.2.2.2.2.2.2.2.2.2.1 M.2.2.2.2.2.2.2.2.2.2.2.2.1 M.2.2.2.2.2.2.2.2.2.2.2.2.2.1 M.2.2.2.2.2.2.2.2.2.2.2.2.2.2.1 M.2.2.2.2.2.2.2.2.2.2.2.2.2.2.2.1 M.2.2.2.2.2.2.2.2.2.2.2.2.2.2.2.2.1 M.2.2.2.2.2.2.2.2.2.2.2.2.2.2.2.2.2.1 M.2.2.2.2.2.2.2.2.2.2.2.2.2.2.2.2.2.2).flatten H) (hD : va_D A (l_Model Z.2.1 Am M.1 M.2.1 M.2.2.1 M.2.2.2.1 M.2.2.2.2.1 M.2.2.2.2.2.1 M.2.2.2.2.2.2.1 M.2.2.2.2.2.2.2.1 M.2.2.2.2.2.2.2.2.1 M.2.2.2.2.2.2.2.2.2.1 M.2.2.2.2.2.2.2.2.2.2.1 M.2.2.2.2.2.2.2.2.2.2.2.1 M.2.2.2.2.2.2.2.2.2.2.2.2.1 M.2.2.2.2.2.2.2.2.2.2.2.2.2.1 M.2.2.2.2.2.2.2.2.2.2.2.2.2.2.1 M.2.2.2.2.2.2.2.2.2.2.2.2.2.2.2.1 M.2.2.2.2.2.2.2.2.2.2.2.2.2.2.2.2.1 M.2.2.2.2.2.2.2.2.2.2.2.2.2.2.2.2.2.1 M.2.2.2.2.2.2.2.2.2.2.2.2.2.2.2.2.2.2).flatten) (hS : va_S A s.heap H locs) (hl : lv_has ls 3 [(0, .ref (Am 0)), (1, .int p1), (2, .int x2)]), W p l e rm_X7_setsAll s m ([.ref (Am 0), .int p1] : List Value).toArray below meth c H locs 0 0 Q (F0 m 30 ls []) := by
      intro M x2 hF H locs ls hP hD hS hl
      unfold j_X7_setsAll_30 at hF
      refine lv_aload_n hx hb (z_d hX7_setsAll_0 18 rfl) rfl (lv_at hl 0 rfl) ?_
      refine lv_iload_n hx hb (z_d hX7_setsAll_0 19 rfl) rfl (lv_at hl 2 rfl) ?_
      refine lv_iload_n hx hb (z_d hX7_setsAll_0 20 rfl) rfl (lv_at hl 1 rfl) ?_
      refine z_bnd hF (fun q2 hq2 hF => ?_)
      refine z_mu0 (z_rV (As := [.int x2, .int p1]) (rest := []) hx hb hml hown hts vt_X7_sets (c_X7_sets l Z Am M x2 p1 _ hq2) rfl rfl ⟨Nat.le_of_ble_eq_true rfl, Nat.le_of_ble_eq_true rfl⟩ k_m_X7_113 zPmu_blind (z_recv (q := (RX7, TX7, 19)) (ci := 7) (q0 := 0) hK (zP_reg hP 0 rfl) rfl rfl) (z_prem hK hP hD) rfl hl.1 (Nat.le_of_ble_eq_true rfl) (z_d hX7_setsAll_0 21 rfl) ⟨Nat.zero_le _, Nat.zero_le _⟩) hS hD (adr_Model _ _ _ _) (fun H locs hP hD hS => ?_)
      have hP : va_P Z.1 vwCl (l_Model Z.2.1 Am q2.1 q2.2.1 q2.2.2.1 q2.2.2.2.1 q2.2.2.2.2.1 q2.2.2.2.2.2.1 q2.2.2.2.2.2.2.1 q2.2.2.2.2.2.2.2.1 q2.2.2.2.2.2.2.2.2.1 q2.2.2.2.2.2.2.2.2.2.1 q2.2.2.2.2.2.2.2.2.2.2.1 q2.2.2.2.2.2.2.2.2.2.2.2.1 q2.2.2.2.2.2.2.2.2.2.2.2.2.1 q2.2.2.2.2.2.2.2.2.2.2.2.2.2.1 q2.2.2.2.2.2.2.2.2.2.2.2.2.2.2.1 q2.2.2.2.2.2.2.2.2.2.2.2.2.2.2.2.1 q2.2.2.2.2.2.2.2.2.2.2.2.2.2.2.2.2.1 q2.2.2.2.2.2.2.2.2.2.2.2.2.2.2.2.2.2.1 q2.2.2.2.2.2.2.2.2.2.2.2.2.2.2.2.2.2.2).flatten H := hP
      have hD : va_D A (l_Model Z.2.1 Am q2.1 q2.2.1 q2.2.2.1 q2.2.2.2.1 q2.2.2.2.2.1 q2.2.2.2.2.2.1 q2.2.2.2.2.2.2.1 q2.2.2.2.2.2.2.2.1 q2.2.2.2.2.2.2.2.2.1 q2.2.2.2.2.2.2.2.2.2.1 q2.2.2.2.2.2.2.2.2.2.2.1 q2.2.2.2.2.2.2.2.2.2.2.2.1 q2.2.2.2.2.2.2.2.2.2.2.2.2.1 q2.2.2.2.2.2.2.2.2.2.2.2.2.2.1 q2.2.2.2.2.2.2.2.2.2.2.2.2.2.2.1 q2.2.2.2.2.2.2.2.2.2.2.2.2.2.2.2.1 q2.2.2.2.2.2.2.2.2.2.2.2.2.2.2.2.2.1 q2.2.2.2.2.2.2.2.2.2.2.2.2.2.2.2.2.2.1 q2.2.2.2.2.2.2.2.2.2.2.2.2.2.2.2.2.2.2).flatten := hD
      refine W.eq (g2 := F0 m 36 ls []) rfl ?_
      refine z_let hF (fun u3 hu3 hF => ?_)
      refine lv_iinc (v := u3) (lv' := [(2, .int u3), (0, .ref (Am 0)), (1, .int p1)]) hx hb (z_d hX7_setsAll_0 22 rfl) hl (k := 2) rfl (z_inc1 hu3) (by decide) rfl (fun ls hl => ?_)
      refine lv_goto (tgt := 12) hx hb (z_d hX7_setsAll_0 23 rfl) (by decide) ?_
      exact ih _ _ hF _ _ ls hP hD hS (lv_sub hl [1, 2, 0] rfl) K1
    refine lv_iload_n hx hb (z_d hX7_setsAll_0 8 rfl) rfl (lv_at hl 2 rfl) ?_
    refine lv_aload_n hx hb (z_d hX7_setsAll_0 9 rfl) rfl (lv_at hl 0 rfl) ?_
    refine va_get (D := Z.1) (ci := 7) (v := .ref (Am 1)) (C := RX7) (T := TX7) (N := 19) hx hb hts zinX7 hown hK.1 (zP_reg hP 0 rfl) 0 rfl rfl 0 (by decide) (hts _ k_f_X7_7) (fun _ h9 => h9) rfl (z_d hX7_setsAll_0 10 rfl) ?_
    refine lv_iconst (v := 1) hx hb (z_d hX7_setsAll_0 11 rfl) (by decide) ?_
    refine z_ix hF (fun hin hF => ?_)
    refine va_iald (D := Z.1) (f := v.1.1) hx hb hK.1 (zP_reg hP 1 rfl) 0 0 rfl rfl hin (z_d hX7_setsAll_0 12 rfl) ?_
    refine z_let hF (fun u1 hu1 hF => ?_)
    refine lv_topE hu1 ?_
    refine lv_icmp_ge (tgt := 42) hx hb (z_d hX7_setsAll_0 13 rfl) (by decide) (fun hc19 => ?_) (fun hc19 => ?_)
    · have hF := z_pos hc19 hF
      obtain rfl := Option.some.inj hF
      exact K1 _ _ ls hP hD hS (lv_sub hl [0, 1] rfl)
    · have hF := z_neg hc19 hF
      refine lv_iload_n hx hb (z_d hX7_setsAll_0 14 rfl) rfl (lv_at hl 2 rfl) ?_
      refine lv_if_ne (tgt := 30) hx hb (z_d hX7_setsAll_0 15 rfl) (by decide) (fun hc23 => ?_) (fun hc23 => ?_)
      · have hF := z_neg hc23 hF
        exact J30 v.1 v.2 hF _ _ ls hP hD hS (lv_sub hl [0, 1, 2] rfl)
      · have hF := z_pos hc23 hF
        refine lv_aload_n hx hb (z_d hX7_setsAll_0 16 rfl) rfl (lv_at hl 0 rfl) ?_
        refine z_bnd hF (fun q4 hq4 hF => ?_)
        refine z_mu0 (z_rV (As := []) (rest := []) hx hb hml hown hts vt_X7_newPage (c_X7_newPage l Z Am v.1 _ hq4) rfl rfl ⟨Nat.le_of_ble_eq_true rfl, Nat.le_of_ble_eq_true rfl⟩ k_m_X7_107 zPmu_blind (z_recv (q := (RX7, TX7, 19)) (ci := 7) (q0 := 0) hK (zP_reg hP 0 rfl) rfl rfl) (z_prem hK hP hD) rfl hl.1 (Nat.le_of_ble_eq_true rfl) (z_d hX7_setsAll_0 17 rfl) ⟨Nat.zero_le _, Nat.zero_le _⟩) hS hD (adr_Model _ _ _ _) (fun H locs hP hD hS => ?_)
        have hP : va_P Z.1 vwCl (l_Model Z.2.1 Am q4.1 q4.2.1 q4.2.2.1 q4.2.2.2.1 q4.2.2.2.2.1 q4.2.2.2.2.2.1 q4.2.2.2.2.2.2.1 q4.2.2.2.2.2.2.2.1 q4.2.2.2.2.2.2.2.2.1 q4.2.2.2.2.2.2.2.2.2.1 q4.2.2.2.2.2.2.2.2.2.2.1 q4.2.2.2.2.2.2.2.2.2.2.2.1 q4.2.2.2.2.2.2.2.2.2.2.2.2.1 q4.2.2.2.2.2.2.2.2.2.2.2.2.2.1 q4.2.2.2.2.2.2.2.2.2.2.2.2.2.2.1 q4.2.2.2.2.2.2.2.2.2.2.2.2.2.2.2.1 q4.2.2.2.2.2.2.2.2.2.2.2.2.2.2.2.2.1 q4.2.2.2.2.2.2.2.2.2.2.2.2.2.2.2.2.2.1 q4.2.2.2.2.2.2.2.2.2.2.2.2.2.2.2.2.2.2).flatten H := hP
        have hD : va_D A (l_Model Z.2.1 Am q4.1 q4.2.1 q4.2.2.1 q4.2.2.2.1 q4.2.2.2.2.1 q4.2.2.2.2.2.1 q4.2.2.2.2.2.2.1 q4.2.2.2.2.2.2.2.1 q4.2.2.2.2.2.2.2.2.1 q4.2.2.2.2.2.2.2.2.2.1 q4.2.2.2.2.2.2.2.2.2.2.1 q4.2.2.2.2.2.2.2.2.2.2.2.1 q4.2.2.2.2.2.2.2.2.2.2.2.2.1 q4.2.2.2.2.2.2.2.2.2.2.2.2.2.1 q4.2.2.2.2.2.2.2.2.2.2.2.2.2.2.1 q4.2.2.2.2.2.2.2.2.2.2.2.2.2.2.2.1 q4.2.2.2.2.2.2.2.2.2.2.2.2.2.2.2.2.1 q4.2.2.2.2.2.2.2.2.2.2.2.2.2.2.2.2.2.1 q4.2.2.2.2.2.2.2.2.2.2.2.2.2.2.2.2.2.2).flatten := hD
        refine W.eq (g2 := F0 m 30 ls []) rfl ?_
        exact J30 q4 v.2 hF _ _ ls hP hD hS (lv_sub hl [0, 1, 2] rfl)
  refine lv_aload_n hx hb (z_d hX7_setsAll_0 0 rfl) rfl (lv_at hl 0 rfl) ?_
  refine lv_iconst (v := 0) hx hb (z_d hX7_setsAll_0 1 rfl) (by decide) ?_
  refine z_put (Z := Z) (ci := 7) (v := .int 0) (ty := .int) (L := l_Model Z.2.1 Am M.1 M.2.1 M.2.2.1 M.2.2.2.1 M.2.2.2.2.1 M.2.2.2.2.2.1 M.2.2.2.2.2.2.1 M.2.2.2.2.2.2.2.1 M.2.2.2.2.2.2.2.2.1 M.2.2.2.2.2.2.2.2.2.1 M.2.2.2.2.2.2.2.2.2.2.1 M.2.2.2.2.2.2.2.2.2.2.2.1 M.2.2.2.2.2.2.2.2.2.2.2.2.1 M.2.2.2.2.2.2.2.2.2.2.2.2.2.1 M.2.2.2.2.2.2.2.2.2.2.2.2.2.2.1 M.2.2.2.2.2.2.2.2.2.2.2.2.2.2.2.1 M.2.2.2.2.2.2.2.2.2.2.2.2.2.2.2.2.1 M.2.2.2.2.2.2.2.2.2.2.2.2.2.2.2.2.2.1 M.2.2.2.2.2.2.2.2.2.2.2.2.2.2.2.2.2.2) (L' := l_Model Z.2.1 Am M.1 M.2.1 M.2.2.1 M.2.2.2.1 M.2.2.2.2.1 M.2.2.2.2.2.1 M.2.2.2.2.2.2.1 0 M.2.2.2.2.2.2.2.2.1 M.2.2.2.2.2.2.2.2.2.1 M.2.2.2.2.2.2.2.2.2.2.1 M.2.2.2.2.2.2.2.2.2.2.2.1 M.2.2.2.2.2.2.2.2.2.2.2.2.1 M.2.2.2.2.2.2.2.2.2.2.2.2.2.1 M.2.2.2.2.2.2.2.2.2.2.2.2.2.2.1 M.2.2.2.2.2.2.2.2.2.2.2.2.2.2.2.1 M.2.2.2.2.2.2.2.2.2.2.2.2.2.2.2.2.1 M.2.2.2.2.2.2.2.2.2.2.2.2.2.2.2.2.2.1 M.2.2.2.2.2.2.2.2.2.2.2.2.2.2.2.2.2.2) (C := RX7) (T := TX7) (N := 19) hx hb hts zinX7 tyX7 tyX7_ok nmX7 hown hK hP hD hS 0 rfl rfl 7 (by decide) (hts _ k_f_X7_101) (fun _ h9 => h9) rfl (tyX7_ok 7 (by decide)) rfl rfl (Nat.le_of_ble_eq_true rfl) rfl (z_d hX7_setsAll_0 2 rfl) (fun H locs hP hD hS => ?_)
  refine lv_aload_n hx hb (z_d hX7_setsAll_0 3 rfl) rfl (lv_at hl 0 rfl) ?_
  refine lv_iconst (v := 0) hx hb (z_d hX7_setsAll_0 4 rfl) (by decide) ?_
  refine z_put (Z := Z) (ci := 7) (v := .int 0) (ty := .int) (L := l_Model Z.2.1 Am M.1 M.2.1 M.2.2.1 M.2.2.2.1 M.2.2.2.2.1 M.2.2.2.2.2.1 M.2.2.2.2.2.2.1 0 M.2.2.2.2.2.2.2.2.1 M.2.2.2.2.2.2.2.2.2.1 M.2.2.2.2.2.2.2.2.2.2.1 M.2.2.2.2.2.2.2.2.2.2.2.1 M.2.2.2.2.2.2.2.2.2.2.2.2.1 M.2.2.2.2.2.2.2.2.2.2.2.2.2.1 M.2.2.2.2.2.2.2.2.2.2.2.2.2.2.1 M.2.2.2.2.2.2.2.2.2.2.2.2.2.2.2.1 M.2.2.2.2.2.2.2.2.2.2.2.2.2.2.2.2.1 M.2.2.2.2.2.2.2.2.2.2.2.2.2.2.2.2.2.1 M.2.2.2.2.2.2.2.2.2.2.2.2.2.2.2.2.2.2) (L' := l_Model Z.2.1 Am M.1 M.2.1 M.2.2.1 M.2.2.2.1 M.2.2.2.2.1 M.2.2.2.2.2.1 M.2.2.2.2.2.2.1 0 0 M.2.2.2.2.2.2.2.2.2.1 M.2.2.2.2.2.2.2.2.2.2.1 M.2.2.2.2.2.2.2.2.2.2.2.1 M.2.2.2.2.2.2.2.2.2.2.2.2.1 M.2.2.2.2.2.2.2.2.2.2.2.2.2.1 M.2.2.2.2.2.2.2.2.2.2.2.2.2.2.1 M.2.2.2.2.2.2.2.2.2.2.2.2.2.2.2.1 M.2.2.2.2.2.2.2.2.2.2.2.2.2.2.2.2.1 M.2.2.2.2.2.2.2.2.2.2.2.2.2.2.2.2.2.1 M.2.2.2.2.2.2.2.2.2.2.2.2.2.2.2.2.2.2) (C := RX7) (T := TX7) (N := 19) hx hb hts zinX7 tyX7 tyX7_ok nmX7 hown hK hP hD hS 0 rfl rfl 8 (by decide) (hts _ k_f_X7_110) (fun _ h9 => h9) rfl (tyX7_ok 8 (by decide)) rfl rfl (Nat.le_of_ble_eq_true rfl) rfl (z_d hX7_setsAll_0 5 rfl) (fun H locs hP hD hS => ?_)
  refine lv_iconst (v := 0) hx hb (z_d hX7_setsAll_0 6 rfl) (by decide) ?_
  refine lv_istore_n (lv' := [(2, .int 0), (0, .ref (Am 0)), (1, .int p1)]) hx hb (z_d hX7_setsAll_0 7 rfl) rfl hl (by decide) rfl (fun ls hl => ?_)
  refine z_bnd hF (fun q5 hq5 hF => ?_)
  refine L12  _ _ _ hq5 _ _ ls hP hD hS (lv_sub hl [1, 2, 0] rfl) (fun H locs ls hP hD hS hl => ?_)
  obtain rfl := Option.some.inj hF
  subst hQ
  subst hA
  exact W.vret hx hb hr (fun t ht hW => zq_mu (by rw [ht]; exact hP) (hS.F ht)) hS.2.2 (z_d hX7_setsAll_0 24 rfl)
def rm_X7_pagesIf : Room := { frames := 6, cells := 0, slots := 0, locals := 141 }
set_option maxRecDepth 100000 in
set_option maxHeartbeats 4000000 in
theorem c_X7_pagesIf (l : Launch) (Z : zZ) (Am : Nat → Nat) (M : t_Model) (p1 : Int32) (R : Int32 × t_Model) (hF : X7_pagesIf M p1 = some R) : zMU l yX7_pagesIf (zw yX7_pagesIf cX7_pagesIf 2 (some .int)) rm_X7_pagesIf Z [.ref (Am 0), .int p1] (w_Model Z.2.1 Am M) (w_Model Z.2.1 Am R.2) (some (.int R.1)) := by
  refine zMU_of (by decide) (Nat.le_of_ble_eq_true rfl) (fun p e s m below meth c hx hb hr hml hown hts hlocks hK A hA Q hQ ls hl hP hD hS => ?_)
  unfold X7_pagesIf at hF
  have hl : lv_has ls 2 [(0, .ref (Am 0)), (1, .int p1)] := hl
  have hown : s.vm.findClass RX7 = some m.cls := hown
  have hP : va_P Z.1 vwCl (l_Model Z.2.1 Am M.1 M.2.1 M.2.2.1 M.2.2.2.1 M.2.2.2.2.1 M.2.2.2.2.2.1 M.2.2.2.2.2.2.1 M.2.2.2.2.2.2.2.1 M.2.2.2.2.2.2.2.2.1 M.2.2.2.2.2.2.2.2.2.1 M.2.2.2.2.2.2.2.2.2.2.1 M.2.2.2.2.2.2.2.2.2.2.2.1 M.2.2.2.2.2.2.2.2.2.2.2.2.1 M.2.2.2.2.2.2.2.2.2.2.2.2.2.1 M.2.2.2.2.2.2.2.2.2.2.2.2.2.2.1 M.2.2.2.2.2.2.2.2.2.2.2.2.2.2.2.1 M.2.2.2.2.2.2.2.2.2.2.2.2.2.2.2.2.1 M.2.2.2.2.2.2.2.2.2.2.2.2.2.2.2.2.2.1 M.2.2.2.2.2.2.2.2.2.2.2.2.2.2.2.2.2.2).flatten s.heap := hP
  have hD : va_D A (l_Model Z.2.1 Am M.1 M.2.1 M.2.2.1 M.2.2.2.1 M.2.2.2.2.1 M.2.2.2.2.2.1 M.2.2.2.2.2.2.1 M.2.2.2.2.2.2.2.1 M.2.2.2.2.2.2.2.2.1 M.2.2.2.2.2.2.2.2.2.1 M.2.2.2.2.2.2.2.2.2.2.1 M.2.2.2.2.2.2.2.2.2.2.2.1 M.2.2.2.2.2.2.2.2.2.2.2.2.1 M.2.2.2.2.2.2.2.2.2.2.2.2.2.1 M.2.2.2.2.2.2.2.2.2.2.2.2.2.2.1 M.2.2.2.2.2.2.2.2.2.2.2.2.2.2.2.1 M.2.2.2.2.2.2.2.2.2.2.2.2.2.2.2.2.1 M.2.2.2.2.2.2.2.2.2.2.2.2.2.2.2.2.2.1 M.2.2.2.2.2.2.2.2.2.2.2.2.2.2.2.2.2.2).flatten := hD
  refine lv_aload_n hx hb (z_d hX7_pagesIf_0 0 rfl) rfl (lv_at hl 0 rfl) ?_
  refine lv_iload_n hx hb (z_d hX7_pagesIf_0 1 rfl) rfl (lv_at hl 1 rfl) ?_
  refine z_bnd hF (fun q1 hq1 hF => ?_)
  refine z_mu0 (z_rV (As := [.int p1]) (rest := []) hx hb hml hown hts vt_X7_setsAll (c_X7_setsAll l Z Am M p1 _ hq1) rfl rfl ⟨Nat.le_of_ble_eq_true rfl, Nat.le_of_ble_eq_true rfl⟩ k_m_X7_117 zPmu_blind (z_recv (q := (RX7, TX7, 19)) (ci := 7) (q0 := 0) hK (zP_reg hP 0 rfl) rfl rfl) (z_prem hK hP hD) rfl hl.1 (Nat.le_of_ble_eq_true rfl) (z_d hX7_pagesIf_0 2 rfl) ⟨Nat.zero_le _, Nat.zero_le _⟩) hS hD (adr_Model _ _ _ _) (fun H locs hP hD hS => ?_)
  have hP : va_P Z.1 vwCl (l_Model Z.2.1 Am q1.1 q1.2.1 q1.2.2.1 q1.2.2.2.1 q1.2.2.2.2.1 q1.2.2.2.2.2.1 q1.2.2.2.2.2.2.1 q1.2.2.2.2.2.2.2.1 q1.2.2.2.2.2.2.2.2.1 q1.2.2.2.2.2.2.2.2.2.1 q1.2.2.2.2.2.2.2.2.2.2.1 q1.2.2.2.2.2.2.2.2.2.2.2.1 q1.2.2.2.2.2.2.2.2.2.2.2.2.1 q1.2.2.2.2.2.2.2.2.2.2.2.2.2.1 q1.2.2.2.2.2.2.2.2.2.2.2.2.2.2.1 q1.2.2.2.2.2.2.2.2.2.2.2.2.2.2.2.1 q1.2.2.2.2.2.2.2.2.2.2.2.2.2.2.2.2.1 q1.2.2.2.2.2.2.2.2.2.2.2.2.2.2.2.2.2.1 q1.2.2.2.2.2.2.2.2.2.2.2.2.2.2.2.2.2.2).flatten H := hP
  have hD : va_D A (l_Model Z.2.1 Am q1.1 q1.2.1 q1.2.2.1 q1.2.2.2.1 q1.2.2.2.2.1 q1.2.2.2.2.2.1 q1.2.2.2.2.2.2.1 q1.2.2.2.2.2.2.2.1 q1.2.2.2.2.2.2.2.2.1 q1.2.2.2.2.2.2.2.2.2.1 q1.2.2.2.2.2.2.2.2.2.2.1 q1.2.2.2.2.2.2.2.2.2.2.2.1 q1.2.2.2.2.2.2.2.2.2.2.2.2.1 q1.2.2.2.2.2.2.2.2.2.2.2.2.2.1 q1.2.2.2.2.2.2.2.2.2.2.2.2.2.2.1 q1.2.2.2.2.2.2.2.2.2.2.2.2.2.2.2.1 q1.2.2.2.2.2.2.2.2.2.2.2.2.2.2.2.2.1 q1.2.2.2.2.2.2.2.2.2.2.2.2.2.2.2.2.2.1 q1.2.2.2.2.2.2.2.2.2.2.2.2.2.2.2.2.2.2).flatten := hD
  refine W.eq (g2 := F0 m 5 ls []) rfl ?_
  refine lv_aload_n hx hb (z_d hX7_pagesIf_0 3 rfl) rfl (lv_at hl 0 rfl) ?_
  refine va_get (D := Z.1) (ci := 7) (v := .int q1.2.2.2.2.2.2.2.1) (C := RX7) (T := TX7) (N := 19) hx hb hts zinX7 hown hK.1 (zP_reg hP 0 rfl) 0 rfl rfl 7 (by decide) (hts _ k_f_X7_101) (fun _ h9 => h9) rfl (z_d hX7_pagesIf_0 4 rfl) ?_
  obtain rfl := Option.some.inj hF
  subst hQ
  subst hA
  exact W.iret hx hb hr (fun t ht hW => zq_mu (by rw [ht]; exact hP) (hS.F ht)) hS.2.2 (z_d hX7_pagesIf_0 5 rfl)
def rm_X7_marks : Room := { frames := 1, cells := 0, slots := 0, locals := 22 }
set_option maxRecDepth 100000 in
set_option maxHeartbeats 4000000 in
theorem c_X7_marks (l : Launch) (Z : zZ) (Am : Nat → Nat) (M : t_Model) (R : Int32) (hF : X7_marks M = some R) : zRO l yX7_marks (zw yX7_marks cX7_marks 3 (some .int)) rm_X7_marks Z [.ref (Am 0)] (w_Model Z.2.1 Am M) (some (.int R)) := by
  refine zRO_of (by decide) (Nat.le_of_ble_eq_true rfl) (fun p e s m below meth c hx hb hr hml hown hts hlocks hK Q hQ ls hl hP hS => ?_)
  unfold X7_marks at hF
  have hl : lv_has ls 3 [(0, .ref (Am 0))] := hl
  have hown : s.vm.findClass RX7 = some m.cls := hown
  have hP : va_P Z.1 vwCl (l_Model Z.2.1 Am M.1 M.2.1 M.2.2.1 M.2.2.2.1 M.2.2.2.2.1 M.2.2.2.2.2.1 M.2.2.2.2.2.2.1 M.2.2.2.2.2.2.2.1 M.2.2.2.2.2.2.2.2.1 M.2.2.2.2.2.2.2.2.2.1 M.2.2.2.2.2.2.2.2.2.2.1 M.2.2.2.2.2.2.2.2.2.2.2.1 M.2.2.2.2.2.2.2.2.2.2.2.2.1 M.2.2.2.2.2.2.2.2.2.2.2.2.2.1 M.2.2.2.2.2.2.2.2.2.2.2.2.2.2.1 M.2.2.2.2.2.2.2.2.2.2.2.2.2.2.2.1 M.2.2.2.2.2.2.2.2.2.2.2.2.2.2.2.2.1 M.2.2.2.2.2.2.2.2.2.2.2.2.2.2.2.2.2.1 M.2.2.2.2.2.2.2.2.2.2.2.2.2.2.2.2.2.2).flatten s.heap := hP
  have L4 : ∀  (n : Nat) (v : Int32 × Int32) (X : Int32) (hF : zloop (b_X7_marks_4 M ) n v = some X) (H : Heap) (locs : List Loc) (ls : Array Slot) (hP : va_P Z.1 vwCl (l_Model Z.2.1 Am M.1 M.2.1 M.2.2.1 M.2.2.2.1 M.2.2.2.2.1 M.2.2.2.2.2.1 M.2.2.2.2.2.2.1 M.2.2.2.2.2.2.2.1 M.2.2.2.2.2.2.2.2.1 M.2.2.2.2.2.2.2.2.2.1 M.2.2.2.2.2.2.2.2.2.2.1 M.2.2.2.2.2.2.2.2.2.2.2.1 M.2.2.2.2.2.2.2.2.2.2.2.2.1 M.2.2.2.2.2.2.2.2.2.2.2.2.2.1 M.2.2.2.2.2.2.2.2.2.2.2.2.2.2.1 M.2.2.2.2.2.2.2.2.2.2.2.2.2.2.2.1 M.2.2.2.2.2.2.2.2.2.2.2.2.2.2.2.2.1 M.2.2.2.2.2.2.2.2.2.2.2.2.2.2.2.2.2.1 M.2.2.2.2.2.2.2.2.2.2.2.2.2.2.2.2.2.2).flatten H) (hS : va_S (fun _ => False) s.heap H locs) (hl : lv_has ls 3 [(0, .ref (Am 0)), (1, .int v.1), (2, .int v.2)]) (K1 : ∀ (H : Heap) (locs : List Loc) (ls : Array Slot) (hP : va_P Z.1 vwCl (l_Model Z.2.1 Am M.1 M.2.1 M.2.2.1 M.2.2.2.1 M.2.2.2.2.1 M.2.2.2.2.2.1 M.2.2.2.2.2.2.1 M.2.2.2.2.2.2.2.1 M.2.2.2.2.2.2.2.2.1 M.2.2.2.2.2.2.2.2.2.1 M.2.2.2.2.2.2.2.2.2.2.1 M.2.2.2.2.2.2.2.2.2.2.2.1 M.2.2.2.2.2.2.2.2.2.2.2.2.1 M.2.2.2.2.2.2.2.2.2.2.2.2.2.1 M.2.2.2.2.2.2.2.2.2.2.2.2.2.2.1 M.2.2.2.2.2.2.2.2.2.2.2.2.2.2.2.1 M.2.2.2.2.2.2.2.2.2.2.2.2.2.2.2.2.1 M.2.2.2.2.2.2.2.2.2.2.2.2.2.2.2.2.2.1 M.2.2.2.2.2.2.2.2.2.2.2.2.2.2.2.2.2.2).flatten H) (hS : va_S (fun _ => False) s.heap H locs) (hl : lv_has ls 3 [(0, .ref (Am 0)), (1, .int X)]), W p l e rm_X7_marks s m ([.ref (Am 0)] : List Value).toArray below meth c H locs 0 0 Q (F0 m 39 ls [])), W p l e rm_X7_marks s m ([.ref (Am 0)] : List Value).toArray below meth c H locs 0 0 Q (F0 m 4 ls []) := by
    skip
    refine z_loopE (fun rec ih v X hF H locs ls hP hS hl K1 => ?_)
    unfold b_X7_marks_4 at hF
    refine lv_iload_n hx hb (z_d hX7_marks_0 4 rfl) rfl (lv_at hl 2 rfl) ?_
    refine lv_aload_n hx hb (z_d hX7_marks_0 5 rfl) rfl (lv_at hl 0 rfl) ?_
    refine va_get (D := Z.1) (ci := 7) (v := .ref (Am 1)) (C := RX7) (T := TX7) (N := 19) hx hb hts zinX7 hown hK.1 (zP_reg hP 0 rfl) 0 rfl rfl 0 (by decide) (hts _ k_f_X7_7) (fun _ h9 => h9) rfl (z_d hX7_marks_0 6 rfl) ?_
    refine lv_iconst (v := 1) hx hb (z_d hX7_marks_0 7 rfl) (by decide) ?_
    refine z_ix hF (fun hin hF => ?_)
    refine va_iald (D := Z.1) (f := M.1) hx hb hK.1 (zP_reg hP 1 rfl) 0 0 rfl rfl hin (z_d hX7_marks_0 8 rfl) ?_
    refine z_let hF (fun u1 hu1 hF => ?_)
    refine lv_topE hu1 ?_
    refine lv_icmp_ge (tgt := 39) hx hb (z_d hX7_marks_0 9 rfl) (by decide) (fun hc11 => ?_) (fun hc11 => ?_)
    · have hF := z_pos hc11 hF
      obtain rfl := Option.some.inj hF
      exact K1 _ _ ls hP hS (lv_sub hl [0, 1] rfl)
    · have hF := z_neg hc11 hF
      refine lv_iload_n hx hb (z_d hX7_marks_0 10 rfl) rfl (lv_at hl 1 rfl) ?_
      refine lv_aload_n hx hb (z_d hX7_marks_0 11 rfl) rfl (lv_at hl 0 rfl) ?_
      refine lv_iload_n hx hb (z_d hX7_marks_0 12 rfl) rfl (lv_at hl 2 rfl) ?_
      refine lv_bipush (v := 8) hx hb (z_d hX7_marks_0 13 rfl) (by decide) ?_
      refine z_bnd hF (fun q2 hq2 hF => ?_)
      refine z_ro_i (z_rV (As := [.int v.2, .int 8]) (rest := [.int v.1]) hx hb hml hown hts vt_X7_of (c_X7_of l Z Am M v.2 8 _ hq2) rfl rfl ⟨Nat.le_of_ble_eq_true rfl, Nat.le_of_ble_eq_true rfl⟩ k_m_X7_62 zPro_blind (z_recv (q := (RX7, TX7, 19)) (ci := 7) (q0 := 0) hK (zP_reg hP 0 rfl) rfl rfl) (z_prec hK hP) rfl hl.1 (Nat.le_of_ble_eq_true rfl) (z_d hX7_marks_0 14 rfl) ⟨Nat.zero_le _, Nat.zero_le _⟩) hS hP (fun H locs hP hS => ?_)
      refine lv_iconst (v := (-1)) hx hb (z_d hX7_marks_0 15 rfl) (by decide) ?_
      refine lv_icmp_ne (tgt := 30) hx hb (z_d hX7_marks_0 16 rfl) (by decide) (fun hc23 => ?_) (fun hc23 => ?_)
      · have hF := z_neg hc23 hF
        refine lv_iconst (v := 1) hx hb (z_d hX7_marks_0 19 rfl) (by decide) ?_
        refine lv_iadd hx hb (z_d hX7_marks_0 20 rfl) ?_
        refine z_let hF (fun u3 hu3 hF => ?_)
        refine lv_topE hu3 ?_
        refine lv_istore_n (lv' := [(1, .int u3), (0, .ref (Am 0)), (2, .int v.2)]) hx hb (z_d hX7_marks_0 21 rfl) rfl hl (by decide) rfl (fun ls hl => ?_)
        refine z_let hF (fun u4 hu4 hF => ?_)
        refine lv_iinc (v := u4) (lv' := [(2, .int u4), (1, .int u3), (0, .ref (Am 0))]) hx hb (z_d hX7_marks_0 22 rfl) hl (k := 2) rfl (z_inc1 hu4) (by decide) rfl (fun ls hl => ?_)
        refine lv_goto (tgt := 4) hx hb (z_d hX7_marks_0 23 rfl) (by decide) ?_
        exact ih _ _ hF _ _ ls hP hS (lv_sub hl [2, 1, 0] rfl) K1
      · have hF := z_pos hc23 hF
        refine lv_iconst (v := 0) hx hb (z_d hX7_marks_0 17 rfl) (by decide) ?_
        refine lv_goto (tgt := 31) hx hb (z_d hX7_marks_0 18 rfl) (by decide) ?_
        refine lv_iadd hx hb (z_d hX7_marks_0 20 rfl) ?_
        refine z_let hF (fun u5 hu5 hF => ?_)
        refine lv_topE hu5 ?_
        refine lv_istore_n (lv' := [(1, .int u5), (0, .ref (Am 0)), (2, .int v.2)]) hx hb (z_d hX7_marks_0 21 rfl) rfl hl (by decide) rfl (fun ls hl => ?_)
        refine z_let hF (fun u6 hu6 hF => ?_)
        refine lv_iinc (v := u6) (lv' := [(2, .int u6), (1, .int u5), (0, .ref (Am 0))]) hx hb (z_d hX7_marks_0 22 rfl) hl (k := 2) rfl (z_inc1 hu6) (by decide) rfl (fun ls hl => ?_)
        refine lv_goto (tgt := 4) hx hb (z_d hX7_marks_0 23 rfl) (by decide) ?_
        exact ih _ _ hF _ _ ls hP hS (lv_sub hl [2, 1, 0] rfl) K1
  refine lv_iconst (v := 0) hx hb (z_d hX7_marks_0 0 rfl) (by decide) ?_
  refine lv_istore_n (lv' := [(1, .int 0), (0, .ref (Am 0))]) hx hb (z_d hX7_marks_0 1 rfl) rfl hl (by decide) rfl (fun ls hl => ?_)
  refine lv_iconst (v := 0) hx hb (z_d hX7_marks_0 2 rfl) (by decide) ?_
  refine lv_istore_n (lv' := [(2, .int 0), (1, .int 0), (0, .ref (Am 0))]) hx hb (z_d hX7_marks_0 3 rfl) rfl hl (by decide) rfl (fun ls hl => ?_)
  refine z_bnd hF (fun q7 hq7 hF => ?_)
  refine L4  _ _ _ hq7 _ _ ls hP hS (lv_sub hl [2, 1, 0] rfl) (fun H locs ls hP hS hl => ?_)
  refine lv_iload_n hx hb (z_d hX7_marks_0 24 rfl) rfl (lv_at hl 1 rfl) ?_
  obtain rfl := Option.some.inj hF
  subst hQ
  exact W.iret hx hb hr (fun t ht hW => zq_ro (hS.F ht)) hS.2.2 (z_d hX7_marks_0 25 rfl)
def rm_X7_pageLabel : Room := { frames := 2, cells := 0, slots := 0, locals := 44 }
set_option maxRecDepth 100000 in
set_option maxHeartbeats 4000000 in
theorem c_X7_pageLabel (l : Launch) (Z : zZ) (Am : Nat → Nat) (M : t_Model) (p1 : Int32) (p2 : Int32) (R : Int32) (hF : X7_pageLabel M p1 p2 = some R) : zRO l yX7_pageLabel (zw yX7_pageLabel cX7_pageLabel 4 (some .int)) rm_X7_pageLabel Z [.ref (Am 0), .int p1, .int p2] (w_Model Z.2.1 Am M) (some (.int R)) := by
  refine zRO_of (by decide) (Nat.le_of_ble_eq_true rfl) (fun p e s m below meth c hx hb hr hml hown hts hlocks hK Q hQ ls hl hP hS => ?_)
  unfold X7_pageLabel at hF
  have hl : lv_has ls 4 [(0, .ref (Am 0)), (1, .int p1), (2, .int p2)] := hl
  have hown : s.vm.findClass RX7 = some m.cls := hown
  have hP : va_P Z.1 vwCl (l_Model Z.2.1 Am M.1 M.2.1 M.2.2.1 M.2.2.2.1 M.2.2.2.2.1 M.2.2.2.2.2.1 M.2.2.2.2.2.2.1 M.2.2.2.2.2.2.2.1 M.2.2.2.2.2.2.2.2.1 M.2.2.2.2.2.2.2.2.2.1 M.2.2.2.2.2.2.2.2.2.2.1 M.2.2.2.2.2.2.2.2.2.2.2.1 M.2.2.2.2.2.2.2.2.2.2.2.2.1 M.2.2.2.2.2.2.2.2.2.2.2.2.2.1 M.2.2.2.2.2.2.2.2.2.2.2.2.2.2.1 M.2.2.2.2.2.2.2.2.2.2.2.2.2.2.2.1 M.2.2.2.2.2.2.2.2.2.2.2.2.2.2.2.2.1 M.2.2.2.2.2.2.2.2.2.2.2.2.2.2.2.2.2.1 M.2.2.2.2.2.2.2.2.2.2.2.2.2.2.2.2.2.2).flatten s.heap := hP
  have L21 : ∀  (n : Nat) (v : Int32) (X : Int32) (hF : zloop (b_X7_pageLabel_21 M p1 p2 ) n v = some X) (H : Heap) (locs : List Loc) (ls : Array Slot) (hP : va_P Z.1 vwCl (l_Model Z.2.1 Am M.1 M.2.1 M.2.2.1 M.2.2.2.1 M.2.2.2.2.1 M.2.2.2.2.2.1 M.2.2.2.2.2.2.1 M.2.2.2.2.2.2.2.1 M.2.2.2.2.2.2.2.2.1 M.2.2.2.2.2.2.2.2.2.1 M.2.2.2.2.2.2.2.2.2.2.1 M.2.2.2.2.2.2.2.2.2.2.2.1 M.2.2.2.2.2.2.2.2.2.2.2.2.1 M.2.2.2.2.2.2.2.2.2.2.2.2.2.1 M.2.2.2.2.2.2.2.2.2.2.2.2.2.2.1 M.2.2.2.2.2.2.2.2.2.2.2.2.2.2.2.1 M.2.2.2.2.2.2.2.2.2.2.2.2.2.2.2.2.1 M.2.2.2.2.2.2.2.2.2.2.2.2.2.2.2.2.2.1 M.2.2.2.2.2.2.2.2.2.2.2.2.2.2.2.2.2.2).flatten H) (hS : va_S (fun _ => False) s.heap H locs) (hl : lv_has ls 4 [(0, .ref (Am 0)), (1, .int p1), (2, .int p2), (3, .int v)]) (K1 : ∀ (H : Heap) (locs : List Loc) (ls : Array Slot) (hP : va_P Z.1 vwCl (l_Model Z.2.1 Am M.1 M.2.1 M.2.2.1 M.2.2.2.1 M.2.2.2.2.1 M.2.2.2.2.2.1 M.2.2.2.2.2.2.1 M.2.2.2.2.2.2.2.1 M.2.2.2.2.2.2.2.2.1 M.2.2.2.2.2.2.2.2.2.1 M.2.2.2.2.2.2.2.2.2.2.1 M.2.2.2.2.2.2.2.2.2.2.2.1 M.2.2.2.2.2.2.2.2.2.2.2.2.1 M.2.2.2.2.2.2.2.2.2.2.2.2.2.1 M.2.2.2.2.2.2.2.2.2.2.2.2.2.2.1 M.2.2.2.2.2.2.2.2.2.2.2.2.2.2.2.1 M.2.2.2.2.2.2.2.2.2.2.2.2.2.2.2.2.1 M.2.2.2.2.2.2.2.2.2.2.2.2.2.2.2.2.2.1 M.2.2.2.2.2.2.2.2.2.2.2.2.2.2.2.2.2.2).flatten H) (hS : va_S (fun _ => False) s.heap H locs) (hl : lv_has ls 4 [(0, .ref (Am 0)), (1, .int p1), (2, .int p2), (3, .int X)]), W p l e rm_X7_pageLabel s m ([.ref (Am 0), .int p1, .int p2] : List Value).toArray below meth c H locs 0 0 Q (F0 m 57 ls [])), W p l e rm_X7_pageLabel s m ([.ref (Am 0), .int p1, .int p2] : List Value).toArray below meth c H locs 0 0 Q (F0 m 21 ls []) := by
    skip
    refine z_loopE (fun rec ih v X hF H locs ls hP hS hl K1 => ?_)
    unfold b_X7_pageLabel_21 at hF
    refine lv_iload_n hx hb (z_d hX7_pageLabel_0 13 rfl) rfl (lv_at hl 3 rfl) ?_
    refine lv_if_lt (tgt := 57) hx hb (z_d hX7_pageLabel_0 14 rfl) (by decide) (fun hc22 => ?_) (fun hc22 => ?_)
    · have hF := z_pos hc22 hF
      obtain rfl := Option.some.inj hF
      exact K1 _ _ ls hP hS (lv_sub hl [0, 1, 2, 3] rfl)
    · have hF := z_neg hc22 hF
      refine lv_aload_n hx hb (z_d hX7_pageLabel_0 15 rfl) rfl (lv_at hl 0 rfl) ?_
      refine va_get (D := Z.1) (ci := 7) (v := .ref (Am 9)) (C := RX7) (T := TX7) (N := 19) hx hb hts zinX7 hown hK.1 (zP_reg hP 0 rfl) 0 rfl rfl 13 (by decide) (hts _ k_f_X7_34) (fun _ h9 => h9) rfl (z_d hX7_pageLabel_0 16 rfl) ?_
      refine lv_iload_n hx hb (z_d hX7_pageLabel_0 17 rfl) rfl (lv_at hl 3 rfl) ?_
      refine z_ix hF (fun hin hF => ?_)
      refine va_iald (D := Z.1) (f := M.2.2.2.2.2.2.2.2.2.2.2.2.2.1) hx hb hK.1 (zP_reg hP 9 rfl) 0 0 rfl rfl hin (z_d hX7_pageLabel_0 18 rfl) ?_
      refine z_let hF (fun u2 hu2 hF => ?_)
      refine lv_topE hu2 ?_
      refine lv_iconst (v := (-1)) hx hb (z_d hX7_pageLabel_0 19 rfl) (by decide) ?_
      refine lv_icmp_eq (tgt := 51) hx hb (z_d hX7_pageLabel_0 20 rfl) (by decide) (fun hc32 => ?_) (fun hc32 => ?_)
      · have hF := z_pos hc32 hF
        refine z_let hF (fun u3 hu3 hF => ?_)
        refine lv_iinc (v := u3) (lv' := [(3, .int u3), (0, .ref (Am 0)), (1, .int p1), (2, .int p2)]) hx hb (z_d hX7_pageLabel_0 30 rfl) hl (k := 3) rfl (z_incm1 hu3) (by decide) rfl (fun ls hl => ?_)
        refine lv_goto (tgt := 21) hx hb (z_d hX7_pageLabel_0 31 rfl) (by decide) ?_
        exact ih _ _ hF _ _ ls hP hS (lv_sub hl [1, 2, 3, 0] rfl) K1
      · have hF := z_neg hc32 hF
        refine lv_aload_n hx hb (z_d hX7_pageLabel_0 21 rfl) rfl (lv_at hl 0 rfl) ?_
        refine lv_aload_n hx hb (z_d hX7_pageLabel_0 22 rfl) rfl (lv_at hl 0 rfl) ?_
        refine va_get (D := Z.1) (ci := 7) (v := .ref (Am 9)) (C := RX7) (T := TX7) (N := 19) hx hb hts zinX7 hown hK.1 (zP_reg hP 0 rfl) 0 rfl rfl 13 (by decide) (hts _ k_f_X7_34) (fun _ h9 => h9) rfl (z_d hX7_pageLabel_0 23 rfl) ?_
        refine lv_iload_n hx hb (z_d hX7_pageLabel_0 24 rfl) rfl (lv_at hl 3 rfl) ?_
        refine z_ix hF (fun hin hF => ?_)
        refine va_iald (D := Z.1) (f := M.2.2.2.2.2.2.2.2.2.2.2.2.2.1) hx hb hK.1 (zP_reg hP 9 rfl) 0 0 rfl rfl hin (z_d hX7_pageLabel_0 25 rfl) ?_
        refine z_let hF (fun u4 hu4 hF => ?_)
        refine lv_topE hu4 ?_
        refine lv_bipush (v := 8) hx hb (z_d hX7_pageLabel_0 26 rfl) (by decide) ?_
        refine z_bnd hF (fun q5 hq5 hF => ?_)
        refine z_ro_i (z_rV (As := [.int u4, .int 8]) (rest := []) hx hb hml hown hts vt_X7_of (c_X7_of l Z Am M u4 8 _ hq5) rfl rfl ⟨Nat.le_of_ble_eq_true rfl, Nat.le_of_ble_eq_true rfl⟩ k_m_X7_62 zPro_blind (z_recv (q := (RX7, TX7, 19)) (ci := 7) (q0 := 0) hK (zP_reg hP 0 rfl) rfl rfl) (z_prec hK hP) rfl hl.1 (Nat.le_of_ble_eq_true rfl) (z_d hX7_pageLabel_0 27 rfl) ⟨Nat.zero_le _, Nat.zero_le _⟩) hS hP (fun H locs hP hS => ?_)
        refine lv_iconst (v := (-1)) hx hb (z_d hX7_pageLabel_0 28 rfl) (by decide) ?_
        refine lv_icmp_ne (tgt := 57) hx hb (z_d hX7_pageLabel_0 29 rfl) (by decide) (fun hc48 => ?_) (fun hc48 => ?_)
        · have hF := z_neg hc48 hF
          obtain rfl := Option.some.inj hF
          exact K1 _ _ ls hP hS (lv_sub hl [0, 1, 2, 3] rfl)
        · have hF := z_pos hc48 hF
          refine z_let hF (fun u6 hu6 hF => ?_)
          refine lv_iinc (v := u6) (lv' := [(3, .int u6), (0, .ref (Am 0)), (1, .int p1), (2, .int p2)]) hx hb (z_d hX7_pageLabel_0 30 rfl) hl (k := 3) rfl (z_incm1 hu6) (by decide) rfl (fun ls hl => ?_)
          refine lv_goto (tgt := 21) hx hb (z_d hX7_pageLabel_0 31 rfl) (by decide) ?_
          exact ih _ _ hF _ _ ls hP hS (lv_sub hl [1, 2, 3, 0] rfl) K1
  have J57 : ∀ (x3 : Int32) (hF : j_X7_pageLabel_57 M p1 p2 x3 = some R) (H : Heap) (locs : List Loc) (ls : Array Slot) (hP : va_P Z.1 vwCl (l_Model Z.2.1 Am M.1 M.2.1 M.2.2.1 M.2.2.2.1 M.2.2.2.2.1 M.2.2.2.2.2.1 M.2.2.2.2.2.2.1 M.2.2.2.2.2.2.2.1 M.2.2.2.2.2.2.2.2.1 M.2.2.2.2.2.2.2.2.2.1 M.2.2.2.2.2.2.2.2.2.2.1 M.2.2.2.2.2.2.2.2.2.2.2.1 M.2.2.2.2.2.2.2.2.2.2.2.2.1 M.2.2.2.2.2.2.2.2.2.2.2.2.2.1 M.2.2.2.2.2.2.2.2.2.2.2.2.2.2.1 M.2.2.2.2.2.2.2.2.2.2.2.2.2.2.2.1 M.2.2.2.2.2.2.2.2.2.2.2.2.2.2.2.2.1 M.2.2.2.2.2.2.2.2.2.2.2.2.2.2.2.2.2.1 M.2.2.2.2.2.2.2.2.2.2.2.2.2.2.2.2.2.2).flatten H) (hS : va_S (fun _ => False) s.heap H locs) (hl : lv_has ls 4 [(0, .ref (Am 0)), (1, .int p1), (2, .int p2), (3, .int x3)]), W p l e rm_X7_pageLabel s m ([.ref (Am 0), .int p1, .int p2] : List Value).toArray below meth c H locs 0 0 Q (F0 m 57 ls []) := by
    intro x3 hF H locs ls hP hS hl
    unfold j_X7_pageLabel_57 at hF
    refine lv_iload_n hx hb (z_d hX7_pageLabel_0 32 rfl) rfl (lv_at hl 3 rfl) ?_
    refine lv_if_ge (tgt := 71) hx hb (z_d hX7_pageLabel_0 33 rfl) (by decide) (fun hc58 => ?_) (fun hc58 => ?_)
    · have hF := z_pos hc58 hF
      refine lv_iload_n hx hb (z_d hX7_pageLabel_0 40 rfl) rfl (lv_at hl 2 rfl) ?_
      refine lv_if_ne (tgt := 90) hx hb (z_d hX7_pageLabel_0 41 rfl) (by decide) (fun hc72 => ?_) (fun hc72 => ?_)
      · have hF := z_neg hc72 hF
        refine lv_iload_n hx hb (z_d hX7_pageLabel_0 50 rfl) rfl (lv_at hl 1 rfl) ?_
        refine lv_iload_n hx hb (z_d hX7_pageLabel_0 51 rfl) rfl (lv_at hl 3 rfl) ?_
        refine lv_isub hx hb (z_d hX7_pageLabel_0 52 rfl) ?_
        refine z_let hF (fun u8 hu8 hF => ?_)
        refine lv_topE hu8 ?_
        obtain rfl := Option.some.inj hF
        subst hQ
        exact W.iret hx hb hr (fun t ht hW => zq_ro (hS.F ht)) hS.2.2 (z_d hX7_pageLabel_0 53 rfl)
      · have hF := z_pos hc72 hF
        refine lv_aload_n hx hb (z_d hX7_pageLabel_0 42 rfl) rfl (lv_at hl 0 rfl) ?_
        refine lv_aload_n hx hb (z_d hX7_pageLabel_0 43 rfl) rfl (lv_at hl 0 rfl) ?_
        refine va_get (D := Z.1) (ci := 7) (v := .ref (Am 9)) (C := RX7) (T := TX7) (N := 19) hx hb hts zinX7 hown hK.1 (zP_reg hP 0 rfl) 0 rfl rfl 13 (by decide) (hts _ k_f_X7_34) (fun _ h9 => h9) rfl (z_d hX7_pageLabel_0 44 rfl) ?_
        refine lv_iload_n hx hb (z_d hX7_pageLabel_0 45 rfl) rfl (lv_at hl 3 rfl) ?_
        refine z_ix hF (fun hin hF => ?_)
        refine va_iald (D := Z.1) (f := M.2.2.2.2.2.2.2.2.2.2.2.2.2.1) hx hb hK.1 (zP_reg hP 9 rfl) 0 0 rfl rfl hin (z_d hX7_pageLabel_0 46 rfl) ?_
        refine z_let hF (fun u9 hu9 hF => ?_)
        refine lv_topE hu9 ?_
        refine lv_bipush (v := 8) hx hb (z_d hX7_pageLabel_0 47 rfl) (by decide) ?_
        refine z_bnd hF (fun q10 hq10 hF => ?_)
        refine z_ro_i (z_rV (As := [.int u9, .int 8]) (rest := []) hx hb hml hown hts vt_X7_of (c_X7_of l Z Am M u9 8 _ hq10) rfl rfl ⟨Nat.le_of_ble_eq_true rfl, Nat.le_of_ble_eq_true rfl⟩ k_m_X7_62 zPro_blind (z_recv (q := (RX7, TX7, 19)) (ci := 7) (q0 := 0) hK (zP_reg hP 0 rfl) rfl rfl) (z_prec hK hP) rfl hl.1 (Nat.le_of_ble_eq_true rfl) (z_d hX7_pageLabel_0 48 rfl) ⟨Nat.zero_le _, Nat.zero_le _⟩) hS hP (fun H locs hP hS => ?_)
        refine lv_goto (tgt := 93) hx hb (z_d hX7_pageLabel_0 49 rfl) (by decide) ?_
        obtain rfl := Option.some.inj hF
        subst hQ
        exact W.iret hx hb hr (fun t ht hW => zq_ro (hS.F ht)) hS.2.2 (z_d hX7_pageLabel_0 53 rfl)
    · have hF := z_neg hc58 hF
      refine lv_iload_n hx hb (z_d hX7_pageLabel_0 34 rfl) rfl (lv_at hl 2 rfl) ?_
      refine lv_if_ne (tgt := 69) hx hb (z_d hX7_pageLabel_0 35 rfl) (by decide) (fun hc62 => ?_) (fun hc62 => ?_)
      · have hF := z_neg hc62 hF
        refine lv_iload_n hx hb (z_d hX7_pageLabel_0 38 rfl) rfl (lv_at hl 1 rfl) ?_
        obtain rfl := Option.some.inj hF
        subst hQ
        exact W.iret hx hb hr (fun t ht hW => zq_ro (hS.F ht)) hS.2.2 (z_d hX7_pageLabel_0 39 rfl)
      · have hF := z_pos hc62 hF
        refine lv_iconst (v := 0) hx hb (z_d hX7_pageLabel_0 36 rfl) (by decide) ?_
        refine lv_goto (tgt := 70) hx hb (z_d hX7_pageLabel_0 37 rfl) (by decide) ?_
        obtain rfl := Option.some.inj hF
        subst hQ
        exact W.iret hx hb hr (fun t ht hW => zq_ro (hS.F ht)) hS.2.2 (z_d hX7_pageLabel_0 39 rfl)
  refine lv_aload_n hx hb (z_d hX7_pageLabel_0 0 rfl) rfl (lv_at hl 0 rfl) ?_
  refine z_bnd hF (fun q1 hq1 hF => ?_)
  refine z_ro_i (z_rV (As := []) (rest := []) hx hb hml hown hts vt_X7_marks (c_X7_marks l Z Am M _ hq1) rfl rfl ⟨Nat.le_of_ble_eq_true rfl, Nat.le_of_ble_eq_true rfl⟩ k_m_X7_121 zPro_blind (z_recv (q := (RX7, TX7, 19)) (ci := 7) (q0 := 0) hK (zP_reg hP 0 rfl) rfl rfl) (z_prec hK hP) rfl hl.1 (Nat.le_of_ble_eq_true rfl) (z_d hX7_pageLabel_0 1 rfl) ⟨Nat.zero_le _, Nat.zero_le _⟩) hS hP (fun H locs hP hS => ?_)
  refine lv_if_ne (tgt := 19) hx hb (z_d hX7_pageLabel_0 2 rfl) (by decide) (fun hc4 => ?_) (fun hc4 => ?_)
  · have hF := z_neg hc4 hF
    refine lv_iload_n hx hb (z_d hX7_pageLabel_0 11 rfl) rfl (lv_at hl 1 rfl) ?_
    refine lv_istore_n (lv' := [(3, .int p1), (0, .ref (Am 0)), (1, .int p1), (2, .int p2)]) hx hb (z_d hX7_pageLabel_0 12 rfl) rfl hl (by decide) rfl (fun ls hl => ?_)
    refine z_bnd hF (fun q7 hq7 hF => ?_)
    refine L21  _ _ _ hq7 _ _ ls hP hS (lv_sub hl [1, 2, 3, 0] rfl) (fun H locs ls hP hS hl => ?_)
    exact J57 q7 hF _ _ ls hP hS (lv_sub hl [0, 1, 2, 3] rfl)
  · have hF := z_pos hc4 hF
    refine lv_iload_n hx hb (z_d hX7_pageLabel_0 3 rfl) rfl (lv_at hl 2 rfl) ?_
    refine lv_if_ne (tgt := 17) hx hb (z_d hX7_pageLabel_0 4 rfl) (by decide) (fun hc8 => ?_) (fun hc8 => ?_)
    · have hF := z_neg hc8 hF
      refine lv_iconst (v := 0) hx hb (z_d hX7_pageLabel_0 9 rfl) (by decide) ?_
      obtain rfl := Option.some.inj hF
      subst hQ
      exact W.iret hx hb hr (fun t ht hW => zq_ro (hS.F ht)) hS.2.2 (z_d hX7_pageLabel_0 10 rfl)
    · have hF := z_pos hc8 hF
      refine lv_iload_n hx hb (z_d hX7_pageLabel_0 5 rfl) rfl (lv_at hl 1 rfl) ?_
      refine lv_iconst (v := 1) hx hb (z_d hX7_pageLabel_0 6 rfl) (by decide) ?_
      refine lv_iadd hx hb (z_d hX7_pageLabel_0 7 rfl) ?_
      refine z_let hF (fun u11 hu11 hF => ?_)
      refine lv_topE hu11 ?_
      refine lv_goto (tgt := 18) hx hb (z_d hX7_pageLabel_0 8 rfl) (by decide) ?_
      obtain rfl := Option.some.inj hF
      subst hQ
      exact W.iret hx hb hr (fun t ht hW => zq_ro (hS.F ht)) hS.2.2 (z_d hX7_pageLabel_0 10 rfl)
def rm_X7_comes : Room := { frames := 1, cells := 0, slots := 0, locals := 23 }
set_option maxRecDepth 100000 in
set_option maxHeartbeats 4000000 in
theorem c_X7_comes (l : Launch) (Z : zZ) (Am : Nat → Nat) (M : t_Model) (p1 : Int32) (p2 : Int32) (p3 : Int32) (p4 : Int32) (R : t_Model) (hF : X7_comes M p1 p2 p3 p4 = some R) : zMU l yX7_comes (zw yX7_comes cX7_comes 6 none) rm_X7_comes Z [.ref (Am 0), .int p1, .int p2, .int p3, .int p4] (w_Model Z.2.1 Am M) (w_Model Z.2.1 Am R) none := by
  refine zMU_of (by decide) (Nat.le_of_ble_eq_true rfl) (fun p e s m below meth c hx hb hr hml hown hts hlocks hK A hA Q hQ ls hl hP hD hS => ?_)
  unfold X7_comes at hF
  have hl : lv_has ls 6 [(0, .ref (Am 0)), (1, .int p1), (2, .int p2), (3, .int p3), (4, .int p4)] := hl
  have hown : s.vm.findClass RX7 = some m.cls := hown
  have hP : va_P Z.1 vwCl (l_Model Z.2.1 Am M.1 M.2.1 M.2.2.1 M.2.2.2.1 M.2.2.2.2.1 M.2.2.2.2.2.1 M.2.2.2.2.2.2.1 M.2.2.2.2.2.2.2.1 M.2.2.2.2.2.2.2.2.1 M.2.2.2.2.2.2.2.2.2.1 M.2.2.2.2.2.2.2.2.2.2.1 M.2.2.2.2.2.2.2.2.2.2.2.1 M.2.2.2.2.2.2.2.2.2.2.2.2.1 M.2.2.2.2.2.2.2.2.2.2.2.2.2.1 M.2.2.2.2.2.2.2.2.2.2.2.2.2.2.1 M.2.2.2.2.2.2.2.2.2.2.2.2.2.2.2.1 M.2.2.2.2.2.2.2.2.2.2.2.2.2.2.2.2.1 M.2.2.2.2.2.2.2.2.2.2.2.2.2.2.2.2.2.1 M.2.2.2.2.2.2.2.2.2.2.2.2.2.2.2.2.2.2).flatten s.heap := hP
  have hD : va_D A (l_Model Z.2.1 Am M.1 M.2.1 M.2.2.1 M.2.2.2.1 M.2.2.2.2.1 M.2.2.2.2.2.1 M.2.2.2.2.2.2.1 M.2.2.2.2.2.2.2.1 M.2.2.2.2.2.2.2.2.1 M.2.2.2.2.2.2.2.2.2.1 M.2.2.2.2.2.2.2.2.2.2.1 M.2.2.2.2.2.2.2.2.2.2.2.1 M.2.2.2.2.2.2.2.2.2.2.2.2.1 M.2.2.2.2.2.2.2.2.2.2.2.2.2.1 M.2.2.2.2.2.2.2.2.2.2.2.2.2.2.1 M.2.2.2.2.2.2.2.2.2.2.2.2.2.2.2.1 M.2.2.2.2.2.2.2.2.2.2.2.2.2.2.2.2.1 M.2.2.2.2.2.2.2.2.2.2.2.2.2.2.2.2.2.1 M.2.2.2.2.2.2.2.2.2.2.2.2.2.2.2.2.2.2).flatten := hD
  have L15 : ∀  (n : Nat) (v : t_Model × Int32) (X : t_Model) (hF : zloop (b_X7_comes_15 p1 p2 p3 p4 ) n v = some X) (H : Heap) (locs : List Loc) (ls : Array Slot) (hP : va_P Z.1 vwCl (l_Model Z.2.1 Am v.1.1 v.1.2.1 v.1.2.2.1 v.1.2.2.2.1 v.1.2.2.2.2.1 v.1.2.2.2.2.2.1 v.1.2.2.2.2.2.2.1 v.1.2.2.2.2.2.2.2.1 v.1.2.2.2.2.2.2.2.2.1 v.1.2.2.2.2.2.2.2.2.2.1 v.1.2.2.2.2.2.2.2.2.2.2.1 v.1.2.2.2.2.2.2.2.2.2.2.2.1 v.1.2.2.2.2.2.2.2.2.2.2.2.2.1 v.1.2.2.2.2.2.2.2.2.2.2.2.2.2.1 v.1.2.2.2.2.2.2.2.2.2.2.2.2.2.2.1 v.1.2.2.2.2.2.2.2.2.2.2.2.2.2.2.2.1 v.1.2.2.2.2.2.2.2.2.2.2.2.2.2.2.2.2.1 v.1.2.2.2.2.2.2.2.2.2.2.2.2.2.2.2.2.2.1 v.1.2.2.2.2.2.2.2.2.2.2.2.2.2.2.2.2.2.2).flatten H) (hD : va_D A (l_Model Z.2.1 Am v.1.1 v.1.2.1 v.1.2.2.1 v.1.2.2.2.1 v.1.2.2.2.2.1 v.1.2.2.2.2.2.1 v.1.2.2.2.2.2.2.1 v.1.2.2.2.2.2.2.2.1 v.1.2.2.2.2.2.2.2.2.1 v.1.2.2.2.2.2.2.2.2.2.1 v.1.2.2.2.2.2.2.2.2.2.2.1 v.1.2.2.2.2.2.2.2.2.2.2.2.1 v.1.2.2.2.2.2.2.2.2.2.2.2.2.1 v.1.2.2.2.2.2.2.2.2.2.2.2.2.2.1 v.1.2.2.2.2.2.2.2.2.2.2.2.2.2.2.1 v.1.2.2.2.2.2.2.2.2.2.2.2.2.2.2.2.1 v.1.2.2.2.2.2.2.2.2.2.2.2.2.2.2.2.2.1 v.1.2.2.2.2.2.2.2.2.2.2.2.2.2.2.2.2.2.1 v.1.2.2.2.2.2.2.2.2.2.2.2.2.2.2.2.2.2.2).flatten) (hS : va_S A s.heap H locs) (hl : lv_has ls 6 [(0, .ref (Am 0)), (1, .int p1), (2, .int p2), (3, .int p3), (4, .int p4), (5, .int v.2)]) (K1 : ∀ (H : Heap) (locs : List Loc) (ls : Array Slot) (hP : va_P Z.1 vwCl (l_Model Z.2.1 Am X.1 X.2.1 X.2.2.1 X.2.2.2.1 X.2.2.2.2.1 X.2.2.2.2.2.1 X.2.2.2.2.2.2.1 X.2.2.2.2.2.2.2.1 X.2.2.2.2.2.2.2.2.1 X.2.2.2.2.2.2.2.2.2.1 X.2.2.2.2.2.2.2.2.2.2.1 X.2.2.2.2.2.2.2.2.2.2.2.1 X.2.2.2.2.2.2.2.2.2.2.2.2.1 X.2.2.2.2.2.2.2.2.2.2.2.2.2.1 X.2.2.2.2.2.2.2.2.2.2.2.2.2.2.1 X.2.2.2.2.2.2.2.2.2.2.2.2.2.2.2.1 X.2.2.2.2.2.2.2.2.2.2.2.2.2.2.2.2.1 X.2.2.2.2.2.2.2.2.2.2.2.2.2.2.2.2.2.1 X.2.2.2.2.2.2.2.2.2.2.2.2.2.2.2.2.2.2).flatten H) (hD : va_D A (l_Model Z.2.1 Am X.1 X.2.1 X.2.2.1 X.2.2.2.1 X.2.2.2.2.1 X.2.2.2.2.2.1 X.2.2.2.2.2.2.1 X.2.2.2.2.2.2.2.1 X.2.2.2.2.2.2.2.2.1 X.2.2.2.2.2.2.2.2.2.1 X.2.2.2.2.2.2.2.2.2.2.1 X.2.2.2.2.2.2.2.2.2.2.2.1 X.2.2.2.2.2.2.2.2.2.2.2.2.1 X.2.2.2.2.2.2.2.2.2.2.2.2.2.1 X.2.2.2.2.2.2.2.2.2.2.2.2.2.2.1 X.2.2.2.2.2.2.2.2.2.2.2.2.2.2.2.1 X.2.2.2.2.2.2.2.2.2.2.2.2.2.2.2.2.1 X.2.2.2.2.2.2.2.2.2.2.2.2.2.2.2.2.2.1 X.2.2.2.2.2.2.2.2.2.2.2.2.2.2.2.2.2.2).flatten) (hS : va_S A s.heap H locs) (hl : lv_has ls 6 [(0, .ref (Am 0)), (1, .int p1), (2, .int p2), (3, .int p3), (4, .int p4)]), W p l e rm_X7_comes s m ([.ref (Am 0), .int p1, .int p2, .int p3, .int p4] : List Value).toArray below meth c H locs 0 0 Q (F0 m 49 ls [])), W p l e rm_X7_comes s m ([.ref (Am 0), .int p1, .int p2, .int p3, .int p4] : List Value).toArray below meth c H locs 0 0 Q (F0 m 15 ls []) := by
    skip
    refine z_loopE (fun rec ih v X hF H locs ls hP hD hS hl K1 => ?_)
    unfold b_X7_comes_15 at hF
    refine lv_iload hx hb (z_d hX7_comes_0 11 rfl) (lv_at hl 5 rfl) ?_
    refine lv_iconst (v := 2) hx hb (z_d hX7_comes_0 12 rfl) (by decide) ?_
    refine lv_bipush (v := 9) hx hb (z_d hX7_comes_0 13 rfl) (by decide) ?_
    refine lv_iload_n hx hb (z_d hX7_comes_0 14 rfl) rfl (lv_at hl 1 rfl) ?_
    refine lv_imul hx hb (z_d hX7_comes_0 15 rfl) ?_
    refine z_let hF (fun u5 hu5 hF => ?_)
    refine lv_topE hu5 ?_
    refine lv_iadd hx hb (z_d hX7_comes_0 16 rfl) ?_
    refine z_let hF (fun u6 hu6 hF => ?_)
    refine lv_topE hu6 ?_
    refine lv_icmp_lt (tgt := 49) hx hb (z_d hX7_comes_0 17 rfl) (by decide) (fun hc23 => ?_) (fun hc23 => ?_)
    · have hF := z_pos hc23 hF
      obtain rfl := Option.some.inj hF
      exact K1 _ _ ls hP hD hS (lv_sub hl [0, 1, 2, 3, 4] rfl)
    · have hF := z_neg hc23 hF
      refine lv_aload_n hx hb (z_d hX7_comes_0 18 rfl) rfl (lv_at hl 0 rfl) ?_
      refine va_get (D := Z.1) (ci := 7) (v := .ref (Am 1)) (C := RX7) (T := TX7) (N := 19) hx hb hts zinX7 hown hK.1 (zP_reg hP 0 rfl) 0 rfl rfl 0 (by decide) (hts _ k_f_X7_7) (fun _ h9 => h9) rfl (z_d hX7_comes_0 19 rfl) ?_
      refine lv_iload hx hb (z_d hX7_comes_0 20 rfl) (lv_at hl 5 rfl) ?_
      refine lv_bipush (v := 9) hx hb (z_d hX7_comes_0 21 rfl) (by decide) ?_
      refine lv_iadd hx hb (z_d hX7_comes_0 22 rfl) ?_
      refine z_let hF (fun u7 hu7 hF => ?_)
      refine lv_topE hu7 ?_
      refine lv_aload_n hx hb (z_d hX7_comes_0 23 rfl) rfl (lv_at hl 0 rfl) ?_
      refine va_get (D := Z.1) (ci := 7) (v := .ref (Am 1)) (C := RX7) (T := TX7) (N := 19) hx hb hts zinX7 hown hK.1 (zP_reg hP 0 rfl) 0 rfl rfl 0 (by decide) (hts _ k_f_X7_7) (fun _ h9 => h9) rfl (z_d hX7_comes_0 24 rfl) ?_
      refine lv_iload hx hb (z_d hX7_comes_0 25 rfl) (lv_at hl 5 rfl) ?_
      refine z_ix hF (fun hin hF => ?_)
      refine va_iald (D := Z.1) (f := v.1.1) hx hb hK.1 (zP_reg hP 1 rfl) 0 0 rfl rfl hin (z_d hX7_comes_0 26 rfl) ?_
      refine z_let hF (fun u8 hu8 hF => ?_)
      refine lv_topE hu8 ?_
      refine z_ix hF (fun hin hF => ?_)
      refine z_let hF (fun g9 hg9 hF => ?_)
      refine z_iast (Z := Z) (L := l_Model Z.2.1 Am v.1.1 v.1.2.1 v.1.2.2.1 v.1.2.2.2.1 v.1.2.2.2.2.1 v.1.2.2.2.2.2.1 v.1.2.2.2.2.2.2.1 v.1.2.2.2.2.2.2.2.1 v.1.2.2.2.2.2.2.2.2.1 v.1.2.2.2.2.2.2.2.2.2.1 v.1.2.2.2.2.2.2.2.2.2.2.1 v.1.2.2.2.2.2.2.2.2.2.2.2.1 v.1.2.2.2.2.2.2.2.2.2.2.2.2.1 v.1.2.2.2.2.2.2.2.2.2.2.2.2.2.1 v.1.2.2.2.2.2.2.2.2.2.2.2.2.2.2.1 v.1.2.2.2.2.2.2.2.2.2.2.2.2.2.2.2.1 v.1.2.2.2.2.2.2.2.2.2.2.2.2.2.2.2.2.1 v.1.2.2.2.2.2.2.2.2.2.2.2.2.2.2.2.2.2.1 v.1.2.2.2.2.2.2.2.2.2.2.2.2.2.2.2.2.2.2) (L' := l_Model Z.2.1 Am g9 v.1.2.1 v.1.2.2.1 v.1.2.2.2.1 v.1.2.2.2.2.1 v.1.2.2.2.2.2.1 v.1.2.2.2.2.2.2.1 v.1.2.2.2.2.2.2.2.1 v.1.2.2.2.2.2.2.2.2.1 v.1.2.2.2.2.2.2.2.2.2.1 v.1.2.2.2.2.2.2.2.2.2.2.1 v.1.2.2.2.2.2.2.2.2.2.2.2.1 v.1.2.2.2.2.2.2.2.2.2.2.2.2.1 v.1.2.2.2.2.2.2.2.2.2.2.2.2.2.1 v.1.2.2.2.2.2.2.2.2.2.2.2.2.2.2.1 v.1.2.2.2.2.2.2.2.2.2.2.2.2.2.2.2.1 v.1.2.2.2.2.2.2.2.2.2.2.2.2.2.2.2.2.1 v.1.2.2.2.2.2.2.2.2.2.2.2.2.2.2.2.2.2.1 v.1.2.2.2.2.2.2.2.2.2.2.2.2.2.2.2.2.2.2) (f := v.1.1) hx hb hK hP hD hS 1 rfl hin hg9 rfl (z_d hX7_comes_0 27 rfl) (fun H locs hP hD hS => ?_)
      refine z_let hF (fun u10 hu10 hF => ?_)
      refine lv_iinc (v := u10) (lv' := [(5, .int u10), (0, .ref (Am 0)), (1, .int p1), (2, .int p2), (3, .int p3), (4, .int p4)]) hx hb (z_d hX7_comes_0 28 rfl) hl (k := 5) rfl (z_incm1 hu10) (by decide) rfl (fun ls hl => ?_)
      refine lv_goto (tgt := 15) hx hb (z_d hX7_comes_0 29 rfl) (by decide) ?_
      exact ih _ _ hF _ _ ls hP hD hS (lv_sub hl [1, 2, 3, 4, 5, 0] rfl) K1
  have L52 : ∀  (n : Nat) (v : t_Model × Int32) (X : t_Model) (hF : zloop (b_X7_comes_52 p1 p2 p3 p4 ) n v = some X) (H : Heap) (locs : List Loc) (ls : Array Slot) (hP : va_P Z.1 vwCl (l_Model Z.2.1 Am v.1.1 v.1.2.1 v.1.2.2.1 v.1.2.2.2.1 v.1.2.2.2.2.1 v.1.2.2.2.2.2.1 v.1.2.2.2.2.2.2.1 v.1.2.2.2.2.2.2.2.1 v.1.2.2.2.2.2.2.2.2.1 v.1.2.2.2.2.2.2.2.2.2.1 v.1.2.2.2.2.2.2.2.2.2.2.1 v.1.2.2.2.2.2.2.2.2.2.2.2.1 v.1.2.2.2.2.2.2.2.2.2.2.2.2.1 v.1.2.2.2.2.2.2.2.2.2.2.2.2.2.1 v.1.2.2.2.2.2.2.2.2.2.2.2.2.2.2.1 v.1.2.2.2.2.2.2.2.2.2.2.2.2.2.2.2.1 v.1.2.2.2.2.2.2.2.2.2.2.2.2.2.2.2.2.1 v.1.2.2.2.2.2.2.2.2.2.2.2.2.2.2.2.2.2.1 v.1.2.2.2.2.2.2.2.2.2.2.2.2.2.2.2.2.2.2).flatten H) (hD : va_D A (l_Model Z.2.1 Am v.1.1 v.1.2.1 v.1.2.2.1 v.1.2.2.2.1 v.1.2.2.2.2.1 v.1.2.2.2.2.2.1 v.1.2.2.2.2.2.2.1 v.1.2.2.2.2.2.2.2.1 v.1.2.2.2.2.2.2.2.2.1 v.1.2.2.2.2.2.2.2.2.2.1 v.1.2.2.2.2.2.2.2.2.2.2.1 v.1.2.2.2.2.2.2.2.2.2.2.2.1 v.1.2.2.2.2.2.2.2.2.2.2.2.2.1 v.1.2.2.2.2.2.2.2.2.2.2.2.2.2.1 v.1.2.2.2.2.2.2.2.2.2.2.2.2.2.2.1 v.1.2.2.2.2.2.2.2.2.2.2.2.2.2.2.2.1 v.1.2.2.2.2.2.2.2.2.2.2.2.2.2.2.2.2.1 v.1.2.2.2.2.2.2.2.2.2.2.2.2.2.2.2.2.2.1 v.1.2.2.2.2.2.2.2.2.2.2.2.2.2.2.2.2.2.2).flatten) (hS : va_S A s.heap H locs) (hl : lv_has ls 6 [(0, .ref (Am 0)), (1, .int p1), (2, .int p2), (3, .int p3), (4, .int p4), (5, .int v.2)]) (K1 : ∀ (H : Heap) (locs : List Loc) (ls : Array Slot) (hP : va_P Z.1 vwCl (l_Model Z.2.1 Am X.1 X.2.1 X.2.2.1 X.2.2.2.1 X.2.2.2.2.1 X.2.2.2.2.2.1 X.2.2.2.2.2.2.1 X.2.2.2.2.2.2.2.1 X.2.2.2.2.2.2.2.2.1 X.2.2.2.2.2.2.2.2.2.1 X.2.2.2.2.2.2.2.2.2.2.1 X.2.2.2.2.2.2.2.2.2.2.2.1 X.2.2.2.2.2.2.2.2.2.2.2.2.1 X.2.2.2.2.2.2.2.2.2.2.2.2.2.1 X.2.2.2.2.2.2.2.2.2.2.2.2.2.2.1 X.2.2.2.2.2.2.2.2.2.2.2.2.2.2.2.1 X.2.2.2.2.2.2.2.2.2.2.2.2.2.2.2.2.1 X.2.2.2.2.2.2.2.2.2.2.2.2.2.2.2.2.2.1 X.2.2.2.2.2.2.2.2.2.2.2.2.2.2.2.2.2.2).flatten H) (hD : va_D A (l_Model Z.2.1 Am X.1 X.2.1 X.2.2.1 X.2.2.2.1 X.2.2.2.2.1 X.2.2.2.2.2.1 X.2.2.2.2.2.2.1 X.2.2.2.2.2.2.2.1 X.2.2.2.2.2.2.2.2.1 X.2.2.2.2.2.2.2.2.2.1 X.2.2.2.2.2.2.2.2.2.2.1 X.2.2.2.2.2.2.2.2.2.2.2.1 X.2.2.2.2.2.2.2.2.2.2.2.2.1 X.2.2.2.2.2.2.2.2.2.2.2.2.2.1 X.2.2.2.2.2.2.2.2.2.2.2.2.2.2.1 X.2.2.2.2.2.2.2.2.2.2.2.2.2.2.2.1 X.2.2.2.2.2.2.2.2.2.2.2.2.2.2.2.2.1 X.2.2.2.2.2.2.2.2.2.2.2.2.2.2.2.2.2.1 X.2.2.2.2.2.2.2.2.2.2.2.2.2.2.2.2.2.2).flatten) (hS : va_S A s.heap H locs) (hl : lv_has ls 6 [(0, .ref (Am 0)), (1, .int p1), (2, .int p2), (3, .int p3), (4, .int p4)]), W p l e rm_X7_comes s m ([.ref (Am 0), .int p1, .int p2, .int p3, .int p4] : List Value).toArray below meth c H locs 0 0 Q (F0 m 73 ls [])), W p l e rm_X7_comes s m ([.ref (Am 0), .int p1, .int p2, .int p3, .int p4] : List Value).toArray below meth c H locs 0 0 Q (F0 m 52 ls []) := by
    skip
    refine z_loopE (fun rec ih v X hF H locs ls hP hD hS hl K1 => ?_)
    unfold b_X7_comes_52 at hF
    refine lv_iload hx hb (z_d hX7_comes_0 32 rfl) (lv_at hl 5 rfl) ?_
    refine lv_bipush (v := 9) hx hb (z_d hX7_comes_0 33 rfl) (by decide) ?_
    refine lv_icmp_ge (tgt := 73) hx hb (z_d hX7_comes_0 34 rfl) (by decide) (fun hc56 => ?_) (fun hc56 => ?_)
    · have hF := z_pos hc56 hF
      obtain rfl := Option.some.inj hF
      exact K1 _ _ ls hP hD hS (lv_sub hl [0, 1, 2, 3, 4] rfl)
    · have hF := z_neg hc56 hF
      refine lv_aload_n hx hb (z_d hX7_comes_0 35 rfl) rfl (lv_at hl 0 rfl) ?_
      refine lv_iload_n hx hb (z_d hX7_comes_0 36 rfl) rfl (lv_at hl 1 rfl) ?_
      refine lv_iload hx hb (z_d hX7_comes_0 37 rfl) (lv_at hl 5 rfl) ?_
      refine lv_iconst (v := 0) hx hb (z_d hX7_comes_0 38 rfl) (by decide) ?_
      refine z_bnd hF (fun q12 hq12 hF => ?_)
      refine z_mu0 (z_rV (As := [.int p1, .int v.2, .int 0]) (rest := []) hx hb hml hown hts vt_X7_puts (c_X7_puts l Z Am v.1 p1 v.2 0 _ hq12) rfl rfl ⟨Nat.le_of_ble_eq_true rfl, Nat.le_of_ble_eq_true rfl⟩ k_m_X7_125 zPmu_blind (z_recv (q := (RX7, TX7, 19)) (ci := 7) (q0 := 0) hK (zP_reg hP 0 rfl) rfl rfl) (z_prem hK hP hD) rfl hl.1 (Nat.le_of_ble_eq_true rfl) (z_d hX7_comes_0 39 rfl) ⟨Nat.zero_le _, Nat.zero_le _⟩) hS hD (adr_Model _ _ _ _) (fun H locs hP hD hS => ?_)
      have hP : va_P Z.1 vwCl (l_Model Z.2.1 Am q12.1 q12.2.1 q12.2.2.1 q12.2.2.2.1 q12.2.2.2.2.1 q12.2.2.2.2.2.1 q12.2.2.2.2.2.2.1 q12.2.2.2.2.2.2.2.1 q12.2.2.2.2.2.2.2.2.1 q12.2.2.2.2.2.2.2.2.2.1 q12.2.2.2.2.2.2.2.2.2.2.1 q12.2.2.2.2.2.2.2.2.2.2.2.1 q12.2.2.2.2.2.2.2.2.2.2.2.2.1 q12.2.2.2.2.2.2.2.2.2.2.2.2.2.1 q12.2.2.2.2.2.2.2.2.2.2.2.2.2.2.1 q12.2.2.2.2.2.2.2.2.2.2.2.2.2.2.2.1 q12.2.2.2.2.2.2.2.2.2.2.2.2.2.2.2.2.1 q12.2.2.2.2.2.2.2.2.2.2.2.2.2.2.2.2.2.1 q12.2.2.2.2.2.2.2.2.2.2.2.2.2.2.2.2.2.2).flatten H := hP
      have hD : va_D A (l_Model Z.2.1 Am q12.1 q12.2.1 q12.2.2.1 q12.2.2.2.1 q12.2.2.2.2.1 q12.2.2.2.2.2.1 q12.2.2.2.2.2.2.1 q12.2.2.2.2.2.2.2.1 q12.2.2.2.2.2.2.2.2.1 q12.2.2.2.2.2.2.2.2.2.1 q12.2.2.2.2.2.2.2.2.2.2.1 q12.2.2.2.2.2.2.2.2.2.2.2.1 q12.2.2.2.2.2.2.2.2.2.2.2.2.1 q12.2.2.2.2.2.2.2.2.2.2.2.2.2.1 q12.2.2.2.2.2.2.2.2.2.2.2.2.2.2.1 q12.2.2.2.2.2.2.2.2.2.2.2.2.2.2.2.1 q12.2.2.2.2.2.2.2.2.2.2.2.2.2.2.2.2.1 q12.2.2.2.2.2.2.2.2.2.2.2.2.2.2.2.2.2.1 q12.2.2.2.2.2.2.2.2.2.2.2.2.2.2.2.2.2.2).flatten := hD
      refine W.eq (g2 := F0 m 67 ls []) rfl ?_
      refine z_let hF (fun u13 hu13 hF => ?_)
      refine lv_iinc (v := u13) (lv' := [(5, .int u13), (0, .ref (Am 0)), (1, .int p1), (2, .int p2), (3, .int p3), (4, .int p4)]) hx hb (z_d hX7_comes_0 40 rfl) hl (k := 5) rfl (z_inc1 hu13) (by decide) rfl (fun ls hl => ?_)
      refine lv_goto (tgt := 52) hx hb (z_d hX7_comes_0 41 rfl) (by decide) ?_
      exact ih _ _ hF _ _ ls hP hD hS (lv_sub hl [1, 2, 3, 4, 5, 0] rfl) K1
  refine lv_iconst (v := 2) hx hb (z_d hX7_comes_0 0 rfl) (by decide) ?_
  refine lv_bipush (v := 9) hx hb (z_d hX7_comes_0 1 rfl) (by decide) ?_
  refine lv_aload_n hx hb (z_d hX7_comes_0 2 rfl) rfl (lv_at hl 0 rfl) ?_
  refine va_get (D := Z.1) (ci := 7) (v := .ref (Am 1)) (C := RX7) (T := TX7) (N := 19) hx hb hts zinX7 hown hK.1 (zP_reg hP 0 rfl) 0 rfl rfl 0 (by decide) (hts _ k_f_X7_7) (fun _ h9 => h9) rfl (z_d hX7_comes_0 3 rfl) ?_
  refine lv_iconst (v := 1) hx hb (z_d hX7_comes_0 4 rfl) (by decide) ?_
  refine z_ix hF (fun hin hF => ?_)
  refine va_iald (D := Z.1) (f := M.1) hx hb hK.1 (zP_reg hP 1 rfl) 0 0 rfl rfl hin (z_d hX7_comes_0 5 rfl) ?_
  refine z_let hF (fun u1 hu1 hF => ?_)
  refine lv_topE hu1 ?_
  refine lv_imul hx hb (z_d hX7_comes_0 6 rfl) ?_
  refine z_let hF (fun u2 hu2 hF => ?_)
  refine lv_topE hu2 ?_
  refine lv_iadd hx hb (z_d hX7_comes_0 7 rfl) ?_
  refine z_let hF (fun u3 hu3 hF => ?_)
  refine lv_topE hu3 ?_
  refine lv_iconst (v := 1) hx hb (z_d hX7_comes_0 8 rfl) (by decide) ?_
  refine lv_isub hx hb (z_d hX7_comes_0 9 rfl) ?_
  refine z_let hF (fun u4 hu4 hF => ?_)
  refine lv_topE hu4 ?_
  refine lv_istore (lv' := [(5, .int u4), (0, .ref (Am 0)), (1, .int p1), (2, .int p2), (3, .int p3), (4, .int p4)]) hx hb (z_d hX7_comes_0 10 rfl) hl (by decide) rfl (fun ls hl => ?_)
  refine z_bnd hF (fun q11 hq11 hF => ?_)
  refine L15  _ _ _ hq11 _ _ ls hP hD hS (lv_sub hl [1, 2, 3, 4, 5, 0] rfl) (fun H locs ls hP hD hS hl => ?_)
  refine lv_iconst (v := 0) hx hb (z_d hX7_comes_0 30 rfl) (by decide) ?_
  refine lv_istore (lv' := [(5, .int 0), (0, .ref (Am 0)), (1, .int p1), (2, .int p2), (3, .int p3), (4, .int p4)]) hx hb (z_d hX7_comes_0 31 rfl) hl (by decide) rfl (fun ls hl => ?_)
  refine z_bnd hF (fun q14 hq14 hF => ?_)
  refine L52  _ _ _ hq14 _ _ ls hP hD hS (lv_sub hl [1, 2, 3, 4, 5, 0] rfl) (fun H locs ls hP hD hS hl => ?_)
  refine lv_aload_n hx hb (z_d hX7_comes_0 42 rfl) rfl (lv_at hl 0 rfl) ?_
  refine lv_iload_n hx hb (z_d hX7_comes_0 43 rfl) rfl (lv_at hl 1 rfl) ?_
  refine lv_iconst (v := 0) hx hb (z_d hX7_comes_0 44 rfl) (by decide) ?_
  refine lv_iload_n hx hb (z_d hX7_comes_0 45 rfl) rfl (lv_at hl 2 rfl) ?_
  refine z_bnd hF (fun q15 hq15 hF => ?_)
  refine z_mu0 (z_rV (As := [.int p1, .int 0, .int p2]) (rest := []) hx hb hml hown hts vt_X7_puts (c_X7_puts l Z Am q14 p1 0 p2 _ hq15) rfl rfl ⟨Nat.le_of_ble_eq_true rfl, Nat.le_of_ble_eq_true rfl⟩ k_m_X7_125 zPmu_blind (z_recv (q := (RX7, TX7, 19)) (ci := 7) (q0 := 0) hK (zP_reg hP 0 rfl) rfl rfl) (z_prem hK hP hD) rfl hl.1 (Nat.le_of_ble_eq_true rfl) (z_d hX7_comes_0 46 rfl) ⟨Nat.zero_le _, Nat.zero_le _⟩) hS hD (adr_Model _ _ _ _) (fun H locs hP hD hS => ?_)
  have hP : va_P Z.1 vwCl (l_Model Z.2.1 Am q15.1 q15.2.1 q15.2.2.1 q15.2.2.2.1 q15.2.2.2.2.1 q15.2.2.2.2.2.1 q15.2.2.2.2.2.2.1 q15.2.2.2.2.2.2.2.1 q15.2.2.2.2.2.2.2.2.1 q15.2.2.2.2.2.2.2.2.2.1 q15.2.2.2.2.2.2.2.2.2.2.1 q15.2.2.2.2.2.2.2.2.2.2.2.1 q15.2.2.2.2.2.2.2.2.2.2.2.2.1 q15.2.2.2.2.2.2.2.2.2.2.2.2.2.1 q15.2.2.2.2.2.2.2.2.2.2.2.2.2.2.1 q15.2.2.2.2.2.2.2.2.2.2.2.2.2.2.2.1 q15.2.2.2.2.2.2.2.2.2.2.2.2.2.2.2.2.1 q15.2.2.2.2.2.2.2.2.2.2.2.2.2.2.2.2.2.1 q15.2.2.2.2.2.2.2.2.2.2.2.2.2.2.2.2.2.2).flatten H := hP
  have hD : va_D A (l_Model Z.2.1 Am q15.1 q15.2.1 q15.2.2.1 q15.2.2.2.1 q15.2.2.2.2.1 q15.2.2.2.2.2.1 q15.2.2.2.2.2.2.1 q15.2.2.2.2.2.2.2.1 q15.2.2.2.2.2.2.2.2.1 q15.2.2.2.2.2.2.2.2.2.1 q15.2.2.2.2.2.2.2.2.2.2.1 q15.2.2.2.2.2.2.2.2.2.2.2.1 q15.2.2.2.2.2.2.2.2.2.2.2.2.1 q15.2.2.2.2.2.2.2.2.2.2.2.2.2.1 q15.2.2.2.2.2.2.2.2.2.2.2.2.2.2.1 q15.2.2.2.2.2.2.2.2.2.2.2.2.2.2.2.1 q15.2.2.2.2.2.2.2.2.2.2.2.2.2.2.2.2.1 q15.2.2.2.2.2.2.2.2.2.2.2.2.2.2.2.2.2.1 q15.2.2.2.2.2.2.2.2.2.2.2.2.2.2.2.2.2.2).flatten := hD
  refine W.eq (g2 := F0 m 80 ls []) rfl ?_
  refine lv_aload_n hx hb (z_d hX7_comes_0 47 rfl) rfl (lv_at hl 0 rfl) ?_
  refine lv_iload_n hx hb (z_d hX7_comes_0 48 rfl) rfl (lv_at hl 1 rfl) ?_
  refine lv_iconst (v := 1) hx hb (z_d hX7_comes_0 49 rfl) (by decide) ?_
  refine lv_iload_n hx hb (z_d hX7_comes_0 50 rfl) rfl (lv_at hl 3 rfl) ?_
  refine z_bnd hF (fun q16 hq16 hF => ?_)
  refine z_mu0 (z_rV (As := [.int p1, .int 1, .int p3]) (rest := []) hx hb hml hown hts vt_X7_puts (c_X7_puts l Z Am q15 p1 1 p3 _ hq16) rfl rfl ⟨Nat.le_of_ble_eq_true rfl, Nat.le_of_ble_eq_true rfl⟩ k_m_X7_125 zPmu_blind (z_recv (q := (RX7, TX7, 19)) (ci := 7) (q0 := 0) hK (zP_reg hP 0 rfl) rfl rfl) (z_prem hK hP hD) rfl hl.1 (Nat.le_of_ble_eq_true rfl) (z_d hX7_comes_0 51 rfl) ⟨Nat.zero_le _, Nat.zero_le _⟩) hS hD (adr_Model _ _ _ _) (fun H locs hP hD hS => ?_)
  have hP : va_P Z.1 vwCl (l_Model Z.2.1 Am q16.1 q16.2.1 q16.2.2.1 q16.2.2.2.1 q16.2.2.2.2.1 q16.2.2.2.2.2.1 q16.2.2.2.2.2.2.1 q16.2.2.2.2.2.2.2.1 q16.2.2.2.2.2.2.2.2.1 q16.2.2.2.2.2.2.2.2.2.1 q16.2.2.2.2.2.2.2.2.2.2.1 q16.2.2.2.2.2.2.2.2.2.2.2.1 q16.2.2.2.2.2.2.2.2.2.2.2.2.1 q16.2.2.2.2.2.2.2.2.2.2.2.2.2.1 q16.2.2.2.2.2.2.2.2.2.2.2.2.2.2.1 q16.2.2.2.2.2.2.2.2.2.2.2.2.2.2.2.1 q16.2.2.2.2.2.2.2.2.2.2.2.2.2.2.2.2.1 q16.2.2.2.2.2.2.2.2.2.2.2.2.2.2.2.2.2.1 q16.2.2.2.2.2.2.2.2.2.2.2.2.2.2.2.2.2.2).flatten H := hP
  have hD : va_D A (l_Model Z.2.1 Am q16.1 q16.2.1 q16.2.2.1 q16.2.2.2.1 q16.2.2.2.2.1 q16.2.2.2.2.2.1 q16.2.2.2.2.2.2.1 q16.2.2.2.2.2.2.2.1 q16.2.2.2.2.2.2.2.2.1 q16.2.2.2.2.2.2.2.2.2.1 q16.2.2.2.2.2.2.2.2.2.2.1 q16.2.2.2.2.2.2.2.2.2.2.2.1 q16.2.2.2.2.2.2.2.2.2.2.2.2.1 q16.2.2.2.2.2.2.2.2.2.2.2.2.2.1 q16.2.2.2.2.2.2.2.2.2.2.2.2.2.2.1 q16.2.2.2.2.2.2.2.2.2.2.2.2.2.2.2.1 q16.2.2.2.2.2.2.2.2.2.2.2.2.2.2.2.2.1 q16.2.2.2.2.2.2.2.2.2.2.2.2.2.2.2.2.2.1 q16.2.2.2.2.2.2.2.2.2.2.2.2.2.2.2.2.2.2).flatten := hD
  refine W.eq (g2 := F0 m 87 ls []) rfl ?_
  refine lv_aload_n hx hb (z_d hX7_comes_0 52 rfl) rfl (lv_at hl 0 rfl) ?_
  refine lv_iload_n hx hb (z_d hX7_comes_0 53 rfl) rfl (lv_at hl 1 rfl) ?_
  refine lv_iconst (v := 2) hx hb (z_d hX7_comes_0 54 rfl) (by decide) ?_
  refine lv_iload hx hb (z_d hX7_comes_0 55 rfl) (lv_at hl 4 rfl) ?_
  refine z_bnd hF (fun q17 hq17 hF => ?_)
  refine z_mu0 (z_rV (As := [.int p1, .int 2, .int p4]) (rest := []) hx hb hml hown hts vt_X7_puts (c_X7_puts l Z Am q16 p1 2 p4 _ hq17) rfl rfl ⟨Nat.le_of_ble_eq_true rfl, Nat.le_of_ble_eq_true rfl⟩ k_m_X7_125 zPmu_blind (z_recv (q := (RX7, TX7, 19)) (ci := 7) (q0 := 0) hK (zP_reg hP 0 rfl) rfl rfl) (z_prem hK hP hD) rfl hl.1 (Nat.le_of_ble_eq_true rfl) (z_d hX7_comes_0 56 rfl) ⟨Nat.zero_le _, Nat.zero_le _⟩) hS hD (adr_Model _ _ _ _) (fun H locs hP hD hS => ?_)
  have hP : va_P Z.1 vwCl (l_Model Z.2.1 Am q17.1 q17.2.1 q17.2.2.1 q17.2.2.2.1 q17.2.2.2.2.1 q17.2.2.2.2.2.1 q17.2.2.2.2.2.2.1 q17.2.2.2.2.2.2.2.1 q17.2.2.2.2.2.2.2.2.1 q17.2.2.2.2.2.2.2.2.2.1 q17.2.2.2.2.2.2.2.2.2.2.1 q17.2.2.2.2.2.2.2.2.2.2.2.1 q17.2.2.2.2.2.2.2.2.2.2.2.2.1 q17.2.2.2.2.2.2.2.2.2.2.2.2.2.1 q17.2.2.2.2.2.2.2.2.2.2.2.2.2.2.1 q17.2.2.2.2.2.2.2.2.2.2.2.2.2.2.2.1 q17.2.2.2.2.2.2.2.2.2.2.2.2.2.2.2.2.1 q17.2.2.2.2.2.2.2.2.2.2.2.2.2.2.2.2.2.1 q17.2.2.2.2.2.2.2.2.2.2.2.2.2.2.2.2.2.2).flatten H := hP
  have hD : va_D A (l_Model Z.2.1 Am q17.1 q17.2.1 q17.2.2.1 q17.2.2.2.1 q17.2.2.2.2.1 q17.2.2.2.2.2.1 q17.2.2.2.2.2.2.1 q17.2.2.2.2.2.2.2.1 q17.2.2.2.2.2.2.2.2.1 q17.2.2.2.2.2.2.2.2.2.1 q17.2.2.2.2.2.2.2.2.2.2.1 q17.2.2.2.2.2.2.2.2.2.2.2.1 q17.2.2.2.2.2.2.2.2.2.2.2.2.1 q17.2.2.2.2.2.2.2.2.2.2.2.2.2.1 q17.2.2.2.2.2.2.2.2.2.2.2.2.2.2.1 q17.2.2.2.2.2.2.2.2.2.2.2.2.2.2.2.1 q17.2.2.2.2.2.2.2.2.2.2.2.2.2.2.2.2.1 q17.2.2.2.2.2.2.2.2.2.2.2.2.2.2.2.2.2.1 q17.2.2.2.2.2.2.2.2.2.2.2.2.2.2.2.2.2.2).flatten := hD
  refine W.eq (g2 := F0 m 95 ls []) rfl ?_
  refine lv_aload_n hx hb (z_d hX7_comes_0 57 rfl) rfl (lv_at hl 0 rfl) ?_
  refine lv_iload_n hx hb (z_d hX7_comes_0 58 rfl) rfl (lv_at hl 1 rfl) ?_
  refine lv_bipush (v := 8) hx hb (z_d hX7_comes_0 59 rfl) (by decide) ?_
  refine lv_iconst (v := (-1)) hx hb (z_d hX7_comes_1 0 rfl) (by decide) ?_
  refine z_bnd hF (fun q18 hq18 hF => ?_)
  refine z_mu0 (z_rV (As := [.int p1, .int 8, .int (-1)]) (rest := []) hx hb hml hown hts vt_X7_puts (c_X7_puts l Z Am q17 p1 8 (-1) _ hq18) rfl rfl ⟨Nat.le_of_ble_eq_true rfl, Nat.le_of_ble_eq_true rfl⟩ k_m_X7_125 zPmu_blind (z_recv (q := (RX7, TX7, 19)) (ci := 7) (q0 := 0) hK (zP_reg hP 0 rfl) rfl rfl) (z_prem hK hP hD) rfl hl.1 (Nat.le_of_ble_eq_true rfl) (z_d hX7_comes_1 1 rfl) ⟨Nat.zero_le _, Nat.zero_le _⟩) hS hD (adr_Model _ _ _ _) (fun H locs hP hD hS => ?_)
  have hP : va_P Z.1 vwCl (l_Model Z.2.1 Am q18.1 q18.2.1 q18.2.2.1 q18.2.2.2.1 q18.2.2.2.2.1 q18.2.2.2.2.2.1 q18.2.2.2.2.2.2.1 q18.2.2.2.2.2.2.2.1 q18.2.2.2.2.2.2.2.2.1 q18.2.2.2.2.2.2.2.2.2.1 q18.2.2.2.2.2.2.2.2.2.2.1 q18.2.2.2.2.2.2.2.2.2.2.2.1 q18.2.2.2.2.2.2.2.2.2.2.2.2.1 q18.2.2.2.2.2.2.2.2.2.2.2.2.2.1 q18.2.2.2.2.2.2.2.2.2.2.2.2.2.2.1 q18.2.2.2.2.2.2.2.2.2.2.2.2.2.2.2.1 q18.2.2.2.2.2.2.2.2.2.2.2.2.2.2.2.2.1 q18.2.2.2.2.2.2.2.2.2.2.2.2.2.2.2.2.2.1 q18.2.2.2.2.2.2.2.2.2.2.2.2.2.2.2.2.2.2).flatten H := hP
  have hD : va_D A (l_Model Z.2.1 Am q18.1 q18.2.1 q18.2.2.1 q18.2.2.2.1 q18.2.2.2.2.1 q18.2.2.2.2.2.1 q18.2.2.2.2.2.2.1 q18.2.2.2.2.2.2.2.1 q18.2.2.2.2.2.2.2.2.1 q18.2.2.2.2.2.2.2.2.2.1 q18.2.2.2.2.2.2.2.2.2.2.1 q18.2.2.2.2.2.2.2.2.2.2.2.1 q18.2.2.2.2.2.2.2.2.2.2.2.2.1 q18.2.2.2.2.2.2.2.2.2.2.2.2.2.1 q18.2.2.2.2.2.2.2.2.2.2.2.2.2.2.1 q18.2.2.2.2.2.2.2.2.2.2.2.2.2.2.2.1 q18.2.2.2.2.2.2.2.2.2.2.2.2.2.2.2.2.1 q18.2.2.2.2.2.2.2.2.2.2.2.2.2.2.2.2.2.1 q18.2.2.2.2.2.2.2.2.2.2.2.2.2.2.2.2.2.2).flatten := hD
  refine W.eq (g2 := F0 m 103 ls []) rfl ?_
  refine lv_aload_n hx hb (z_d hX7_comes_1 2 rfl) rfl (lv_at hl 0 rfl) ?_
  refine va_get (D := Z.1) (ci := 7) (v := .ref (Am 1)) (C := RX7) (T := TX7) (N := 19) hx hb hts zinX7 hown hK.1 (zP_reg hP 0 rfl) 0 rfl rfl 0 (by decide) (hts _ k_f_X7_7) (fun _ h9 => h9) rfl (z_d hX7_comes_1 3 rfl) ?_
  refine lv_iconst (v := 1) hx hb (z_d hX7_comes_1 4 rfl) (by decide) ?_
  refine lv_dup2_11 hx hb (z_d hX7_comes_1 5 rfl) rfl rfl ?_
  refine z_ix hF (fun hin hF => ?_)
  refine va_iald (D := Z.1) (f := q18.1) hx hb hK.1 (zP_reg hP 1 rfl) 0 0 rfl rfl hin (z_d hX7_comes_1 6 rfl) ?_
  refine z_let hF (fun u19 hu19 hF => ?_)
  refine lv_topE hu19 ?_
  refine lv_iconst (v := 1) hx hb (z_d hX7_comes_1 7 rfl) (by decide) ?_
  refine lv_iadd hx hb (z_d hX7_comes_1 8 rfl) ?_
  refine z_let hF (fun u20 hu20 hF => ?_)
  refine lv_topE hu20 ?_
  refine z_ix hF (fun hin hF => ?_)
  refine z_let hF (fun g21 hg21 hF => ?_)
  refine z_iast (Z := Z) (L := l_Model Z.2.1 Am q18.1 q18.2.1 q18.2.2.1 q18.2.2.2.1 q18.2.2.2.2.1 q18.2.2.2.2.2.1 q18.2.2.2.2.2.2.1 q18.2.2.2.2.2.2.2.1 q18.2.2.2.2.2.2.2.2.1 q18.2.2.2.2.2.2.2.2.2.1 q18.2.2.2.2.2.2.2.2.2.2.1 q18.2.2.2.2.2.2.2.2.2.2.2.1 q18.2.2.2.2.2.2.2.2.2.2.2.2.1 q18.2.2.2.2.2.2.2.2.2.2.2.2.2.1 q18.2.2.2.2.2.2.2.2.2.2.2.2.2.2.1 q18.2.2.2.2.2.2.2.2.2.2.2.2.2.2.2.1 q18.2.2.2.2.2.2.2.2.2.2.2.2.2.2.2.2.1 q18.2.2.2.2.2.2.2.2.2.2.2.2.2.2.2.2.2.1 q18.2.2.2.2.2.2.2.2.2.2.2.2.2.2.2.2.2.2) (L' := l_Model Z.2.1 Am g21 q18.2.1 q18.2.2.1 q18.2.2.2.1 q18.2.2.2.2.1 q18.2.2.2.2.2.1 q18.2.2.2.2.2.2.1 q18.2.2.2.2.2.2.2.1 q18.2.2.2.2.2.2.2.2.1 q18.2.2.2.2.2.2.2.2.2.1 q18.2.2.2.2.2.2.2.2.2.2.1 q18.2.2.2.2.2.2.2.2.2.2.2.1 q18.2.2.2.2.2.2.2.2.2.2.2.2.1 q18.2.2.2.2.2.2.2.2.2.2.2.2.2.1 q18.2.2.2.2.2.2.2.2.2.2.2.2.2.2.1 q18.2.2.2.2.2.2.2.2.2.2.2.2.2.2.2.1 q18.2.2.2.2.2.2.2.2.2.2.2.2.2.2.2.2.1 q18.2.2.2.2.2.2.2.2.2.2.2.2.2.2.2.2.2.1 q18.2.2.2.2.2.2.2.2.2.2.2.2.2.2.2.2.2.2) (f := q18.1) hx hb hK hP hD hS 1 rfl hin hg21 rfl (z_d hX7_comes_1 9 rfl) (fun H locs hP hD hS => ?_)
  obtain rfl := Option.some.inj hF
  subst hQ
  subst hA
  exact W.vret hx hb hr (fun t ht hW => zq_mu (by rw [ht]; exact hP) (hS.F ht)) hS.2.2 (z_d hX7_comes_1 10 rfl)
def rm_X7_goes : Room := { frames := 1, cells := 0, slots := 0, locals := 23 }
set_option maxRecDepth 100000 in
set_option maxHeartbeats 4000000 in
theorem c_X7_goes (l : Launch) (Z : zZ) (Am : Nat → Nat) (M : t_Model) (p1 : Int32) (R : t_Model) (hF : X7_goes M p1 = some R) : zMU l yX7_goes (zw yX7_goes cX7_goes 4 none) rm_X7_goes Z [.ref (Am 0), .int p1] (w_Model Z.2.1 Am M) (w_Model Z.2.1 Am R) none := by
  refine zMU_of (by decide) (Nat.le_of_ble_eq_true rfl) (fun p e s m below meth c hx hb hr hml hown hts hlocks hK A hA Q hQ ls hl hP hD hS => ?_)
  unfold X7_goes at hF
  have hl : lv_has ls 4 [(0, .ref (Am 0)), (1, .int p1)] := hl
  have hown : s.vm.findClass RX7 = some m.cls := hown
  have hP : va_P Z.1 vwCl (l_Model Z.2.1 Am M.1 M.2.1 M.2.2.1 M.2.2.2.1 M.2.2.2.2.1 M.2.2.2.2.2.1 M.2.2.2.2.2.2.1 M.2.2.2.2.2.2.2.1 M.2.2.2.2.2.2.2.2.1 M.2.2.2.2.2.2.2.2.2.1 M.2.2.2.2.2.2.2.2.2.2.1 M.2.2.2.2.2.2.2.2.2.2.2.1 M.2.2.2.2.2.2.2.2.2.2.2.2.1 M.2.2.2.2.2.2.2.2.2.2.2.2.2.1 M.2.2.2.2.2.2.2.2.2.2.2.2.2.2.1 M.2.2.2.2.2.2.2.2.2.2.2.2.2.2.2.1 M.2.2.2.2.2.2.2.2.2.2.2.2.2.2.2.2.1 M.2.2.2.2.2.2.2.2.2.2.2.2.2.2.2.2.2.1 M.2.2.2.2.2.2.2.2.2.2.2.2.2.2.2.2.2.2).flatten s.heap := hP
  have hD : va_D A (l_Model Z.2.1 Am M.1 M.2.1 M.2.2.1 M.2.2.2.1 M.2.2.2.2.1 M.2.2.2.2.2.1 M.2.2.2.2.2.2.1 M.2.2.2.2.2.2.2.1 M.2.2.2.2.2.2.2.2.1 M.2.2.2.2.2.2.2.2.2.1 M.2.2.2.2.2.2.2.2.2.2.1 M.2.2.2.2.2.2.2.2.2.2.2.1 M.2.2.2.2.2.2.2.2.2.2.2.2.1 M.2.2.2.2.2.2.2.2.2.2.2.2.2.1 M.2.2.2.2.2.2.2.2.2.2.2.2.2.2.1 M.2.2.2.2.2.2.2.2.2.2.2.2.2.2.2.1 M.2.2.2.2.2.2.2.2.2.2.2.2.2.2.2.2.1 M.2.2.2.2.2.2.2.2.2.2.2.2.2.2.2.2.2.1 M.2.2.2.2.2.2.2.2.2.2.2.2.2.2.2.2.2.2).flatten := hD
  have L25 : ∀ (x2 : Int32) (n : Nat) (v : t_Model × Int32) (X : t_Model) (hF : zloop (b_X7_goes_25 p1 x2) n v = some X) (H : Heap) (locs : List Loc) (ls : Array Slot) (hP : va_P Z.1 vwCl (l_Model Z.2.1 Am v.1.1 v.1.2.1 v.1.2.2.1 v.1.2.2.2.1 v.1.2.2.2.2.1 v.1.2.2.2.2.2.1 v.1.2.2.2.2.2.2.1 v.1.2.2.2.2.2.2.2.1 v.1.2.2.2.2.2.2.2.2.1 v.1.2.2.2.2.2.2.2.2.2.1 v.1.2.2.2.2.2.2.2.2.2.2.1 v.1.2.2.2.2.2.2.2.2.2.2.2.1 v.1.2.2.2.2.2.2.2.2.2.2.2.2.1 v.1.2.2.2.2.2.2.2.2.2.2.2.2.2.1 v.1.2.2.2.2.2.2.2.2.2.2.2.2.2.2.1 v.1.2.2.2.2.2.2.2.2.2.2.2.2.2.2.2.1 v.1.2.2.2.2.2.2.2.2.2.2.2.2.2.2.2.2.1 v.1.2.2.2.2.2.2.2.2.2.2.2.2.2.2.2.2.2.1 v.1.2.2.2.2.2.2.2.2.2.2.2.2.2.2.2.2.2.2).flatten H) (hD : va_D A (l_Model Z.2.1 Am v.1.1 v.1.2.1 v.1.2.2.1 v.1.2.2.2.1 v.1.2.2.2.2.1 v.1.2.2.2.2.2.1 v.1.2.2.2.2.2.2.1 v.1.2.2.2.2.2.2.2.1 v.1.2.2.2.2.2.2.2.2.1 v.1.2.2.2.2.2.2.2.2.2.1 v.1.2.2.2.2.2.2.2.2.2.2.1 v.1.2.2.2.2.2.2.2.2.2.2.2.1 v.1.2.2.2.2.2.2.2.2.2.2.2.2.1 v.1.2.2.2.2.2.2.2.2.2.2.2.2.2.1 v.1.2.2.2.2.2.2.2.2.2.2.2.2.2.2.1 v.1.2.2.2.2.2.2.2.2.2.2.2.2.2.2.2.1 v.1.2.2.2.2.2.2.2.2.2.2.2.2.2.2.2.2.1 v.1.2.2.2.2.2.2.2.2.2.2.2.2.2.2.2.2.2.1 v.1.2.2.2.2.2.2.2.2.2.2.2.2.2.2.2.2.2.2).flatten) (hS : va_S A s.heap H locs) (hl : lv_has ls 4 [(0, .ref (Am 0)), (1, .int p1), (2, .int x2), (3, .int v.2)]) (K1 : ∀ (H : Heap) (locs : List Loc) (ls : Array Slot) (hP : va_P Z.1 vwCl (l_Model Z.2.1 Am X.1 X.2.1 X.2.2.1 X.2.2.2.1 X.2.2.2.2.1 X.2.2.2.2.2.1 X.2.2.2.2.2.2.1 X.2.2.2.2.2.2.2.1 X.2.2.2.2.2.2.2.2.1 X.2.2.2.2.2.2.2.2.2.1 X.2.2.2.2.2.2.2.2.2.2.1 X.2.2.2.2.2.2.2.2.2.2.2.1 X.2.2.2.2.2.2.2.2.2.2.2.2.1 X.2.2.2.2.2.2.2.2.2.2.2.2.2.1 X.2.2.2.2.2.2.2.2.2.2.2.2.2.2.1 X.2.2.2.2.2.2.2.2.2.2.2.2.2.2.2.1 X.2.2.2.2.2.2.2.2.2.2.2.2.2.2.2.2.1 X.2.2.2.2.2.2.2.2.2.2.2.2.2.2.2.2.2.1 X.2.2.2.2.2.2.2.2.2.2.2.2.2.2.2.2.2.2).flatten H) (hD : va_D A (l_Model Z.2.1 Am X.1 X.2.1 X.2.2.1 X.2.2.2.1 X.2.2.2.2.1 X.2.2.2.2.2.1 X.2.2.2.2.2.2.1 X.2.2.2.2.2.2.2.1 X.2.2.2.2.2.2.2.2.1 X.2.2.2.2.2.2.2.2.2.1 X.2.2.2.2.2.2.2.2.2.2.1 X.2.2.2.2.2.2.2.2.2.2.2.1 X.2.2.2.2.2.2.2.2.2.2.2.2.1 X.2.2.2.2.2.2.2.2.2.2.2.2.2.1 X.2.2.2.2.2.2.2.2.2.2.2.2.2.2.1 X.2.2.2.2.2.2.2.2.2.2.2.2.2.2.2.1 X.2.2.2.2.2.2.2.2.2.2.2.2.2.2.2.2.1 X.2.2.2.2.2.2.2.2.2.2.2.2.2.2.2.2.2.1 X.2.2.2.2.2.2.2.2.2.2.2.2.2.2.2.2.2.2).flatten) (hS : va_S A s.heap H locs) (hl : lv_has ls 4 [(0, .ref (Am 0)), (1, .int p1), (2, .int x2)]), W p l e rm_X7_goes s m ([.ref (Am 0), .int p1] : List Value).toArray below meth c H locs 0 0 Q (F0 m 61 ls [])), W p l e rm_X7_goes s m ([.ref (Am 0), .int p1] : List Value).toArray below meth c H locs 0 0 Q (F0 m 25 ls []) := by
    intro x2
    refine z_loopE (fun rec ih v X hF H locs ls hP hD hS hl K1 => ?_)
    unfold b_X7_goes_25 at hF
    refine lv_iload_n hx hb (z_d hX7_goes_0 19 rfl) rfl (lv_at hl 3 rfl) ?_
    refine lv_iconst (v := 2) hx hb (z_d hX7_goes_0 20 rfl) (by decide) ?_
    refine lv_bipush (v := 9) hx hb (z_d hX7_goes_0 21 rfl) (by decide) ?_
    refine lv_aload_n hx hb (z_d hX7_goes_0 22 rfl) rfl (lv_at hl 0 rfl) ?_
    refine va_get (D := Z.1) (ci := 7) (v := .ref (Am 1)) (C := RX7) (T := TX7) (N := 19) hx hb hts zinX7 hown hK.1 (zP_reg hP 0 rfl) 0 rfl rfl 0 (by decide) (hts _ k_f_X7_7) (fun _ h9 => h9) rfl (z_d hX7_goes_0 23 rfl) ?_
    refine lv_iconst (v := 1) hx hb (z_d hX7_goes_0 24 rfl) (by decide) ?_
    refine z_ix hF (fun hin hF => ?_)
    refine va_iald (D := Z.1) (f := v.1.1) hx hb hK.1 (zP_reg hP 1 rfl) 0 0 rfl rfl hin (z_d hX7_goes_0 25 rfl) ?_
    refine z_let hF (fun u7 hu7 hF => ?_)
    refine lv_topE hu7 ?_
    refine lv_imul hx hb (z_d hX7_goes_0 26 rfl) ?_
    refine z_let hF (fun u8 hu8 hF => ?_)
    refine lv_topE hu8 ?_
    refine lv_iadd hx hb (z_d hX7_goes_0 27 rfl) ?_
    refine z_let hF (fun u9 hu9 hF => ?_)
    refine lv_topE hu9 ?_
    refine lv_icmp_ge (tgt := 61) hx hb (z_d hX7_goes_0 28 rfl) (by decide) (fun hc37 => ?_) (fun hc37 => ?_)
    · have hF := z_pos hc37 hF
      obtain rfl := Option.some.inj hF
      exact K1 _ _ ls hP hD hS (lv_sub hl [0, 1, 2] rfl)
    · have hF := z_neg hc37 hF
      refine lv_aload_n hx hb (z_d hX7_goes_0 29 rfl) rfl (lv_at hl 0 rfl) ?_
      refine va_get (D := Z.1) (ci := 7) (v := .ref (Am 1)) (C := RX7) (T := TX7) (N := 19) hx hb hts zinX7 hown hK.1 (zP_reg hP 0 rfl) 0 rfl rfl 0 (by decide) (hts _ k_f_X7_7) (fun _ h9 => h9) rfl (z_d hX7_goes_0 30 rfl) ?_
      refine lv_iload_n hx hb (z_d hX7_goes_0 31 rfl) rfl (lv_at hl 3 rfl) ?_
      refine lv_aload_n hx hb (z_d hX7_goes_0 32 rfl) rfl (lv_at hl 0 rfl) ?_
      refine va_get (D := Z.1) (ci := 7) (v := .ref (Am 1)) (C := RX7) (T := TX7) (N := 19) hx hb hts zinX7 hown hK.1 (zP_reg hP 0 rfl) 0 rfl rfl 0 (by decide) (hts _ k_f_X7_7) (fun _ h9 => h9) rfl (z_d hX7_goes_0 33 rfl) ?_
      refine lv_iload_n hx hb (z_d hX7_goes_0 34 rfl) rfl (lv_at hl 3 rfl) ?_
      refine lv_bipush (v := 9) hx hb (z_d hX7_goes_0 35 rfl) (by decide) ?_
      refine lv_iadd hx hb (z_d hX7_goes_0 36 rfl) ?_
      refine z_let hF (fun u10 hu10 hF => ?_)
      refine lv_topE hu10 ?_
      refine z_ix hF (fun hin hF => ?_)
      refine va_iald (D := Z.1) (f := v.1.1) hx hb hK.1 (zP_reg hP 1 rfl) 0 0 rfl rfl hin (z_d hX7_goes_0 37 rfl) ?_
      refine z_let hF (fun u11 hu11 hF => ?_)
      refine lv_topE hu11 ?_
      refine z_ix hF (fun hin hF => ?_)
      refine z_let hF (fun g12 hg12 hF => ?_)
      refine z_iast (Z := Z) (L := l_Model Z.2.1 Am v.1.1 v.1.2.1 v.1.2.2.1 v.1.2.2.2.1 v.1.2.2.2.2.1 v.1.2.2.2.2.2.1 v.1.2.2.2.2.2.2.1 v.1.2.2.2.2.2.2.2.1 v.1.2.2.2.2.2.2.2.2.1 v.1.2.2.2.2.2.2.2.2.2.1 v.1.2.2.2.2.2.2.2.2.2.2.1 v.1.2.2.2.2.2.2.2.2.2.2.2.1 v.1.2.2.2.2.2.2.2.2.2.2.2.2.1 v.1.2.2.2.2.2.2.2.2.2.2.2.2.2.1 v.1.2.2.2.2.2.2.2.2.2.2.2.2.2.2.1 v.1.2.2.2.2.2.2.2.2.2.2.2.2.2.2.2.1 v.1.2.2.2.2.2.2.2.2.2.2.2.2.2.2.2.2.1 v.1.2.2.2.2.2.2.2.2.2.2.2.2.2.2.2.2.2.1 v.1.2.2.2.2.2.2.2.2.2.2.2.2.2.2.2.2.2.2) (L' := l_Model Z.2.1 Am g12 v.1.2.1 v.1.2.2.1 v.1.2.2.2.1 v.1.2.2.2.2.1 v.1.2.2.2.2.2.1 v.1.2.2.2.2.2.2.1 v.1.2.2.2.2.2.2.2.1 v.1.2.2.2.2.2.2.2.2.1 v.1.2.2.2.2.2.2.2.2.2.1 v.1.2.2.2.2.2.2.2.2.2.2.1 v.1.2.2.2.2.2.2.2.2.2.2.2.1 v.1.2.2.2.2.2.2.2.2.2.2.2.2.1 v.1.2.2.2.2.2.2.2.2.2.2.2.2.2.1 v.1.2.2.2.2.2.2.2.2.2.2.2.2.2.2.1 v.1.2.2.2.2.2.2.2.2.2.2.2.2.2.2.2.1 v.1.2.2.2.2.2.2.2.2.2.2.2.2.2.2.2.2.1 v.1.2.2.2.2.2.2.2.2.2.2.2.2.2.2.2.2.2.1 v.1.2.2.2.2.2.2.2.2.2.2.2.2.2.2.2.2.2.2) (f := v.1.1) hx hb hK hP hD hS 1 rfl hin hg12 rfl (z_d hX7_goes_0 38 rfl) (fun H locs hP hD hS => ?_)
      refine z_let hF (fun u13 hu13 hF => ?_)
      refine lv_iinc (v := u13) (lv' := [(3, .int u13), (0, .ref (Am 0)), (1, .int p1), (2, .int x2)]) hx hb (z_d hX7_goes_0 39 rfl) hl (k := 3) rfl (z_inc1 hu13) (by decide) rfl (fun ls hl => ?_)
      refine lv_goto (tgt := 25) hx hb (z_d hX7_goes_0 40 rfl) (by decide) ?_
      exact ih _ _ hF _ _ ls hP hD hS (lv_sub hl [1, 2, 3, 0] rfl) K1
  refine lv_aload_n hx hb (z_d hX7_goes_0 0 rfl) rfl (lv_at hl 0 rfl) ?_
  refine lv_iload_n hx hb (z_d hX7_goes_0 1 rfl) rfl (lv_at hl 1 rfl) ?_
  refine lv_bipush (v := 8) hx hb (z_d hX7_goes_0 2 rfl) (by decide) ?_
  refine z_bnd hF (fun q1 hq1 hF => ?_)
  refine z_ro_i (z_rV (As := [.int p1, .int 8]) (rest := []) hx hb hml hown hts vt_X7_of (c_X7_of l Z Am M p1 8 _ hq1) rfl rfl ⟨Nat.le_of_ble_eq_true rfl, Nat.le_of_ble_eq_true rfl⟩ k_m_X7_62 zPro_blind (z_recv (q := (RX7, TX7, 19)) (ci := 7) (q0 := 0) hK (zP_reg hP 0 rfl) rfl rfl) (z_prec hK hP) rfl hl.1 (Nat.le_of_ble_eq_true rfl) (z_d hX7_goes_0 3 rfl) ⟨Nat.zero_le _, Nat.zero_le _⟩) hS hP (fun H locs hP hS => ?_)
  refine lv_istore_n (lv' := [(2, .int q1), (0, .ref (Am 0)), (1, .int p1)]) hx hb (z_d hX7_goes_0 4 rfl) rfl hl (by decide) rfl (fun ls hl => ?_)
  refine lv_aload_n hx hb (z_d hX7_goes_0 5 rfl) rfl (lv_at hl 1 rfl) ?_
  refine va_get (D := Z.1) (ci := 7) (v := .ref (Am 1)) (C := RX7) (T := TX7) (N := 19) hx hb hts zinX7 hown hK.1 (zP_reg hP 0 rfl) 0 rfl rfl 0 (by decide) (hts _ k_f_X7_7) (fun _ h9 => h9) rfl (z_d hX7_goes_0 6 rfl) ?_
  refine lv_iconst (v := 1) hx hb (z_d hX7_goes_0 7 rfl) (by decide) ?_
  refine lv_dup2_11 hx hb (z_d hX7_goes_0 8 rfl) rfl rfl ?_
  refine z_ix hF (fun hin hF => ?_)
  refine va_iald (D := Z.1) (f := M.1) hx hb hK.1 (zP_reg hP 1 rfl) 0 0 rfl rfl hin (z_d hX7_goes_0 9 rfl) ?_
  refine z_let hF (fun u2 hu2 hF => ?_)
  refine lv_topE hu2 ?_
  refine lv_iconst (v := 1) hx hb (z_d hX7_goes_0 10 rfl) (by decide) ?_
  refine lv_isub hx hb (z_d hX7_goes_0 11 rfl) ?_
  refine z_let hF (fun u3 hu3 hF => ?_)
  refine lv_topE hu3 ?_
  refine z_ix hF (fun hin hF => ?_)
  refine z_let hF (fun g4 hg4 hF => ?_)
  refine z_iast (Z := Z) (L := l_Model Z.2.1 Am M.1 M.2.1 M.2.2.1 M.2.2.2.1 M.2.2.2.2.1 M.2.2.2.2.2.1 M.2.2.2.2.2.2.1 M.2.2.2.2.2.2.2.1 M.2.2.2.2.2.2.2.2.1 M.2.2.2.2.2.2.2.2.2.1 M.2.2.2.2.2.2.2.2.2.2.1 M.2.2.2.2.2.2.2.2.2.2.2.1 M.2.2.2.2.2.2.2.2.2.2.2.2.1 M.2.2.2.2.2.2.2.2.2.2.2.2.2.1 M.2.2.2.2.2.2.2.2.2.2.2.2.2.2.1 M.2.2.2.2.2.2.2.2.2.2.2.2.2.2.2.1 M.2.2.2.2.2.2.2.2.2.2.2.2.2.2.2.2.1 M.2.2.2.2.2.2.2.2.2.2.2.2.2.2.2.2.2.1 M.2.2.2.2.2.2.2.2.2.2.2.2.2.2.2.2.2.2) (L' := l_Model Z.2.1 Am g4 M.2.1 M.2.2.1 M.2.2.2.1 M.2.2.2.2.1 M.2.2.2.2.2.1 M.2.2.2.2.2.2.1 M.2.2.2.2.2.2.2.1 M.2.2.2.2.2.2.2.2.1 M.2.2.2.2.2.2.2.2.2.1 M.2.2.2.2.2.2.2.2.2.2.1 M.2.2.2.2.2.2.2.2.2.2.2.1 M.2.2.2.2.2.2.2.2.2.2.2.2.1 M.2.2.2.2.2.2.2.2.2.2.2.2.2.1 M.2.2.2.2.2.2.2.2.2.2.2.2.2.2.1 M.2.2.2.2.2.2.2.2.2.2.2.2.2.2.2.1 M.2.2.2.2.2.2.2.2.2.2.2.2.2.2.2.2.1 M.2.2.2.2.2.2.2.2.2.2.2.2.2.2.2.2.2.1 M.2.2.2.2.2.2.2.2.2.2.2.2.2.2.2.2.2.2) (f := M.1) hx hb hK hP hD hS 1 rfl hin hg4 rfl (z_d hX7_goes_0 12 rfl) (fun H locs hP hD hS => ?_)
  refine lv_iconst (v := 2) hx hb (z_d hX7_goes_0 13 rfl) (by decide) ?_
  refine lv_bipush (v := 9) hx hb (z_d hX7_goes_0 14 rfl) (by decide) ?_
  refine lv_iload_n hx hb (z_d hX7_goes_0 15 rfl) rfl (lv_at hl 2 rfl) ?_
  refine lv_imul hx hb (z_d hX7_goes_0 16 rfl) ?_
  refine z_let hF (fun u5 hu5 hF => ?_)
  refine lv_topE hu5 ?_
  refine lv_iadd hx hb (z_d hX7_goes_0 17 rfl) ?_
  refine z_let hF (fun u6 hu6 hF => ?_)
  refine lv_topE hu6 ?_
  refine lv_istore_n (lv' := [(3, .int u6), (2, .int q1), (0, .ref (Am 0)), (1, .int p1)]) hx hb (z_d hX7_goes_0 18 rfl) rfl hl (by decide) rfl (fun ls hl => ?_)
  refine z_bnd hF (fun q14 hq14 hF => ?_)
  refine L25 q1 _ _ _ hq14 _ _ ls hP hD hS (lv_sub hl [2, 3, 1, 0] rfl) (fun H locs ls hP hD hS hl => ?_)
  refine lv_iload_n hx hb (z_d hX7_goes_0 41 rfl) rfl (lv_at hl 2 rfl) ?_
  refine lv_iconst (v := (-1)) hx hb (z_d hX7_goes_0 42 rfl) (by decide) ?_
  refine lv_icmp_eq (tgt := 95) hx hb (z_d hX7_goes_0 43 rfl) (by decide) (fun hc63 => ?_) (fun hc63 => ?_)
  · have hF := z_pos hc63 hF
    obtain rfl := Option.some.inj hF
    subst hQ
    subst hA
    exact W.vret hx hb hr (fun t ht hW => zq_mu (by rw [ht]; exact hP) (hS.F ht)) hS.2.2 (z_d hX7_goes_1 1 rfl)
  · have hF := z_neg hc63 hF
    refine lv_iload_n hx hb (z_d hX7_goes_0 44 rfl) rfl (lv_at hl 1 rfl) ?_
    refine lv_aload_n hx hb (z_d hX7_goes_0 45 rfl) rfl (lv_at hl 0 rfl) ?_
    refine va_get (D := Z.1) (ci := 7) (v := .ref (Am 1)) (C := RX7) (T := TX7) (N := 19) hx hb hts zinX7 hown hK.1 (zP_reg hP 0 rfl) 0 rfl rfl 0 (by decide) (hts _ k_f_X7_7) (fun _ h9 => h9) rfl (z_d hX7_goes_0 46 rfl) ?_
    refine lv_iconst (v := 1) hx hb (z_d hX7_goes_0 47 rfl) (by decide) ?_
    refine z_ix hF (fun hin hF => ?_)
    refine va_iald (D := Z.1) (f := q14.1) hx hb hK.1 (zP_reg hP 1 rfl) 0 0 rfl rfl hin (z_d hX7_goes_0 48 rfl) ?_
    refine z_let hF (fun u15 hu15 hF => ?_)
    refine lv_topE hu15 ?_
    refine lv_icmp_ge (tgt := 95) hx hb (z_d hX7_goes_0 49 rfl) (by decide) (fun hc73 => ?_) (fun hc73 => ?_)
    · have hF := z_pos hc73 hF
      obtain rfl := Option.some.inj hF
      subst hQ
      subst hA
      exact W.vret hx hb hr (fun t ht hW => zq_mu (by rw [ht]; exact hP) (hS.F ht)) hS.2.2 (z_d hX7_goes_1 1 rfl)
    · have hF := z_neg hc73 hF
      refine lv_aload_n hx hb (z_d hX7_goes_0 50 rfl) rfl (lv_at hl 0 rfl) ?_
      refine lv_iload_n hx hb (z_d hX7_goes_0 51 rfl) rfl (lv_at hl 1 rfl) ?_
      refine lv_bipush (v := 8) hx hb (z_d hX7_goes_0 52 rfl) (by decide) ?_
      refine z_bnd hF (fun q16 hq16 hF => ?_)
      refine z_ro_i (z_rV (As := [.int p1, .int 8]) (rest := []) hx hb hml hown hts vt_X7_of (c_X7_of l Z Am q14 p1 8 _ hq16) rfl rfl ⟨Nat.le_of_ble_eq_true rfl, Nat.le_of_ble_eq_true rfl⟩ k_m_X7_62 zPro_blind (z_recv (q := (RX7, TX7, 19)) (ci := 7) (q0 := 0) hK (zP_reg hP 0 rfl) rfl rfl) (z_prec hK hP) rfl hl.1 (Nat.le_of_ble_eq_true rfl) (z_d hX7_goes_0 53 rfl) ⟨Nat.zero_le _, Nat.zero_le _⟩) hS hP (fun H locs hP hS => ?_)
      refine lv_iconst (v := (-1)) hx hb (z_d hX7_goes_0 54 rfl) (by decide) ?_
      refine lv_icmp_ne (tgt := 95) hx hb (z_d hX7_goes_0 55 rfl) (by decide) (fun hc84 => ?_) (fun hc84 => ?_)
      · have hF := z_neg hc84 hF
        obtain rfl := Option.some.inj hF
        subst hQ
        subst hA
        exact W.vret hx hb hr (fun t ht hW => zq_mu (by rw [ht]; exact hP) (hS.F ht)) hS.2.2 (z_d hX7_goes_1 1 rfl)
      · have hF := z_pos hc84 hF
        refine lv_aload_n hx hb (z_d hX7_goes_0 56 rfl) rfl (lv_at hl 0 rfl) ?_
        refine lv_iload_n hx hb (z_d hX7_goes_0 57 rfl) rfl (lv_at hl 1 rfl) ?_
        refine lv_bipush (v := 8) hx hb (z_d hX7_goes_0 58 rfl) (by decide) ?_
        refine lv_iload_n hx hb (z_d hX7_goes_0 59 rfl) rfl (lv_at hl 2 rfl) ?_
        refine z_bnd hF (fun q17 hq17 hF => ?_)
        refine z_mu0 (z_rV (As := [.int p1, .int 8, .int q1]) (rest := []) hx hb hml hown hts vt_X7_puts (c_X7_puts l Z Am q14 p1 8 q1 _ hq17) rfl rfl ⟨Nat.le_of_ble_eq_true rfl, Nat.le_of_ble_eq_true rfl⟩ k_m_X7_125 zPmu_blind (z_recv (q := (RX7, TX7, 19)) (ci := 7) (q0 := 0) hK (zP_reg hP 0 rfl) rfl rfl) (z_prem hK hP hD) rfl hl.1 (Nat.le_of_ble_eq_true rfl) (z_d hX7_goes_1 0 rfl) ⟨Nat.zero_le _, Nat.zero_le _⟩) hS hD (adr_Model _ _ _ _) (fun H locs hP hD hS => ?_)
        have hP : va_P Z.1 vwCl (l_Model Z.2.1 Am q17.1 q17.2.1 q17.2.2.1 q17.2.2.2.1 q17.2.2.2.2.1 q17.2.2.2.2.2.1 q17.2.2.2.2.2.2.1 q17.2.2.2.2.2.2.2.1 q17.2.2.2.2.2.2.2.2.1 q17.2.2.2.2.2.2.2.2.2.1 q17.2.2.2.2.2.2.2.2.2.2.1 q17.2.2.2.2.2.2.2.2.2.2.2.1 q17.2.2.2.2.2.2.2.2.2.2.2.2.1 q17.2.2.2.2.2.2.2.2.2.2.2.2.2.1 q17.2.2.2.2.2.2.2.2.2.2.2.2.2.2.1 q17.2.2.2.2.2.2.2.2.2.2.2.2.2.2.2.1 q17.2.2.2.2.2.2.2.2.2.2.2.2.2.2.2.2.1 q17.2.2.2.2.2.2.2.2.2.2.2.2.2.2.2.2.2.1 q17.2.2.2.2.2.2.2.2.2.2.2.2.2.2.2.2.2.2).flatten H := hP
        have hD : va_D A (l_Model Z.2.1 Am q17.1 q17.2.1 q17.2.2.1 q17.2.2.2.1 q17.2.2.2.2.1 q17.2.2.2.2.2.1 q17.2.2.2.2.2.2.1 q17.2.2.2.2.2.2.2.1 q17.2.2.2.2.2.2.2.2.1 q17.2.2.2.2.2.2.2.2.2.1 q17.2.2.2.2.2.2.2.2.2.2.1 q17.2.2.2.2.2.2.2.2.2.2.2.1 q17.2.2.2.2.2.2.2.2.2.2.2.2.1 q17.2.2.2.2.2.2.2.2.2.2.2.2.2.1 q17.2.2.2.2.2.2.2.2.2.2.2.2.2.2.1 q17.2.2.2.2.2.2.2.2.2.2.2.2.2.2.2.1 q17.2.2.2.2.2.2.2.2.2.2.2.2.2.2.2.2.1 q17.2.2.2.2.2.2.2.2.2.2.2.2.2.2.2.2.2.1 q17.2.2.2.2.2.2.2.2.2.2.2.2.2.2.2.2.2.2).flatten := hD
        refine W.eq (g2 := F0 m 95 ls []) rfl ?_
        obtain rfl := Option.some.inj hF
        subst hQ
        subst hA
        exact W.vret hx hb hr (fun t ht hW => zq_mu (by rw [ht]; exact hP) (hS.F ht)) hS.2.2 (z_d hX7_goes_1 1 rfl)

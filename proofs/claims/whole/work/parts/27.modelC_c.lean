theorem vt_X7_fails : zVt yX7_fails cX7_fails 2 (some .int) 1 := ⟨zG_at 965 (by decide +kernel) (by decide +kernel), zG_at 32 (by decide +kernel) (by decide +kernel), zG_at 81 (by decide +kernel) (by decide +kernel), zG_at 966 (by decide +kernel) (by decide +kernel), by decide +kernel⟩
theorem vs_X7_isLength : zSt yX7_isLength cX7_isLength 1 (some .boolean) 1 := ⟨zG_at 968 (by decide +kernel) (by decide +kernel), zG_at 81 (by decide +kernel) (by decide +kernel), zG_at 969 (by decide +kernel) (by decide +kernel), by decide +kernel⟩
theorem vt_X7_hold : zVt yX7_hold cX7_hold 1 none 0 := ⟨zG_at 972 (by decide +kernel) (by decide +kernel), zG_at 33 (by decide +kernel) (by decide +kernel), zG_at 81 (by decide +kernel) (by decide +kernel), zG_at 973 (by decide +kernel) (by decide +kernel), by decide +kernel⟩
theorem vt_X7_comes : zVt yX7_comes cX7_comes 6 none 4 := ⟨zG_at 979 (by decide +kernel) (by decide +kernel), zG_at 34 (by decide +kernel) (by decide +kernel), zG_at 81 (by decide +kernel) (by decide +kernel), zG_at 980 (by decide +kernel) (by decide +kernel), by decide +kernel⟩
theorem vt_X7_ends : zVt yX7_ends cX7_ends 3 (some .int) 1 := ⟨zG_at 1011 (by decide +kernel) (by decide +kernel), zG_at 42 (by decide +kernel) (by decide +kernel), zG_at 81 (by decide +kernel) (by decide +kernel), zG_at 1012 (by decide +kernel) (by decide +kernel), by decide +kernel⟩
theorem vt_X7_hasTwo : zVt yX7_hasTwo cX7_hasTwo 4 (some .boolean) 0 := ⟨zG_at 987 (by decide +kernel) (by decide +kernel), zG_at 36 (by decide +kernel) (by decide +kernel), zG_at 81 (by decide +kernel) (by decide +kernel), zG_at 988 (by decide +kernel) (by decide +kernel), by decide +kernel⟩
theorem vt_X7_isElement : zVt yX7_isElement cX7_isElement 2 (some .boolean) 1 := ⟨zG_at 1023 (by decide +kernel) (by decide +kernel), zG_at 44 (by decide +kernel) (by decide +kernel), zG_at 81 (by decide +kernel) (by decide +kernel), zG_at 1024 (by decide +kernel) (by decide +kernel), by decide +kernel⟩
theorem vt_X7_goes : zVt yX7_goes cX7_goes 4 none 1 := ⟨zG_at 1027 (by decide +kernel) (by decide +kernel), zG_at 45 (by decide +kernel) (by decide +kernel), zG_at 81 (by decide +kernel) (by decide +kernel), zG_at 1028 (by decide +kernel) (by decide +kernel), by decide +kernel⟩
theorem vs_X7_isPage : zSt yX7_isPage cX7_isPage 1 (some .boolean) 1 := ⟨zG_at 1045 (by decide +kernel) (by decide +kernel), zG_at 81 (by decide +kernel) (by decide +kernel), zG_at 1046 (by decide +kernel) (by decide +kernel), by decide +kernel⟩
theorem vt_X7_sceneMany : zVt yX7_sceneMany cX7_sceneMany 3 (some .int) 0 := ⟨zG_at 1057 (by decide +kernel) (by decide +kernel), zG_at 47 (by decide +kernel) (by decide +kernel), zG_at 81 (by decide +kernel) (by decide +kernel), zG_at 1058 (by decide +kernel) (by decide +kernel), by decide +kernel⟩
theorem vt_X7_headingOf : zVt yX7_headingOf cX7_headingOf 4 (some .int) 1 := ⟨zG_at 1061 (by decide +kernel) (by decide +kernel), zG_at 48 (by decide +kernel) (by decide +kernel), zG_at 81 (by decide +kernel) (by decide +kernel), zG_at 1062 (by decide +kernel) (by decide +kernel), by decide +kernel⟩
theorem vt_X7_isCarried : zVt yX7_isCarried cX7_isCarried 3 (some .boolean) 1 := ⟨zG_at 1121 (by decide +kernel) (by decide +kernel), zG_at 61 (by decide +kernel) (by decide +kernel), zG_at 81 (by decide +kernel) (by decide +kernel), zG_at 1122 (by decide +kernel) (by decide +kernel), by decide +kernel⟩
theorem vt_X7_lockedMany : zVt yX7_lockedMany cX7_lockedMany 3 (some .int) 0 := ⟨zG_at 1109 (by decide +kernel) (by decide +kernel), zG_at 58 (by decide +kernel) (by decide +kernel), zG_at 81 (by decide +kernel) (by decide +kernel), zG_at 1110 (by decide +kernel) (by decide +kernel), by decide +kernel⟩
theorem vt_X7_namesOf : zVt yX7_namesOf cX7_namesOf 6 (some .int) 2 := ⟨zG_at 1117 (by decide +kernel) (by decide +kernel), zG_at 60 (by decide +kernel) (by decide +kernel), zG_at 81 (by decide +kernel) (by decide +kernel), zG_at 1118 (by decide +kernel) (by decide +kernel), by decide +kernel⟩
theorem vt_X7_valueOf : zVt yX7_valueOf cX7_valueOf 2 (some .int) 1 := ⟨zG_at 1105 (by decide +kernel) (by decide +kernel), zG_at 57 (by decide +kernel) (by decide +kernel), zG_at 81 (by decide +kernel) (by decide +kernel), zG_at 1106 (by decide +kernel) (by decide +kernel), by decide +kernel⟩
theorem vt_X7_elementOf : zVt yX7_elementOf cX7_elementOf 3 (some .int) 2 := ⟨zG_at 1133 (by decide +kernel) (by decide +kernel), zG_at 63 (by decide +kernel) (by decide +kernel), zG_at 81 (by decide +kernel) (by decide +kernel), zG_at 1134 (by decide +kernel) (by decide +kernel), by decide +kernel⟩
theorem vt_X7_sceneTold : zVt yX7_sceneTold cX7_sceneTold 7 (some .int) 2 := ⟨zG_at 1141 (by decide +kernel) (by decide +kernel), zG_at 64 (by decide +kernel) (by decide +kernel), zG_at 81 (by decide +kernel) (by decide +kernel), zG_at 1142 (by decide +kernel) (by decide +kernel), by decide +kernel⟩
theorem vt_X7_pageLabel : zVt yX7_pageLabel cX7_pageLabel 4 (some .int) 2 := ⟨zG_at 1153 (by decide +kernel) (by decide +kernel), zG_at 66 (by decide +kernel) (by decide +kernel), zG_at 81 (by decide +kernel) (by decide +kernel), zG_at 1154 (by decide +kernel) (by decide +kernel), by decide +kernel⟩
theorem vt_X7_pageTold : zVt yX7_pageTold cX7_pageTold 3 (some .int) 2 := ⟨zG_at 1149 (by decide +kernel) (by decide +kernel), zG_at 65 (by decide +kernel) (by decide +kernel), zG_at 81 (by decide +kernel) (by decide +kernel), zG_at 1150 (by decide +kernel) (by decide +kernel), by decide +kernel⟩
theorem k_m_X7_129 : Cond.methodLink RX7 129 yX7_fails ∈ zG := zG_at 963 (by decide +kernel) (by decide +kernel)
theorem k_m_X7_132 : Cond.methodLink RX7 132 yX7_isLength ∈ zG := zG_at 967 (by decide +kernel) (by decide +kernel)
theorem k_m_X7_135 : Cond.methodLink RX7 135 yX7_hold ∈ zG := zG_at 970 (by decide +kernel) (by decide +kernel)
theorem k_m_X7_138 : Cond.methodLink RX7 138 yX7_comes ∈ zG := zG_at 977 (by decide +kernel) (by decide +kernel)
theorem k_m_X7_146 : Cond.methodLink RX7 146 yX7_ends ∈ zG := zG_at 1009 (by decide +kernel) (by decide +kernel)
theorem k_m_X7_142 : Cond.methodLink RX7 142 yX7_hasTwo ∈ zG := zG_at 985 (by decide +kernel) (by decide +kernel)
theorem k_m_X7_149 : Cond.methodLink RX7 149 yX7_isElement ∈ zG := zG_at 1021 (by decide +kernel) (by decide +kernel)
theorem k_m_X7_152 : Cond.methodLink RX7 152 yX7_goes ∈ zG := zG_at 1025 (by decide +kernel) (by decide +kernel)
theorem k_m_X7_155 : Cond.methodLink RX7 155 yX7_isPage ∈ zG := zG_at 1044 (by decide +kernel) (by decide +kernel)
theorem k_f_X7_40 : Cond.fieldLink RX7 40 "ScriptPagesModel" "labels" "[I" ∈ zG := zG_at 909 (by decide +kernel) (by decide +kernel)
theorem k_m_X7_158 : Cond.methodLink RX7 158 yX7_sceneMany ∈ zG := zG_at 1055 (by decide +kernel) (by decide +kernel)
theorem k_m_X7_161 : Cond.methodLink RX7 161 yX7_headingOf ∈ zG := zG_at 1059 (by decide +kernel) (by decide +kernel)
theorem k_m_X7_164 : Cond.methodLink RX7 164 yX7_isCarried ∈ zG := zG_at 1119 (by decide +kernel) (by decide +kernel)
theorem k_m_X7_167 : Cond.methodLink RX7 167 yX7_lockedMany ∈ zG := zG_at 1107 (by decide +kernel) (by decide +kernel)
theorem k_m_X7_170 : Cond.methodLink RX7 170 yX7_namesOf ∈ zG := zG_at 1115 (by decide +kernel) (by decide +kernel)
theorem k_m_X7_174 : Cond.methodLink RX7 174 yX7_valueOf ∈ zG := zG_at 1103 (by decide +kernel) (by decide +kernel)
theorem k_m_X7_177 : Cond.methodLink RX7 177 yX7_elementOf ∈ zG := zG_at 1131 (by decide +kernel) (by decide +kernel)
theorem k_m_X7_180 : Cond.methodLink RX7 180 yX7_sceneTold ∈ zG := zG_at 1139 (by decide +kernel) (by decide +kernel)
theorem k_m_X7_183 : Cond.methodLink RX7 183 yX7_pageLabel ∈ zG := zG_at 1151 (by decide +kernel) (by decide +kernel)
theorem k_m_X7_186 : Cond.methodLink RX7 186 yX7_pageTold ∈ zG := zG_at 1147 (by decide +kernel) (by decide +kernel)
def rm_X7_insert : Room := { frames := 6, cells := 0, slots := 0, locals := 139 }
set_option maxRecDepth 100000 in
set_option maxHeartbeats 4000000 in
theorem c_X7_insert (l : Launch) (Z : zZ) (Am : Nat → Nat) (M : t_Model) (p1 : Int32) (p2 : Int32) (p3 : Int32) (p4 : Int32) (R : Int32 × t_Model) (hF : X7_insert M p1 p2 p3 p4 = some R) : zMU l yX7_insert (zw yX7_insert cX7_insert 5 (some .int)) rm_X7_insert Z [.ref (Am 0), .int p1, .int p2, .int p3, .int p4] (w_Model Z.2.1 Am M) (w_Model Z.2.1 Am R.2) (some (.int R.1)) := by
  refine zMU_of (by decide) (Nat.le_of_ble_eq_true rfl) (fun p e s m below meth c hx hb hr hml hown hts hlocks hK A hA Q hQ ls hl hP hD hS => ?_)
  unfold X7_insert at hF
  have hl : lv_has ls 5 [(0, .ref (Am 0)), (1, .int p1), (2, .int p2), (3, .int p3), (4, .int p4)] := hl
  have hown : s.vm.findClass RX7 = some m.cls := hown
  have hP : va_P Z.1 vwCl (l_Model Z.2.1 Am M.1 M.2.1 M.2.2.1 M.2.2.2.1 M.2.2.2.2.1 M.2.2.2.2.2.1 M.2.2.2.2.2.2.1 M.2.2.2.2.2.2.2.1 M.2.2.2.2.2.2.2.2.1 M.2.2.2.2.2.2.2.2.2.1 M.2.2.2.2.2.2.2.2.2.2.1 M.2.2.2.2.2.2.2.2.2.2.2.1 M.2.2.2.2.2.2.2.2.2.2.2.2.1 M.2.2.2.2.2.2.2.2.2.2.2.2.2.1 M.2.2.2.2.2.2.2.2.2.2.2.2.2.2.1 M.2.2.2.2.2.2.2.2.2.2.2.2.2.2.2.1 M.2.2.2.2.2.2.2.2.2.2.2.2.2.2.2.2.1 M.2.2.2.2.2.2.2.2.2.2.2.2.2.2.2.2.2.1 M.2.2.2.2.2.2.2.2.2.2.2.2.2.2.2.2.2.2).flatten s.heap := hP
  have hD : va_D A (l_Model Z.2.1 Am M.1 M.2.1 M.2.2.1 M.2.2.2.1 M.2.2.2.2.1 M.2.2.2.2.2.1 M.2.2.2.2.2.2.1 M.2.2.2.2.2.2.2.1 M.2.2.2.2.2.2.2.2.1 M.2.2.2.2.2.2.2.2.2.1 M.2.2.2.2.2.2.2.2.2.2.1 M.2.2.2.2.2.2.2.2.2.2.2.1 M.2.2.2.2.2.2.2.2.2.2.2.2.1 M.2.2.2.2.2.2.2.2.2.2.2.2.2.1 M.2.2.2.2.2.2.2.2.2.2.2.2.2.2.1 M.2.2.2.2.2.2.2.2.2.2.2.2.2.2.2.1 M.2.2.2.2.2.2.2.2.2.2.2.2.2.2.2.2.1 M.2.2.2.2.2.2.2.2.2.2.2.2.2.2.2.2.2.1 M.2.2.2.2.2.2.2.2.2.2.2.2.2.2.2.2.2.2).flatten := hD
  have J61 : ∀ (M : t_Model) (hF : j_X7_insert_61 p1 p2 p3 p4 M = some R) (H : Heap) (locs : List Loc) (ls : Array Slot) (hP : va_P Z.1 vwCl (l_Model Z.2.1 Am M.1 M.2.1 M.2.2.1 M.2.2.2.1 M.2.2.2.2.1 M.2.2.2.2.2.1 M.2.2.2.2.2.2.1 M.2.2.2.2.2.2.2.1 M.2.2.2.2.2.2.2.2.1 M.2.2.2.2.2.2.2.2.2.1 M.2.2.2.2.2.2.2.2.2.2.1 M.2.2.2.2.2.2.2.2.2.2.2.1 M.2.2.2.2.2.2.2.2.2.2.2.2.1 M.2.2.2.2.2.2.2.2.2.2.2.2.2.1 M.2.2.2.2.2.2.2.2.2.2.2.2.2.2.1 M.2.2.2.2.2.2.2.2.2.2.2.2.2.2.2.1 M.2.2.2.2.2.2.2.2.2.2.2.2.2.2.2.2.1 M.2.2.2.2.2.2.2.2.2.2.2.2.2.2.2.2.2.1 M.2.2.2.2.2.2.2.2.2.2.2.2.2.2.2.2.2.2).flatten H) (hD : va_D A (l_Model Z.2.1 Am M.1 M.2.1 M.2.2.1 M.2.2.2.1 M.2.2.2.2.1 M.2.2.2.2.2.1 M.2.2.2.2.2.2.1 M.2.2.2.2.2.2.2.1 M.2.2.2.2.2.2.2.2.1 M.2.2.2.2.2.2.2.2.2.1 M.2.2.2.2.2.2.2.2.2.2.1 M.2.2.2.2.2.2.2.2.2.2.2.1 M.2.2.2.2.2.2.2.2.2.2.2.2.1 M.2.2.2.2.2.2.2.2.2.2.2.2.2.1 M.2.2.2.2.2.2.2.2.2.2.2.2.2.2.1 M.2.2.2.2.2.2.2.2.2.2.2.2.2.2.2.1 M.2.2.2.2.2.2.2.2.2.2.2.2.2.2.2.2.1 M.2.2.2.2.2.2.2.2.2.2.2.2.2.2.2.2.2.1 M.2.2.2.2.2.2.2.2.2.2.2.2.2.2.2.2.2.2).flatten) (hS : va_S A s.heap H locs) (hl : lv_has ls 5 [(0, .ref (Am 0)), (1, .int p1), (2, .int p2), (3, .int p3), (4, .int p4)]), W p l e rm_X7_insert s m ([.ref (Am 0), .int p1, .int p2, .int p3, .int p4] : List Value).toArray below meth c H locs 0 0 Q (F0 m 61 ls []) := by
    intro M hF H locs ls hP hD hS hl
    unfold j_X7_insert_61 at hF
    refine lv_aload_n hx hb (z_d hX7_insert_0 32 rfl) rfl (lv_at hl 0 rfl) ?_
    refine lv_iconst (v := 2) hx hb (z_d hX7_insert_0 33 rfl) (by decide) ?_
    refine z_let hF (fun q4 hq4 hF => ?_)
    refine z_mu0 (z_rV (As := [.int 2]) (rest := []) hx hb hml hown hts vt_X7_fails (c_X7_fails l Z Am M 2 _ hq4) rfl rfl ⟨Nat.le_of_ble_eq_true rfl, Nat.le_of_ble_eq_true rfl⟩ k_m_X7_129 zPmu_blind (z_recv (q := (RX7, TX7, 19)) (ci := 7) (q0 := 0) hK (zP_reg hP 0 rfl) rfl rfl) (z_prem hK hP hD) rfl hl.1 (Nat.le_of_ble_eq_true rfl) (z_d hX7_insert_0 34 rfl) ⟨Nat.zero_le _, Nat.zero_le _⟩) hS hD (adr_Model _ _ _ _) (fun H locs hP hD hS => ?_)
    have hP : va_P Z.1 vwCl (l_Model Z.2.1 Am q4.2.1 q4.2.2.1 q4.2.2.2.1 q4.2.2.2.2.1 q4.2.2.2.2.2.1 q4.2.2.2.2.2.2.1 q4.2.2.2.2.2.2.2.1 q4.2.2.2.2.2.2.2.2.1 q4.2.2.2.2.2.2.2.2.2.1 q4.2.2.2.2.2.2.2.2.2.2.1 q4.2.2.2.2.2.2.2.2.2.2.2.1 q4.2.2.2.2.2.2.2.2.2.2.2.2.1 q4.2.2.2.2.2.2.2.2.2.2.2.2.2.1 q4.2.2.2.2.2.2.2.2.2.2.2.2.2.2.1 q4.2.2.2.2.2.2.2.2.2.2.2.2.2.2.2.1 q4.2.2.2.2.2.2.2.2.2.2.2.2.2.2.2.2.1 q4.2.2.2.2.2.2.2.2.2.2.2.2.2.2.2.2.2.1 q4.2.2.2.2.2.2.2.2.2.2.2.2.2.2.2.2.2.2.1 q4.2.2.2.2.2.2.2.2.2.2.2.2.2.2.2.2.2.2.2).flatten H := hP
    have hD : va_D A (l_Model Z.2.1 Am q4.2.1 q4.2.2.1 q4.2.2.2.1 q4.2.2.2.2.1 q4.2.2.2.2.2.1 q4.2.2.2.2.2.2.1 q4.2.2.2.2.2.2.2.1 q4.2.2.2.2.2.2.2.2.1 q4.2.2.2.2.2.2.2.2.2.1 q4.2.2.2.2.2.2.2.2.2.2.1 q4.2.2.2.2.2.2.2.2.2.2.2.1 q4.2.2.2.2.2.2.2.2.2.2.2.2.1 q4.2.2.2.2.2.2.2.2.2.2.2.2.2.1 q4.2.2.2.2.2.2.2.2.2.2.2.2.2.2.1 q4.2.2.2.2.2.2.2.2.2.2.2.2.2.2.2.1 q4.2.2.2.2.2.2.2.2.2.2.2.2.2.2.2.2.1 q4.2.2.2.2.2.2.2.2.2.2.2.2.2.2.2.2.2.1 q4.2.2.2.2.2.2.2.2.2.2.2.2.2.2.2.2.2.2.1 q4.2.2.2.2.2.2.2.2.2.2.2.2.2.2.2.2.2.2.2).flatten := hD
    refine W.eq (g2 := F0 m 66 ls [.int q4.1]) rfl ?_
    obtain rfl := Option.some.inj hF
    subst hQ
    subst hA
    exact W.iret hx hb hr (fun t ht hW => zq_mu (by rw [ht]; exact hP) (hS.F ht)) hS.2.2 (z_d hX7_insert_0 35 rfl)
  have J125 : ∀ (M : t_Model) (hF : j_X7_insert_125 p1 p2 p3 p4 M = some R) (H : Heap) (locs : List Loc) (ls : Array Slot) (hP : va_P Z.1 vwCl (l_Model Z.2.1 Am M.1 M.2.1 M.2.2.1 M.2.2.2.1 M.2.2.2.2.1 M.2.2.2.2.2.1 M.2.2.2.2.2.2.1 M.2.2.2.2.2.2.2.1 M.2.2.2.2.2.2.2.2.1 M.2.2.2.2.2.2.2.2.2.1 M.2.2.2.2.2.2.2.2.2.2.1 M.2.2.2.2.2.2.2.2.2.2.2.1 M.2.2.2.2.2.2.2.2.2.2.2.2.1 M.2.2.2.2.2.2.2.2.2.2.2.2.2.1 M.2.2.2.2.2.2.2.2.2.2.2.2.2.2.1 M.2.2.2.2.2.2.2.2.2.2.2.2.2.2.2.1 M.2.2.2.2.2.2.2.2.2.2.2.2.2.2.2.2.1 M.2.2.2.2.2.2.2.2.2.2.2.2.2.2.2.2.2.1 M.2.2.2.2.2.2.2.2.2.2.2.2.2.2.2.2.2.2).flatten H) (hD : va_D A (l_Model Z.2.1 Am M.1 M.2.1 M.2.2.1 M.2.2.2.1 M.2.2.2.2.1 M.2.2.2.2.2.1 M.2.2.2.2.2.2.1 M.2.2.2.2.2.2.2.1 M.2.2.2.2.2.2.2.2.1 M.2.2.2.2.2.2.2.2.2.1 M.2.2.2.2.2.2.2.2.2.2.1 M.2.2.2.2.2.2.2.2.2.2.2.1 M.2.2.2.2.2.2.2.2.2.2.2.2.1 M.2.2.2.2.2.2.2.2.2.2.2.2.2.1 M.2.2.2.2.2.2.2.2.2.2.2.2.2.2.1 M.2.2.2.2.2.2.2.2.2.2.2.2.2.2.2.1 M.2.2.2.2.2.2.2.2.2.2.2.2.2.2.2.2.1 M.2.2.2.2.2.2.2.2.2.2.2.2.2.2.2.2.2.1 M.2.2.2.2.2.2.2.2.2.2.2.2.2.2.2.2.2.2).flatten) (hS : va_S A s.heap H locs) (hl : lv_has ls 5 [(0, .ref (Am 0)), (1, .int p1), (2, .int p2), (3, .int p3), (4, .int p4)]), W p l e rm_X7_insert s m ([.ref (Am 0), .int p1, .int p2, .int p3, .int p4] : List Value).toArray below meth c H locs 0 0 Q (F0 m 125 ls []) := by
    intro M hF H locs ls hP hD hS hl
    unfold j_X7_insert_125 at hF
    refine lv_aload_n hx hb (z_d hX7_insert_1 8 rfl) rfl (lv_at hl 0 rfl) ?_
    refine lv_aload_n hx hb (z_d hX7_insert_1 9 rfl) rfl (lv_at hl 0 rfl) ?_
    refine va_get (D := Z.1) (ci := 7) (v := .ref (Am 1)) (C := RX7) (T := TX7) (N := 19) hx hb hts zinX7 hown hK.1 (zP_reg hP 0 rfl) 0 rfl rfl 0 (by decide) (hts _ k_f_X7_7) (fun _ h9 => h9) rfl (z_d hX7_insert_1 10 rfl) ?_
    refine lv_iconst (v := 1) hx hb (z_d hX7_insert_1 11 rfl) (by decide) ?_
    refine z_ix hF (fun hin hF => ?_)
    refine va_iald (D := Z.1) (f := M.1) hx hb hK.1 (zP_reg hP 1 rfl) 0 0 rfl rfl hin (z_d hX7_insert_1 12 rfl) ?_
    refine z_let hF (fun u9 hu9 hF => ?_)
    refine lv_topE hu9 ?_
    refine z_bnd hF (fun q10 hq10 hF => ?_)
    refine z_mu0 (z_rV (As := [.int u9]) (rest := []) hx hb hml hown hts vt_X7_ends (c_X7_ends l Z Am M u9 _ hq10) rfl rfl ⟨Nat.le_of_ble_eq_true rfl, Nat.le_of_ble_eq_true rfl⟩ k_m_X7_146 zPmu_blind (z_recv (q := (RX7, TX7, 19)) (ci := 7) (q0 := 0) hK (zP_reg hP 0 rfl) rfl rfl) (z_prem hK hP hD) rfl hl.1 (Nat.le_of_ble_eq_true rfl) (z_d hX7_insert_1 13 rfl) ⟨Nat.zero_le _, Nat.zero_le _⟩) hS hD (adr_Model _ _ _ _) (fun H locs hP hD hS => ?_)
    have hP : va_P Z.1 vwCl (l_Model Z.2.1 Am q10.2.1 q10.2.2.1 q10.2.2.2.1 q10.2.2.2.2.1 q10.2.2.2.2.2.1 q10.2.2.2.2.2.2.1 q10.2.2.2.2.2.2.2.1 q10.2.2.2.2.2.2.2.2.1 q10.2.2.2.2.2.2.2.2.2.1 q10.2.2.2.2.2.2.2.2.2.2.1 q10.2.2.2.2.2.2.2.2.2.2.2.1 q10.2.2.2.2.2.2.2.2.2.2.2.2.1 q10.2.2.2.2.2.2.2.2.2.2.2.2.2.1 q10.2.2.2.2.2.2.2.2.2.2.2.2.2.2.1 q10.2.2.2.2.2.2.2.2.2.2.2.2.2.2.2.1 q10.2.2.2.2.2.2.2.2.2.2.2.2.2.2.2.2.1 q10.2.2.2.2.2.2.2.2.2.2.2.2.2.2.2.2.2.1 q10.2.2.2.2.2.2.2.2.2.2.2.2.2.2.2.2.2.2.1 q10.2.2.2.2.2.2.2.2.2.2.2.2.2.2.2.2.2.2.2).flatten H := hP
    have hD : va_D A (l_Model Z.2.1 Am q10.2.1 q10.2.2.1 q10.2.2.2.1 q10.2.2.2.2.1 q10.2.2.2.2.2.1 q10.2.2.2.2.2.2.1 q10.2.2.2.2.2.2.2.1 q10.2.2.2.2.2.2.2.2.1 q10.2.2.2.2.2.2.2.2.2.1 q10.2.2.2.2.2.2.2.2.2.2.1 q10.2.2.2.2.2.2.2.2.2.2.2.1 q10.2.2.2.2.2.2.2.2.2.2.2.2.1 q10.2.2.2.2.2.2.2.2.2.2.2.2.2.1 q10.2.2.2.2.2.2.2.2.2.2.2.2.2.2.1 q10.2.2.2.2.2.2.2.2.2.2.2.2.2.2.2.1 q10.2.2.2.2.2.2.2.2.2.2.2.2.2.2.2.2.1 q10.2.2.2.2.2.2.2.2.2.2.2.2.2.2.2.2.2.1 q10.2.2.2.2.2.2.2.2.2.2.2.2.2.2.2.2.2.2.1 q10.2.2.2.2.2.2.2.2.2.2.2.2.2.2.2.2.2.2.2).flatten := hD
    refine W.eq (g2 := F0 m 135 ls [.int q10.1]) rfl ?_
    obtain rfl := Option.some.inj hF
    subst hQ
    subst hA
    exact W.iret hx hb hr (fun t ht hW => zq_mu (by rw [ht]; exact hP) (hS.F ht)) hS.2.2 (z_d hX7_insert_1 14 rfl)
  have J67 : ∀ (M : t_Model) (hF : j_X7_insert_67 p1 p2 p3 p4 M = some R) (H : Heap) (locs : List Loc) (ls : Array Slot) (hP : va_P Z.1 vwCl (l_Model Z.2.1 Am M.1 M.2.1 M.2.2.1 M.2.2.2.1 M.2.2.2.2.1 M.2.2.2.2.2.1 M.2.2.2.2.2.2.1 M.2.2.2.2.2.2.2.1 M.2.2.2.2.2.2.2.2.1 M.2.2.2.2.2.2.2.2.2.1 M.2.2.2.2.2.2.2.2.2.2.1 M.2.2.2.2.2.2.2.2.2.2.2.1 M.2.2.2.2.2.2.2.2.2.2.2.2.1 M.2.2.2.2.2.2.2.2.2.2.2.2.2.1 M.2.2.2.2.2.2.2.2.2.2.2.2.2.2.1 M.2.2.2.2.2.2.2.2.2.2.2.2.2.2.2.1 M.2.2.2.2.2.2.2.2.2.2.2.2.2.2.2.2.1 M.2.2.2.2.2.2.2.2.2.2.2.2.2.2.2.2.2.1 M.2.2.2.2.2.2.2.2.2.2.2.2.2.2.2.2.2.2).flatten H) (hD : va_D A (l_Model Z.2.1 Am M.1 M.2.1 M.2.2.1 M.2.2.2.1 M.2.2.2.2.1 M.2.2.2.2.2.1 M.2.2.2.2.2.2.1 M.2.2.2.2.2.2.2.1 M.2.2.2.2.2.2.2.2.1 M.2.2.2.2.2.2.2.2.2.1 M.2.2.2.2.2.2.2.2.2.2.1 M.2.2.2.2.2.2.2.2.2.2.2.1 M.2.2.2.2.2.2.2.2.2.2.2.2.1 M.2.2.2.2.2.2.2.2.2.2.2.2.2.1 M.2.2.2.2.2.2.2.2.2.2.2.2.2.2.1 M.2.2.2.2.2.2.2.2.2.2.2.2.2.2.2.1 M.2.2.2.2.2.2.2.2.2.2.2.2.2.2.2.2.1 M.2.2.2.2.2.2.2.2.2.2.2.2.2.2.2.2.2.1 M.2.2.2.2.2.2.2.2.2.2.2.2.2.2.2.2.2.2).flatten) (hS : va_S A s.heap H locs) (hl : lv_has ls 5 [(0, .ref (Am 0)), (1, .int p1), (2, .int p2), (3, .int p3), (4, .int p4)]), W p l e rm_X7_insert s m ([.ref (Am 0), .int p1, .int p2, .int p3, .int p4] : List Value).toArray below meth c H locs 0 0 Q (F0 m 67 ls []) := by
    intro M hF H locs ls hP hD hS hl
    unfold j_X7_insert_67 at hF
    refine lv_aload_n hx hb (z_d hX7_insert_0 36 rfl) rfl (lv_at hl 0 rfl) ?_
    refine va_get (D := Z.1) (ci := 7) (v := .ref (Am 1)) (C := RX7) (T := TX7) (N := 19) hx hb hts zinX7 hown hK.1 (zP_reg hP 0 rfl) 0 rfl rfl 0 (by decide) (hts _ k_f_X7_7) (fun _ h9 => h9) rfl (z_d hX7_insert_0 37 rfl) ?_
    refine lv_iconst (v := 1) hx hb (z_d hX7_insert_0 38 rfl) (by decide) ?_
    refine z_ix hF (fun hin hF => ?_)
    refine va_iald (D := Z.1) (f := M.1) hx hb hK.1 (zP_reg hP 1 rfl) 0 0 rfl rfl hin (z_d hX7_insert_0 39 rfl) ?_
    refine z_let hF (fun u6 hu6 hF => ?_)
    refine lv_topE hu6 ?_
    refine lv_bipush (v := 60) hx hb (z_d hX7_insert_0 40 rfl) (by decide) ?_
    refine lv_icmp_ne (tgt := 84) hx hb (z_d hX7_insert_0 41 rfl) (by decide) (fun hc75 => ?_) (fun hc75 => ?_)
    · have hF := z_neg hc75 hF
      refine lv_aload_n hx hb (z_d hX7_insert_0 46 rfl) rfl (lv_at hl 0 rfl) ?_
      refine z_bnd hF (fun q7 hq7 hF => ?_)
      refine z_mu0 (z_rV (As := []) (rest := []) hx hb hml hown hts vt_X7_hold (c_X7_hold l Z Am M _ hq7) rfl rfl ⟨Nat.le_of_ble_eq_true rfl, Nat.le_of_ble_eq_true rfl⟩ k_m_X7_135 zPmu_blind (z_recv (q := (RX7, TX7, 19)) (ci := 7) (q0 := 0) hK (zP_reg hP 0 rfl) rfl rfl) (z_prem hK hP hD) rfl hl.1 (Nat.le_of_ble_eq_true rfl) (z_d hX7_insert_0 47 rfl) ⟨Nat.zero_le _, Nat.zero_le _⟩) hS hD (adr_Model _ _ _ _) (fun H locs hP hD hS => ?_)
      have hP : va_P Z.1 vwCl (l_Model Z.2.1 Am q7.1 q7.2.1 q7.2.2.1 q7.2.2.2.1 q7.2.2.2.2.1 q7.2.2.2.2.2.1 q7.2.2.2.2.2.2.1 q7.2.2.2.2.2.2.2.1 q7.2.2.2.2.2.2.2.2.1 q7.2.2.2.2.2.2.2.2.2.1 q7.2.2.2.2.2.2.2.2.2.2.1 q7.2.2.2.2.2.2.2.2.2.2.2.1 q7.2.2.2.2.2.2.2.2.2.2.2.2.1 q7.2.2.2.2.2.2.2.2.2.2.2.2.2.1 q7.2.2.2.2.2.2.2.2.2.2.2.2.2.2.1 q7.2.2.2.2.2.2.2.2.2.2.2.2.2.2.2.1 q7.2.2.2.2.2.2.2.2.2.2.2.2.2.2.2.2.1 q7.2.2.2.2.2.2.2.2.2.2.2.2.2.2.2.2.2.1 q7.2.2.2.2.2.2.2.2.2.2.2.2.2.2.2.2.2.2).flatten H := hP
      have hD : va_D A (l_Model Z.2.1 Am q7.1 q7.2.1 q7.2.2.1 q7.2.2.2.1 q7.2.2.2.2.1 q7.2.2.2.2.2.1 q7.2.2.2.2.2.2.1 q7.2.2.2.2.2.2.2.1 q7.2.2.2.2.2.2.2.2.1 q7.2.2.2.2.2.2.2.2.2.1 q7.2.2.2.2.2.2.2.2.2.2.1 q7.2.2.2.2.2.2.2.2.2.2.2.1 q7.2.2.2.2.2.2.2.2.2.2.2.2.1 q7.2.2.2.2.2.2.2.2.2.2.2.2.2.1 q7.2.2.2.2.2.2.2.2.2.2.2.2.2.2.1 q7.2.2.2.2.2.2.2.2.2.2.2.2.2.2.2.1 q7.2.2.2.2.2.2.2.2.2.2.2.2.2.2.2.2.1 q7.2.2.2.2.2.2.2.2.2.2.2.2.2.2.2.2.2.1 q7.2.2.2.2.2.2.2.2.2.2.2.2.2.2.2.2.2.2).flatten := hD
      refine W.eq (g2 := F0 m 88 ls []) rfl ?_
      refine lv_aload_n hx hb (z_d hX7_insert_0 48 rfl) rfl (lv_at hl 0 rfl) ?_
      refine lv_iload_n hx hb (z_d hX7_insert_0 49 rfl) rfl (lv_at hl 1 rfl) ?_
      refine lv_iload_n hx hb (z_d hX7_insert_0 50 rfl) rfl (lv_at hl 2 rfl) ?_
      refine lv_iload_n hx hb (z_d hX7_insert_0 51 rfl) rfl (lv_at hl 3 rfl) ?_
      refine lv_iload hx hb (z_d hX7_insert_0 52 rfl) (lv_at hl 4 rfl) ?_
      refine z_bnd hF (fun q8 hq8 hF => ?_)
      refine z_mu0 (z_rV (As := [.int p1, .int p2, .int p3, .int p4]) (rest := []) hx hb hml hown hts vt_X7_comes (c_X7_comes l Z Am q7 p1 p2 p3 p4 _ hq8) rfl rfl ⟨Nat.le_of_ble_eq_true rfl, Nat.le_of_ble_eq_true rfl⟩ k_m_X7_138 zPmu_blind (z_recv (q := (RX7, TX7, 19)) (ci := 7) (q0 := 0) hK (zP_reg hP 0 rfl) rfl rfl) (z_prem hK hP hD) rfl hl.1 (Nat.le_of_ble_eq_true rfl) (z_d hX7_insert_0 53 rfl) ⟨Nat.zero_le _, Nat.zero_le _⟩) hS hD (adr_Model _ _ _ _) (fun H locs hP hD hS => ?_)
      have hP : va_P Z.1 vwCl (l_Model Z.2.1 Am q8.1 q8.2.1 q8.2.2.1 q8.2.2.2.1 q8.2.2.2.2.1 q8.2.2.2.2.2.1 q8.2.2.2.2.2.2.1 q8.2.2.2.2.2.2.2.1 q8.2.2.2.2.2.2.2.2.1 q8.2.2.2.2.2.2.2.2.2.1 q8.2.2.2.2.2.2.2.2.2.2.1 q8.2.2.2.2.2.2.2.2.2.2.2.1 q8.2.2.2.2.2.2.2.2.2.2.2.2.1 q8.2.2.2.2.2.2.2.2.2.2.2.2.2.1 q8.2.2.2.2.2.2.2.2.2.2.2.2.2.2.1 q8.2.2.2.2.2.2.2.2.2.2.2.2.2.2.2.1 q8.2.2.2.2.2.2.2.2.2.2.2.2.2.2.2.2.1 q8.2.2.2.2.2.2.2.2.2.2.2.2.2.2.2.2.2.1 q8.2.2.2.2.2.2.2.2.2.2.2.2.2.2.2.2.2.2).flatten H := hP
      have hD : va_D A (l_Model Z.2.1 Am q8.1 q8.2.1 q8.2.2.1 q8.2.2.2.1 q8.2.2.2.2.1 q8.2.2.2.2.2.1 q8.2.2.2.2.2.2.1 q8.2.2.2.2.2.2.2.1 q8.2.2.2.2.2.2.2.2.1 q8.2.2.2.2.2.2.2.2.2.1 q8.2.2.2.2.2.2.2.2.2.2.1 q8.2.2.2.2.2.2.2.2.2.2.2.1 q8.2.2.2.2.2.2.2.2.2.2.2.2.1 q8.2.2.2.2.2.2.2.2.2.2.2.2.2.1 q8.2.2.2.2.2.2.2.2.2.2.2.2.2.2.1 q8.2.2.2.2.2.2.2.2.2.2.2.2.2.2.2.1 q8.2.2.2.2.2.2.2.2.2.2.2.2.2.2.2.2.1 q8.2.2.2.2.2.2.2.2.2.2.2.2.2.2.2.2.2.1 q8.2.2.2.2.2.2.2.2.2.2.2.2.2.2.2.2.2.2).flatten := hD
      refine W.eq (g2 := F0 m 97 ls []) rfl ?_
      refine lv_iload_n hx hb (z_d hX7_insert_0 54 rfl) rfl (lv_at hl 2 rfl) ?_
      refine lv_if_ne (tgt := 125) hx hb (z_d hX7_insert_0 55 rfl) (by decide) (fun hc98 => ?_) (fun hc98 => ?_)
      · have hF := z_neg hc98 hF
        exact J125 q8 hF _ _ ls hP hD hS (lv_sub hl [0, 1, 2, 3, 4] rfl)
      · have hF := z_pos hc98 hF
        refine lv_aload_n hx hb (z_d hX7_insert_0 56 rfl) rfl (lv_at hl 0 rfl) ?_
        refine z_bnd hF (fun q11 hq11 hF => ?_)
        refine z_ro_i (z_rV (As := []) (rest := []) hx hb hml hown hts vt_X7_hasTwo (c_X7_hasTwo l Z Am q8 _ hq11) rfl rfl ⟨Nat.le_of_ble_eq_true rfl, Nat.le_of_ble_eq_true rfl⟩ k_m_X7_142 zPro_blind (z_recv (q := (RX7, TX7, 19)) (ci := 7) (q0 := 0) hK (zP_reg hP 0 rfl) rfl rfl) (z_prec hK hP) rfl hl.1 (Nat.le_of_ble_eq_true rfl) (z_d hX7_insert_0 57 rfl) ⟨Nat.zero_le _, Nat.zero_le _⟩) hS hP (fun H locs hP hS => ?_)
        refine lv_if_eq (tgt := 125) hx hb (z_d hX7_insert_0 58 rfl) (by decide) (fun hc105 => ?_) (fun hc105 => ?_)
        · have hF := z_pos hc105 hF
          exact J125 q8 hF _ _ ls hP hD hS (lv_sub hl [0, 1, 2, 3, 4] rfl)
        · have hF := z_neg hc105 hF
          refine lv_aload_n hx hb (z_d hX7_insert_0 59 rfl) rfl (lv_at hl 0 rfl) ?_
          refine va_get (D := Z.1) (ci := 7) (v := .ref (Am 1)) (C := RX7) (T := TX7) (N := 19) hx hb hts zinX7 hown hK.1 (zP_reg hP 0 rfl) 0 rfl rfl 0 (by decide) (hts _ k_f_X7_7) (fun _ h9 => h9) rfl (z_d hX7_insert_1 0 rfl) ?_
          refine lv_aload_n hx hb (z_d hX7_insert_1 1 rfl) rfl (lv_at hl 0 rfl) ?_
          refine va_get (D := Z.1) (ci := 7) (v := .ref (Am 3)) (C := RX7) (T := TX7) (N := 19) hx hb hts zinX7 hown hK.1 (zP_reg hP 0 rfl) 0 rfl rfl 2 (by decide) (hts _ k_f_X7_16) (fun _ h9 => h9) rfl (z_d hX7_insert_1 2 rfl) ?_
          refine z_bnd hF (fun q12 hq12 hF => ?_)
          refine z_mu2 (L := l_Model Z.2.1 Am q8.1 q8.2.1 q8.2.2.1 q8.2.2.2.1 q8.2.2.2.2.1 q8.2.2.2.2.2.1 q8.2.2.2.2.2.2.1 q8.2.2.2.2.2.2.2.1 q8.2.2.2.2.2.2.2.2.1 q8.2.2.2.2.2.2.2.2.2.1 q8.2.2.2.2.2.2.2.2.2.2.1 q8.2.2.2.2.2.2.2.2.2.2.2.1 q8.2.2.2.2.2.2.2.2.2.2.2.2.1 q8.2.2.2.2.2.2.2.2.2.2.2.2.2.1 q8.2.2.2.2.2.2.2.2.2.2.2.2.2.2.1 q8.2.2.2.2.2.2.2.2.2.2.2.2.2.2.2.1 q8.2.2.2.2.2.2.2.2.2.2.2.2.2.2.2.2.1 q8.2.2.2.2.2.2.2.2.2.2.2.2.2.2.2.2.2.1 q8.2.2.2.2.2.2.2.2.2.2.2.2.2.2.2.2.2.2) (L' := l_Model Z.2.1 Am q12 q8.2.1 q8.2.2.1 q8.2.2.2.1 q8.2.2.2.2.1 q8.2.2.2.2.2.1 q8.2.2.2.2.2.2.1 q8.2.2.2.2.2.2.2.1 q8.2.2.2.2.2.2.2.2.1 q8.2.2.2.2.2.2.2.2.2.1 q8.2.2.2.2.2.2.2.2.2.2.1 q8.2.2.2.2.2.2.2.2.2.2.2.1 q8.2.2.2.2.2.2.2.2.2.2.2.2.1 q8.2.2.2.2.2.2.2.2.2.2.2.2.2.1 q8.2.2.2.2.2.2.2.2.2.2.2.2.2.2.1 q8.2.2.2.2.2.2.2.2.2.2.2.2.2.2.2.1 q8.2.2.2.2.2.2.2.2.2.2.2.2.2.2.2.2.1 q8.2.2.2.2.2.2.2.2.2.2.2.2.2.2.2.2.2.1 q8.2.2.2.2.2.2.2.2.2.2.2.2.2.2.2.2.2.2) (z_rS (As := [.ref (Am 1), .ref (Am 3)]) (rest := []) hx hb hml hown hts vs_X7_copies (c_X7_copies l Z (Am 1) (Am 3) q8.1 q8.2.2.1 _ hq12) rfl rfl ⟨Nat.le_of_ble_eq_true rfl, Nat.le_of_ble_eq_true rfl⟩ k_m_X7_47 zPmu_blind (z_prem hK (zP_r2 hP 1 3 rfl rfl) (zD_r2 hD 1 3 rfl rfl (by decide))) rfl hl.1 (Nat.le_of_ble_eq_true rfl) (z_d hX7_insert_1 3 rfl) ⟨Nat.zero_le _, Nat.zero_le _⟩) hS hP hD 1 3 rfl rfl (by decide) rfl rfl rfl (fun H locs hP hD hS => ?_)
          refine W.eq (g2 := F0 m 119 ls []) rfl ?_
          refine lv_aload_n hx hb (z_d hX7_insert_1 4 rfl) rfl (lv_at hl 0 rfl) ?_
          refine lv_iconst (v := 3) hx hb (z_d hX7_insert_1 5 rfl) (by decide) ?_
          refine z_let hF (fun q13 hq13 hF => ?_)
          refine z_mu0 (z_rV (As := [.int 3]) (rest := []) hx hb hml hown hts vt_X7_fails (c_X7_fails l Z Am (q12, q8.2.1, q8.2.2.1, q8.2.2.2.1, q8.2.2.2.2.1, q8.2.2.2.2.2.1, q8.2.2.2.2.2.2.1, q8.2.2.2.2.2.2.2.1, q8.2.2.2.2.2.2.2.2.1, q8.2.2.2.2.2.2.2.2.2.1, q8.2.2.2.2.2.2.2.2.2.2.1, q8.2.2.2.2.2.2.2.2.2.2.2.1, q8.2.2.2.2.2.2.2.2.2.2.2.2.1, q8.2.2.2.2.2.2.2.2.2.2.2.2.2.1, q8.2.2.2.2.2.2.2.2.2.2.2.2.2.2.1, q8.2.2.2.2.2.2.2.2.2.2.2.2.2.2.2.1, q8.2.2.2.2.2.2.2.2.2.2.2.2.2.2.2.2.1, q8.2.2.2.2.2.2.2.2.2.2.2.2.2.2.2.2.2.1, q8.2.2.2.2.2.2.2.2.2.2.2.2.2.2.2.2.2.2) 3 _ hq13) rfl rfl ⟨Nat.le_of_ble_eq_true rfl, Nat.le_of_ble_eq_true rfl⟩ k_m_X7_129 zPmu_blind (z_recv (q := (RX7, TX7, 19)) (ci := 7) (q0 := 0) hK (zP_reg hP 0 rfl) rfl rfl) (z_prem hK hP hD) rfl hl.1 (Nat.le_of_ble_eq_true rfl) (z_d hX7_insert_1 6 rfl) ⟨Nat.zero_le _, Nat.zero_le _⟩) hS hD (adr_Model _ _ _ _) (fun H locs hP hD hS => ?_)
          have hP : va_P Z.1 vwCl (l_Model Z.2.1 Am q13.2.1 q13.2.2.1 q13.2.2.2.1 q13.2.2.2.2.1 q13.2.2.2.2.2.1 q13.2.2.2.2.2.2.1 q13.2.2.2.2.2.2.2.1 q13.2.2.2.2.2.2.2.2.1 q13.2.2.2.2.2.2.2.2.2.1 q13.2.2.2.2.2.2.2.2.2.2.1 q13.2.2.2.2.2.2.2.2.2.2.2.1 q13.2.2.2.2.2.2.2.2.2.2.2.2.1 q13.2.2.2.2.2.2.2.2.2.2.2.2.2.1 q13.2.2.2.2.2.2.2.2.2.2.2.2.2.2.1 q13.2.2.2.2.2.2.2.2.2.2.2.2.2.2.2.1 q13.2.2.2.2.2.2.2.2.2.2.2.2.2.2.2.2.1 q13.2.2.2.2.2.2.2.2.2.2.2.2.2.2.2.2.2.1 q13.2.2.2.2.2.2.2.2.2.2.2.2.2.2.2.2.2.2.1 q13.2.2.2.2.2.2.2.2.2.2.2.2.2.2.2.2.2.2.2).flatten H := hP
          have hD : va_D A (l_Model Z.2.1 Am q13.2.1 q13.2.2.1 q13.2.2.2.1 q13.2.2.2.2.1 q13.2.2.2.2.2.1 q13.2.2.2.2.2.2.1 q13.2.2.2.2.2.2.2.1 q13.2.2.2.2.2.2.2.2.1 q13.2.2.2.2.2.2.2.2.2.1 q13.2.2.2.2.2.2.2.2.2.2.1 q13.2.2.2.2.2.2.2.2.2.2.2.1 q13.2.2.2.2.2.2.2.2.2.2.2.2.1 q13.2.2.2.2.2.2.2.2.2.2.2.2.2.1 q13.2.2.2.2.2.2.2.2.2.2.2.2.2.2.1 q13.2.2.2.2.2.2.2.2.2.2.2.2.2.2.2.1 q13.2.2.2.2.2.2.2.2.2.2.2.2.2.2.2.2.1 q13.2.2.2.2.2.2.2.2.2.2.2.2.2.2.2.2.2.1 q13.2.2.2.2.2.2.2.2.2.2.2.2.2.2.2.2.2.2.1 q13.2.2.2.2.2.2.2.2.2.2.2.2.2.2.2.2.2.2.2).flatten := hD
          refine W.eq (g2 := F0 m 124 ls [.int q13.1]) rfl ?_
          obtain rfl := Option.some.inj hF
          subst hQ
          subst hA
          exact W.iret hx hb hr (fun t ht hW => zq_mu (by rw [ht]; exact hP) (hS.F ht)) hS.2.2 (z_d hX7_insert_1 7 rfl)
    · have hF := z_pos hc75 hF
      refine lv_aload_n hx hb (z_d hX7_insert_0 42 rfl) rfl (lv_at hl 0 rfl) ?_
      refine lv_iconst (v := 3) hx hb (z_d hX7_insert_0 43 rfl) (by decide) ?_
      refine z_let hF (fun q14 hq14 hF => ?_)
      refine z_mu0 (z_rV (As := [.int 3]) (rest := []) hx hb hml hown hts vt_X7_fails (c_X7_fails l Z Am M 3 _ hq14) rfl rfl ⟨Nat.le_of_ble_eq_true rfl, Nat.le_of_ble_eq_true rfl⟩ k_m_X7_129 zPmu_blind (z_recv (q := (RX7, TX7, 19)) (ci := 7) (q0 := 0) hK (zP_reg hP 0 rfl) rfl rfl) (z_prem hK hP hD) rfl hl.1 (Nat.le_of_ble_eq_true rfl) (z_d hX7_insert_0 44 rfl) ⟨Nat.zero_le _, Nat.zero_le _⟩) hS hD (adr_Model _ _ _ _) (fun H locs hP hD hS => ?_)
      have hP : va_P Z.1 vwCl (l_Model Z.2.1 Am q14.2.1 q14.2.2.1 q14.2.2.2.1 q14.2.2.2.2.1 q14.2.2.2.2.2.1 q14.2.2.2.2.2.2.1 q14.2.2.2.2.2.2.2.1 q14.2.2.2.2.2.2.2.2.1 q14.2.2.2.2.2.2.2.2.2.1 q14.2.2.2.2.2.2.2.2.2.2.1 q14.2.2.2.2.2.2.2.2.2.2.2.1 q14.2.2.2.2.2.2.2.2.2.2.2.2.1 q14.2.2.2.2.2.2.2.2.2.2.2.2.2.1 q14.2.2.2.2.2.2.2.2.2.2.2.2.2.2.1 q14.2.2.2.2.2.2.2.2.2.2.2.2.2.2.2.1 q14.2.2.2.2.2.2.2.2.2.2.2.2.2.2.2.2.1 q14.2.2.2.2.2.2.2.2.2.2.2.2.2.2.2.2.2.1 q14.2.2.2.2.2.2.2.2.2.2.2.2.2.2.2.2.2.2.1 q14.2.2.2.2.2.2.2.2.2.2.2.2.2.2.2.2.2.2.2).flatten H := hP
      have hD : va_D A (l_Model Z.2.1 Am q14.2.1 q14.2.2.1 q14.2.2.2.1 q14.2.2.2.2.1 q14.2.2.2.2.2.1 q14.2.2.2.2.2.2.1 q14.2.2.2.2.2.2.2.1 q14.2.2.2.2.2.2.2.2.1 q14.2.2.2.2.2.2.2.2.2.1 q14.2.2.2.2.2.2.2.2.2.2.1 q14.2.2.2.2.2.2.2.2.2.2.2.1 q14.2.2.2.2.2.2.2.2.2.2.2.2.1 q14.2.2.2.2.2.2.2.2.2.2.2.2.2.1 q14.2.2.2.2.2.2.2.2.2.2.2.2.2.2.1 q14.2.2.2.2.2.2.2.2.2.2.2.2.2.2.2.1 q14.2.2.2.2.2.2.2.2.2.2.2.2.2.2.2.2.1 q14.2.2.2.2.2.2.2.2.2.2.2.2.2.2.2.2.2.1 q14.2.2.2.2.2.2.2.2.2.2.2.2.2.2.2.2.2.2.1 q14.2.2.2.2.2.2.2.2.2.2.2.2.2.2.2.2.2.2.2).flatten := hD
      refine W.eq (g2 := F0 m 83 ls [.int q14.1]) rfl ?_
      obtain rfl := Option.some.inj hF
      subst hQ
      subst hA
      exact W.iret hx hb hr (fun t ht hW => zq_mu (by rw [ht]; exact hP) (hS.F ht)) hS.2.2 (z_d hX7_insert_0 45 rfl)
  refine lv_iload_n hx hb (z_d hX7_insert_0 0 rfl) rfl (lv_at hl 1 rfl) ?_
  refine lv_iconst (v := 0) hx hb (z_d hX7_insert_0 1 rfl) (by decide) ?_
  refine lv_aload_n hx hb (z_d hX7_insert_0 2 rfl) rfl (lv_at hl 0 rfl) ?_
  refine va_get (D := Z.1) (ci := 7) (v := .ref (Am 1)) (C := RX7) (T := TX7) (N := 19) hx hb hts zinX7 hown hK.1 (zP_reg hP 0 rfl) 0 rfl rfl 0 (by decide) (hts _ k_f_X7_7) (fun _ h9 => h9) rfl (z_d hX7_insert_0 3 rfl) ?_
  refine lv_iconst (v := 1) hx hb (z_d hX7_insert_0 4 rfl) (by decide) ?_
  refine z_ix hF (fun hin hF => ?_)
  refine va_iald (D := Z.1) (f := M.1) hx hb hK.1 (zP_reg hP 1 rfl) 0 0 rfl rfl hin (z_d hX7_insert_0 5 rfl) ?_
  refine z_let hF (fun u1 hu1 hF => ?_)
  refine lv_topE hu1 ?_
  refine z_let hF (fun q2 hq2 hF => ?_)
  refine z_ro_i (z_rS (As := [.int p1, .int 0, .int u1]) (rest := []) hx hb hml hown hts vs_X7_in (c_X7_in l Z p1 0 u1 _ hq2) rfl rfl ⟨Nat.le_of_ble_eq_true rfl, Nat.le_of_ble_eq_true rfl⟩ k_m_X7_58 zPro_blind (z_prec hK zP_nil) rfl hl.1 (Nat.le_of_ble_eq_true rfl) (z_d hX7_insert_0 6 rfl) ⟨Nat.zero_le _, Nat.zero_le _⟩) hS hP (fun H locs hP hS => ?_)
  refine lv_if_ne (tgt := 20) hx hb (z_d hX7_insert_0 7 rfl) (by decide) (fun hc11 => ?_) (fun hc11 => ?_)
  · have hF := z_neg hc11 hF
    refine lv_iload_n hx hb (z_d hX7_insert_0 12 rfl) rfl (lv_at hl 2 rfl) ?_
    refine lv_iconst (v := 0) hx hb (z_d hX7_insert_0 13 rfl) (by decide) ?_
    refine lv_iconst (v := 4) hx hb (z_d hX7_insert_0 14 rfl) (by decide) ?_
    refine z_let hF (fun q3 hq3 hF => ?_)
    refine z_ro_i (z_rS (As := [.int p2, .int 0, .int 4]) (rest := []) hx hb hml hown hts vs_X7_in (c_X7_in l Z p2 0 4 _ hq3) rfl rfl ⟨Nat.le_of_ble_eq_true rfl, Nat.le_of_ble_eq_true rfl⟩ k_m_X7_58 zPro_blind (z_prec hK zP_nil) rfl hl.1 (Nat.le_of_ble_eq_true rfl) (z_d hX7_insert_0 15 rfl) ⟨Nat.zero_le _, Nat.zero_le _⟩) hS hP (fun H locs hP hS => ?_)
    refine lv_if_eq (tgt := 61) hx hb (z_d hX7_insert_0 16 rfl) (by decide) (fun hc26 => ?_) (fun hc26 => ?_)
    · have hF := z_pos hc26 hF
      exact J61 M hF _ _ ls hP hD hS (lv_sub hl [0, 1, 2, 3, 4] rfl)
    · have hF := z_neg hc26 hF
      refine lv_iload_n hx hb (z_d hX7_insert_0 17 rfl) rfl (lv_at hl 3 rfl) ?_
      refine z_let hF (fun q5 hq5 hF => ?_)
      refine z_ro_i (z_rS (As := [.int p3]) (rest := []) hx hb hml hown hts vs_X7_isLength (c_X7_isLength l Z p3 _ hq5) rfl rfl ⟨Nat.le_of_ble_eq_true rfl, Nat.le_of_ble_eq_true rfl⟩ k_m_X7_132 zPro_blind (z_prec hK zP_nil) rfl hl.1 (Nat.le_of_ble_eq_true rfl) (z_d hX7_insert_0 18 rfl) ⟨Nat.zero_le _, Nat.zero_le _⟩) hS hP (fun H locs hP hS => ?_)
      refine lv_if_eq (tgt := 61) hx hb (z_d hX7_insert_0 19 rfl) (by decide) (fun hc33 => ?_) (fun hc33 => ?_)
      · have hF := z_pos hc33 hF
        exact J61 M hF _ _ ls hP hD hS (lv_sub hl [0, 1, 2, 3, 4] rfl)
      · have hF := z_neg hc33 hF
        refine lv_iload_n hx hb (z_d hX7_insert_0 20 rfl) rfl (lv_at hl 2 rfl) ?_
        refine lv_iconst (v := 2) hx hb (z_d hX7_insert_0 21 rfl) (by decide) ?_
        refine lv_icmp_ne (tgt := 55) hx hb (z_d hX7_insert_0 22 rfl) (by decide) (fun hc38 => ?_) (fun hc38 => ?_)
        · have hF := z_neg hc38 hF
          refine lv_iload hx hb (z_d hX7_insert_0 29 rfl) (lv_at hl 4 rfl) ?_
          refine lv_iconst (v := (-1)) hx hb (z_d hX7_insert_0 30 rfl) (by decide) ?_
          refine lv_icmp_eq (tgt := 67) hx hb (z_d hX7_insert_0 31 rfl) (by decide) (fun hc58 => ?_) (fun hc58 => ?_)
          · have hF := z_pos hc58 hF
            exact J67 M hF _ _ ls hP hD hS (lv_sub hl [0, 1, 2, 3, 4] rfl)
          · have hF := z_neg hc58 hF
            exact J61 M hF _ _ ls hP hD hS (lv_sub hl [0, 1, 2, 3, 4] rfl)
        · have hF := z_pos hc38 hF
          refine lv_iload hx hb (z_d hX7_insert_0 23 rfl) (lv_at hl 4 rfl) ?_
          refine lv_iconst (v := 0) hx hb (z_d hX7_insert_0 24 rfl) (by decide) ?_
          refine lv_bipush (v := 9) hx hb (z_d hX7_insert_0 25 rfl) (by decide) ?_
          refine z_let hF (fun q15 hq15 hF => ?_)
          refine z_ro_i (z_rS (As := [.int p4, .int 0, .int 9]) (rest := []) hx hb hml hown hts vs_X7_in (c_X7_in l Z p4 0 9 _ hq15) rfl rfl ⟨Nat.le_of_ble_eq_true rfl, Nat.le_of_ble_eq_true rfl⟩ k_m_X7_58 zPro_blind (z_prec hK zP_nil) rfl hl.1 (Nat.le_of_ble_eq_true rfl) (z_d hX7_insert_0 26 rfl) ⟨Nat.zero_le _, Nat.zero_le _⟩) hS hP (fun H locs hP hS => ?_)
          refine lv_if_eq (tgt := 61) hx hb (z_d hX7_insert_0 27 rfl) (by decide) (fun hc49 => ?_) (fun hc49 => ?_)
          · have hF := z_pos hc49 hF
            exact J61 M hF _ _ ls hP hD hS (lv_sub hl [0, 1, 2, 3, 4] rfl)
          · have hF := z_neg hc49 hF
            refine lv_goto (tgt := 67) hx hb (z_d hX7_insert_0 28 rfl) (by decide) ?_
            exact J67 M hF _ _ ls hP hD hS (lv_sub hl [0, 1, 2, 3, 4] rfl)
  · have hF := z_pos hc11 hF
    refine lv_aload_n hx hb (z_d hX7_insert_0 8 rfl) rfl (lv_at hl 0 rfl) ?_
    refine lv_iconst (v := 1) hx hb (z_d hX7_insert_0 9 rfl) (by decide) ?_
    refine z_let hF (fun q16 hq16 hF => ?_)
    refine z_mu0 (z_rV (As := [.int 1]) (rest := []) hx hb hml hown hts vt_X7_fails (c_X7_fails l Z Am M 1 _ hq16) rfl rfl ⟨Nat.le_of_ble_eq_true rfl, Nat.le_of_ble_eq_true rfl⟩ k_m_X7_129 zPmu_blind (z_recv (q := (RX7, TX7, 19)) (ci := 7) (q0 := 0) hK (zP_reg hP 0 rfl) rfl rfl) (z_prem hK hP hD) rfl hl.1 (Nat.le_of_ble_eq_true rfl) (z_d hX7_insert_0 10 rfl) ⟨Nat.zero_le _, Nat.zero_le _⟩) hS hD (adr_Model _ _ _ _) (fun H locs hP hD hS => ?_)
    have hP : va_P Z.1 vwCl (l_Model Z.2.1 Am q16.2.1 q16.2.2.1 q16.2.2.2.1 q16.2.2.2.2.1 q16.2.2.2.2.2.1 q16.2.2.2.2.2.2.1 q16.2.2.2.2.2.2.2.1 q16.2.2.2.2.2.2.2.2.1 q16.2.2.2.2.2.2.2.2.2.1 q16.2.2.2.2.2.2.2.2.2.2.1 q16.2.2.2.2.2.2.2.2.2.2.2.1 q16.2.2.2.2.2.2.2.2.2.2.2.2.1 q16.2.2.2.2.2.2.2.2.2.2.2.2.2.1 q16.2.2.2.2.2.2.2.2.2.2.2.2.2.2.1 q16.2.2.2.2.2.2.2.2.2.2.2.2.2.2.2.1 q16.2.2.2.2.2.2.2.2.2.2.2.2.2.2.2.2.1 q16.2.2.2.2.2.2.2.2.2.2.2.2.2.2.2.2.2.1 q16.2.2.2.2.2.2.2.2.2.2.2.2.2.2.2.2.2.2.1 q16.2.2.2.2.2.2.2.2.2.2.2.2.2.2.2.2.2.2.2).flatten H := hP
    have hD : va_D A (l_Model Z.2.1 Am q16.2.1 q16.2.2.1 q16.2.2.2.1 q16.2.2.2.2.1 q16.2.2.2.2.2.1 q16.2.2.2.2.2.2.1 q16.2.2.2.2.2.2.2.1 q16.2.2.2.2.2.2.2.2.1 q16.2.2.2.2.2.2.2.2.2.1 q16.2.2.2.2.2.2.2.2.2.2.1 q16.2.2.2.2.2.2.2.2.2.2.2.1 q16.2.2.2.2.2.2.2.2.2.2.2.2.1 q16.2.2.2.2.2.2.2.2.2.2.2.2.2.1 q16.2.2.2.2.2.2.2.2.2.2.2.2.2.2.1 q16.2.2.2.2.2.2.2.2.2.2.2.2.2.2.2.1 q16.2.2.2.2.2.2.2.2.2.2.2.2.2.2.2.2.1 q16.2.2.2.2.2.2.2.2.2.2.2.2.2.2.2.2.2.1 q16.2.2.2.2.2.2.2.2.2.2.2.2.2.2.2.2.2.2.1 q16.2.2.2.2.2.2.2.2.2.2.2.2.2.2.2.2.2.2.2).flatten := hD
    refine W.eq (g2 := F0 m 19 ls [.int q16.1]) rfl ?_
    obtain rfl := Option.some.inj hF
    subst hQ
    subst hA
    exact W.iret hx hb hr (fun t ht hW => zq_mu (by rw [ht]; exact hP) (hS.F ht)) hS.2.2 (z_d hX7_insert_0 11 rfl)
def rm_X7_remove : Room := { frames := 3, cells := 0, slots := 0, locals := 64 }
set_option maxRecDepth 100000 in
set_option maxHeartbeats 4000000 in
theorem c_X7_remove (l : Launch) (Z : zZ) (Am : Nat → Nat) (M : t_Model) (p1 : Int32) (R : Int32 × t_Model) (hF : X7_remove M p1 = some R) : zMU l yX7_remove (zw yX7_remove cX7_remove 2 (some .int)) rm_X7_remove Z [.ref (Am 0), .int p1] (w_Model Z.2.1 Am M) (w_Model Z.2.1 Am R.2) (some (.int R.1)) := by
  refine zMU_of (by decide) (Nat.le_of_ble_eq_true rfl) (fun p e s m below meth c hx hb hr hml hown hts hlocks hK A hA Q hQ ls hl hP hD hS => ?_)
  unfold X7_remove at hF
  have hl : lv_has ls 2 [(0, .ref (Am 0)), (1, .int p1)] := hl
  have hown : s.vm.findClass RX7 = some m.cls := hown
  have hP : va_P Z.1 vwCl (l_Model Z.2.1 Am M.1 M.2.1 M.2.2.1 M.2.2.2.1 M.2.2.2.2.1 M.2.2.2.2.2.1 M.2.2.2.2.2.2.1 M.2.2.2.2.2.2.2.1 M.2.2.2.2.2.2.2.2.1 M.2.2.2.2.2.2.2.2.2.1 M.2.2.2.2.2.2.2.2.2.2.1 M.2.2.2.2.2.2.2.2.2.2.2.1 M.2.2.2.2.2.2.2.2.2.2.2.2.1 M.2.2.2.2.2.2.2.2.2.2.2.2.2.1 M.2.2.2.2.2.2.2.2.2.2.2.2.2.2.1 M.2.2.2.2.2.2.2.2.2.2.2.2.2.2.2.1 M.2.2.2.2.2.2.2.2.2.2.2.2.2.2.2.2.1 M.2.2.2.2.2.2.2.2.2.2.2.2.2.2.2.2.2.1 M.2.2.2.2.2.2.2.2.2.2.2.2.2.2.2.2.2.2).flatten s.heap := hP
  have hD : va_D A (l_Model Z.2.1 Am M.1 M.2.1 M.2.2.1 M.2.2.2.1 M.2.2.2.2.1 M.2.2.2.2.2.1 M.2.2.2.2.2.2.1 M.2.2.2.2.2.2.2.1 M.2.2.2.2.2.2.2.2.1 M.2.2.2.2.2.2.2.2.2.1 M.2.2.2.2.2.2.2.2.2.2.1 M.2.2.2.2.2.2.2.2.2.2.2.1 M.2.2.2.2.2.2.2.2.2.2.2.2.1 M.2.2.2.2.2.2.2.2.2.2.2.2.2.1 M.2.2.2.2.2.2.2.2.2.2.2.2.2.2.1 M.2.2.2.2.2.2.2.2.2.2.2.2.2.2.2.1 M.2.2.2.2.2.2.2.2.2.2.2.2.2.2.2.2.1 M.2.2.2.2.2.2.2.2.2.2.2.2.2.2.2.2.2.1 M.2.2.2.2.2.2.2.2.2.2.2.2.2.2.2.2.2.2).flatten := hD
  refine lv_aload_n hx hb (z_d hX7_remove_0 0 rfl) rfl (lv_at hl 0 rfl) ?_
  refine lv_iload_n hx hb (z_d hX7_remove_0 1 rfl) rfl (lv_at hl 1 rfl) ?_
  refine z_bnd hF (fun q1 hq1 hF => ?_)
  refine z_ro_i (z_rV (As := [.int p1]) (rest := []) hx hb hml hown hts vt_X7_isElement (c_X7_isElement l Z Am M p1 _ hq1) rfl rfl ⟨Nat.le_of_ble_eq_true rfl, Nat.le_of_ble_eq_true rfl⟩ k_m_X7_149 zPro_blind (z_recv (q := (RX7, TX7, 19)) (ci := 7) (q0 := 0) hK (zP_reg hP 0 rfl) rfl rfl) (z_prec hK hP) rfl hl.1 (Nat.le_of_ble_eq_true rfl) (z_d hX7_remove_0 2 rfl) ⟨Nat.zero_le _, Nat.zero_le _⟩) hS hP (fun H locs hP hS => ?_)
  refine lv_if_ne (tgt := 14) hx hb (z_d hX7_remove_0 3 rfl) (by decide) (fun hc5 => ?_) (fun hc5 => ?_)
  · have hF := z_neg hc5 hF
    refine lv_aload_n hx hb (z_d hX7_remove_0 8 rfl) rfl (lv_at hl 0 rfl) ?_
    refine lv_iload_n hx hb (z_d hX7_remove_0 9 rfl) rfl (lv_at hl 1 rfl) ?_
    refine z_bnd hF (fun q2 hq2 hF => ?_)
    refine z_ro_i (z_rV (As := [.int p1]) (rest := []) hx hb hml hown hts vt_X7_isLocked (c_X7_isLocked l Z Am M p1 _ hq2) rfl rfl ⟨Nat.le_of_ble_eq_true rfl, Nat.le_of_ble_eq_true rfl⟩ k_m_X7_88 zPro_blind (z_recv (q := (RX7, TX7, 19)) (ci := 7) (q0 := 0) hK (zP_reg hP 0 rfl) rfl rfl) (z_prec hK hP) rfl hl.1 (Nat.le_of_ble_eq_true rfl) (z_d hX7_remove_0 10 rfl) ⟨Nat.zero_le _, Nat.zero_le _⟩) hS hP (fun H locs hP hS => ?_)
    refine lv_if_eq (tgt := 28) hx hb (z_d hX7_remove_0 11 rfl) (by decide) (fun hc19 => ?_) (fun hc19 => ?_)
    · have hF := z_pos hc19 hF
      refine lv_aload_n hx hb (z_d hX7_remove_0 16 rfl) rfl (lv_at hl 0 rfl) ?_
      refine z_bnd hF (fun q3 hq3 hF => ?_)
      refine z_mu0 (z_rV (As := []) (rest := []) hx hb hml hown hts vt_X7_hold (c_X7_hold l Z Am M _ hq3) rfl rfl ⟨Nat.le_of_ble_eq_true rfl, Nat.le_of_ble_eq_true rfl⟩ k_m_X7_135 zPmu_blind (z_recv (q := (RX7, TX7, 19)) (ci := 7) (q0 := 0) hK (zP_reg hP 0 rfl) rfl rfl) (z_prem hK hP hD) rfl hl.1 (Nat.le_of_ble_eq_true rfl) (z_d hX7_remove_0 17 rfl) ⟨Nat.zero_le _, Nat.zero_le _⟩) hS hD (adr_Model _ _ _ _) (fun H locs hP hD hS => ?_)
      have hP : va_P Z.1 vwCl (l_Model Z.2.1 Am q3.1 q3.2.1 q3.2.2.1 q3.2.2.2.1 q3.2.2.2.2.1 q3.2.2.2.2.2.1 q3.2.2.2.2.2.2.1 q3.2.2.2.2.2.2.2.1 q3.2.2.2.2.2.2.2.2.1 q3.2.2.2.2.2.2.2.2.2.1 q3.2.2.2.2.2.2.2.2.2.2.1 q3.2.2.2.2.2.2.2.2.2.2.2.1 q3.2.2.2.2.2.2.2.2.2.2.2.2.1 q3.2.2.2.2.2.2.2.2.2.2.2.2.2.1 q3.2.2.2.2.2.2.2.2.2.2.2.2.2.2.1 q3.2.2.2.2.2.2.2.2.2.2.2.2.2.2.2.1 q3.2.2.2.2.2.2.2.2.2.2.2.2.2.2.2.2.1 q3.2.2.2.2.2.2.2.2.2.2.2.2.2.2.2.2.2.1 q3.2.2.2.2.2.2.2.2.2.2.2.2.2.2.2.2.2.2).flatten H := hP
      have hD : va_D A (l_Model Z.2.1 Am q3.1 q3.2.1 q3.2.2.1 q3.2.2.2.1 q3.2.2.2.2.1 q3.2.2.2.2.2.1 q3.2.2.2.2.2.2.1 q3.2.2.2.2.2.2.2.1 q3.2.2.2.2.2.2.2.2.1 q3.2.2.2.2.2.2.2.2.2.1 q3.2.2.2.2.2.2.2.2.2.2.1 q3.2.2.2.2.2.2.2.2.2.2.2.1 q3.2.2.2.2.2.2.2.2.2.2.2.2.1 q3.2.2.2.2.2.2.2.2.2.2.2.2.2.1 q3.2.2.2.2.2.2.2.2.2.2.2.2.2.2.1 q3.2.2.2.2.2.2.2.2.2.2.2.2.2.2.2.1 q3.2.2.2.2.2.2.2.2.2.2.2.2.2.2.2.2.1 q3.2.2.2.2.2.2.2.2.2.2.2.2.2.2.2.2.2.1 q3.2.2.2.2.2.2.2.2.2.2.2.2.2.2.2.2.2.2).flatten := hD
      refine W.eq (g2 := F0 m 32 ls []) rfl ?_
      refine lv_aload_n hx hb (z_d hX7_remove_0 18 rfl) rfl (lv_at hl 0 rfl) ?_
      refine lv_iload_n hx hb (z_d hX7_remove_0 19 rfl) rfl (lv_at hl 1 rfl) ?_
      refine z_bnd hF (fun q4 hq4 hF => ?_)
      refine z_mu0 (z_rV (As := [.int p1]) (rest := []) hx hb hml hown hts vt_X7_goes (c_X7_goes l Z Am q3 p1 _ hq4) rfl rfl ⟨Nat.le_of_ble_eq_true rfl, Nat.le_of_ble_eq_true rfl⟩ k_m_X7_152 zPmu_blind (z_recv (q := (RX7, TX7, 19)) (ci := 7) (q0 := 0) hK (zP_reg hP 0 rfl) rfl rfl) (z_prem hK hP hD) rfl hl.1 (Nat.le_of_ble_eq_true rfl) (z_d hX7_remove_0 20 rfl) ⟨Nat.zero_le _, Nat.zero_le _⟩) hS hD (adr_Model _ _ _ _) (fun H locs hP hD hS => ?_)
      have hP : va_P Z.1 vwCl (l_Model Z.2.1 Am q4.1 q4.2.1 q4.2.2.1 q4.2.2.2.1 q4.2.2.2.2.1 q4.2.2.2.2.2.1 q4.2.2.2.2.2.2.1 q4.2.2.2.2.2.2.2.1 q4.2.2.2.2.2.2.2.2.1 q4.2.2.2.2.2.2.2.2.2.1 q4.2.2.2.2.2.2.2.2.2.2.1 q4.2.2.2.2.2.2.2.2.2.2.2.1 q4.2.2.2.2.2.2.2.2.2.2.2.2.1 q4.2.2.2.2.2.2.2.2.2.2.2.2.2.1 q4.2.2.2.2.2.2.2.2.2.2.2.2.2.2.1 q4.2.2.2.2.2.2.2.2.2.2.2.2.2.2.2.1 q4.2.2.2.2.2.2.2.2.2.2.2.2.2.2.2.2.1 q4.2.2.2.2.2.2.2.2.2.2.2.2.2.2.2.2.2.1 q4.2.2.2.2.2.2.2.2.2.2.2.2.2.2.2.2.2.2).flatten H := hP
      have hD : va_D A (l_Model Z.2.1 Am q4.1 q4.2.1 q4.2.2.1 q4.2.2.2.1 q4.2.2.2.2.1 q4.2.2.2.2.2.1 q4.2.2.2.2.2.2.1 q4.2.2.2.2.2.2.2.1 q4.2.2.2.2.2.2.2.2.1 q4.2.2.2.2.2.2.2.2.2.1 q4.2.2.2.2.2.2.2.2.2.2.1 q4.2.2.2.2.2.2.2.2.2.2.2.1 q4.2.2.2.2.2.2.2.2.2.2.2.2.1 q4.2.2.2.2.2.2.2.2.2.2.2.2.2.1 q4.2.2.2.2.2.2.2.2.2.2.2.2.2.2.1 q4.2.2.2.2.2.2.2.2.2.2.2.2.2.2.2.1 q4.2.2.2.2.2.2.2.2.2.2.2.2.2.2.2.2.1 q4.2.2.2.2.2.2.2.2.2.2.2.2.2.2.2.2.2.1 q4.2.2.2.2.2.2.2.2.2.2.2.2.2.2.2.2.2.2).flatten := hD
      refine W.eq (g2 := F0 m 37 ls []) rfl ?_
      refine lv_aload_n hx hb (z_d hX7_remove_0 21 rfl) rfl (lv_at hl 0 rfl) ?_
      refine lv_aload_n hx hb (z_d hX7_remove_0 22 rfl) rfl (lv_at hl 0 rfl) ?_
      refine va_get (D := Z.1) (ci := 7) (v := .ref (Am 1)) (C := RX7) (T := TX7) (N := 19) hx hb hts zinX7 hown hK.1 (zP_reg hP 0 rfl) 0 rfl rfl 0 (by decide) (hts _ k_f_X7_7) (fun _ h9 => h9) rfl (z_d hX7_remove_0 23 rfl) ?_
      refine lv_iconst (v := 1) hx hb (z_d hX7_remove_0 24 rfl) (by decide) ?_
      refine z_ix hF (fun hin hF => ?_)
      refine va_iald (D := Z.1) (f := q4.1) hx hb hK.1 (zP_reg hP 1 rfl) 0 0 rfl rfl hin (z_d hX7_remove_0 25 rfl) ?_
      refine z_let hF (fun u5 hu5 hF => ?_)
      refine lv_topE hu5 ?_
      refine z_bnd hF (fun q6 hq6 hF => ?_)
      refine z_mu0 (z_rV (As := [.int u5]) (rest := []) hx hb hml hown hts vt_X7_ends (c_X7_ends l Z Am q4 u5 _ hq6) rfl rfl ⟨Nat.le_of_ble_eq_true rfl, Nat.le_of_ble_eq_true rfl⟩ k_m_X7_146 zPmu_blind (z_recv (q := (RX7, TX7, 19)) (ci := 7) (q0 := 0) hK (zP_reg hP 0 rfl) rfl rfl) (z_prem hK hP hD) rfl hl.1 (Nat.le_of_ble_eq_true rfl) (z_d hX7_remove_0 26 rfl) ⟨Nat.zero_le _, Nat.zero_le _⟩) hS hD (adr_Model _ _ _ _) (fun H locs hP hD hS => ?_)
      have hP : va_P Z.1 vwCl (l_Model Z.2.1 Am q6.2.1 q6.2.2.1 q6.2.2.2.1 q6.2.2.2.2.1 q6.2.2.2.2.2.1 q6.2.2.2.2.2.2.1 q6.2.2.2.2.2.2.2.1 q6.2.2.2.2.2.2.2.2.1 q6.2.2.2.2.2.2.2.2.2.1 q6.2.2.2.2.2.2.2.2.2.2.1 q6.2.2.2.2.2.2.2.2.2.2.2.1 q6.2.2.2.2.2.2.2.2.2.2.2.2.1 q6.2.2.2.2.2.2.2.2.2.2.2.2.2.1 q6.2.2.2.2.2.2.2.2.2.2.2.2.2.2.1 q6.2.2.2.2.2.2.2.2.2.2.2.2.2.2.2.1 q6.2.2.2.2.2.2.2.2.2.2.2.2.2.2.2.2.1 q6.2.2.2.2.2.2.2.2.2.2.2.2.2.2.2.2.2.1 q6.2.2.2.2.2.2.2.2.2.2.2.2.2.2.2.2.2.2.1 q6.2.2.2.2.2.2.2.2.2.2.2.2.2.2.2.2.2.2.2).flatten H := hP
      have hD : va_D A (l_Model Z.2.1 Am q6.2.1 q6.2.2.1 q6.2.2.2.1 q6.2.2.2.2.1 q6.2.2.2.2.2.1 q6.2.2.2.2.2.2.1 q6.2.2.2.2.2.2.2.1 q6.2.2.2.2.2.2.2.2.1 q6.2.2.2.2.2.2.2.2.2.1 q6.2.2.2.2.2.2.2.2.2.2.1 q6.2.2.2.2.2.2.2.2.2.2.2.1 q6.2.2.2.2.2.2.2.2.2.2.2.2.1 q6.2.2.2.2.2.2.2.2.2.2.2.2.2.1 q6.2.2.2.2.2.2.2.2.2.2.2.2.2.2.1 q6.2.2.2.2.2.2.2.2.2.2.2.2.2.2.2.1 q6.2.2.2.2.2.2.2.2.2.2.2.2.2.2.2.2.1 q6.2.2.2.2.2.2.2.2.2.2.2.2.2.2.2.2.2.1 q6.2.2.2.2.2.2.2.2.2.2.2.2.2.2.2.2.2.2.1 q6.2.2.2.2.2.2.2.2.2.2.2.2.2.2.2.2.2.2.2).flatten := hD
      refine W.eq (g2 := F0 m 47 ls [.int q6.1]) rfl ?_
      obtain rfl := Option.some.inj hF
      subst hQ
      subst hA
      exact W.iret hx hb hr (fun t ht hW => zq_mu (by rw [ht]; exact hP) (hS.F ht)) hS.2.2 (z_d hX7_remove_0 27 rfl)
    · have hF := z_neg hc19 hF
      refine lv_aload_n hx hb (z_d hX7_remove_0 12 rfl) rfl (lv_at hl 0 rfl) ?_
      refine lv_iconst (v := 2) hx hb (z_d hX7_remove_0 13 rfl) (by decide) ?_
      refine z_let hF (fun q7 hq7 hF => ?_)
      refine z_mu0 (z_rV (As := [.int 2]) (rest := []) hx hb hml hown hts vt_X7_fails (c_X7_fails l Z Am M 2 _ hq7) rfl rfl ⟨Nat.le_of_ble_eq_true rfl, Nat.le_of_ble_eq_true rfl⟩ k_m_X7_129 zPmu_blind (z_recv (q := (RX7, TX7, 19)) (ci := 7) (q0 := 0) hK (zP_reg hP 0 rfl) rfl rfl) (z_prem hK hP hD) rfl hl.1 (Nat.le_of_ble_eq_true rfl) (z_d hX7_remove_0 14 rfl) ⟨Nat.zero_le _, Nat.zero_le _⟩) hS hD (adr_Model _ _ _ _) (fun H locs hP hD hS => ?_)
      have hP : va_P Z.1 vwCl (l_Model Z.2.1 Am q7.2.1 q7.2.2.1 q7.2.2.2.1 q7.2.2.2.2.1 q7.2.2.2.2.2.1 q7.2.2.2.2.2.2.1 q7.2.2.2.2.2.2.2.1 q7.2.2.2.2.2.2.2.2.1 q7.2.2.2.2.2.2.2.2.2.1 q7.2.2.2.2.2.2.2.2.2.2.1 q7.2.2.2.2.2.2.2.2.2.2.2.1 q7.2.2.2.2.2.2.2.2.2.2.2.2.1 q7.2.2.2.2.2.2.2.2.2.2.2.2.2.1 q7.2.2.2.2.2.2.2.2.2.2.2.2.2.2.1 q7.2.2.2.2.2.2.2.2.2.2.2.2.2.2.2.1 q7.2.2.2.2.2.2.2.2.2.2.2.2.2.2.2.2.1 q7.2.2.2.2.2.2.2.2.2.2.2.2.2.2.2.2.2.1 q7.2.2.2.2.2.2.2.2.2.2.2.2.2.2.2.2.2.2.1 q7.2.2.2.2.2.2.2.2.2.2.2.2.2.2.2.2.2.2.2).flatten H := hP
      have hD : va_D A (l_Model Z.2.1 Am q7.2.1 q7.2.2.1 q7.2.2.2.1 q7.2.2.2.2.1 q7.2.2.2.2.2.1 q7.2.2.2.2.2.2.1 q7.2.2.2.2.2.2.2.1 q7.2.2.2.2.2.2.2.2.1 q7.2.2.2.2.2.2.2.2.2.1 q7.2.2.2.2.2.2.2.2.2.2.1 q7.2.2.2.2.2.2.2.2.2.2.2.1 q7.2.2.2.2.2.2.2.2.2.2.2.2.1 q7.2.2.2.2.2.2.2.2.2.2.2.2.2.1 q7.2.2.2.2.2.2.2.2.2.2.2.2.2.2.1 q7.2.2.2.2.2.2.2.2.2.2.2.2.2.2.2.1 q7.2.2.2.2.2.2.2.2.2.2.2.2.2.2.2.2.1 q7.2.2.2.2.2.2.2.2.2.2.2.2.2.2.2.2.2.1 q7.2.2.2.2.2.2.2.2.2.2.2.2.2.2.2.2.2.2.1 q7.2.2.2.2.2.2.2.2.2.2.2.2.2.2.2.2.2.2.2).flatten := hD
      refine W.eq (g2 := F0 m 27 ls [.int q7.1]) rfl ?_
      obtain rfl := Option.some.inj hF
      subst hQ
      subst hA
      exact W.iret hx hb hr (fun t ht hW => zq_mu (by rw [ht]; exact hP) (hS.F ht)) hS.2.2 (z_d hX7_remove_0 15 rfl)
  · have hF := z_pos hc5 hF
    refine lv_aload_n hx hb (z_d hX7_remove_0 4 rfl) rfl (lv_at hl 0 rfl) ?_
    refine lv_iconst (v := 1) hx hb (z_d hX7_remove_0 5 rfl) (by decide) ?_
    refine z_let hF (fun q8 hq8 hF => ?_)
    refine z_mu0 (z_rV (As := [.int 1]) (rest := []) hx hb hml hown hts vt_X7_fails (c_X7_fails l Z Am M 1 _ hq8) rfl rfl ⟨Nat.le_of_ble_eq_true rfl, Nat.le_of_ble_eq_true rfl⟩ k_m_X7_129 zPmu_blind (z_recv (q := (RX7, TX7, 19)) (ci := 7) (q0 := 0) hK (zP_reg hP 0 rfl) rfl rfl) (z_prem hK hP hD) rfl hl.1 (Nat.le_of_ble_eq_true rfl) (z_d hX7_remove_0 6 rfl) ⟨Nat.zero_le _, Nat.zero_le _⟩) hS hD (adr_Model _ _ _ _) (fun H locs hP hD hS => ?_)
    have hP : va_P Z.1 vwCl (l_Model Z.2.1 Am q8.2.1 q8.2.2.1 q8.2.2.2.1 q8.2.2.2.2.1 q8.2.2.2.2.2.1 q8.2.2.2.2.2.2.1 q8.2.2.2.2.2.2.2.1 q8.2.2.2.2.2.2.2.2.1 q8.2.2.2.2.2.2.2.2.2.1 q8.2.2.2.2.2.2.2.2.2.2.1 q8.2.2.2.2.2.2.2.2.2.2.2.1 q8.2.2.2.2.2.2.2.2.2.2.2.2.1 q8.2.2.2.2.2.2.2.2.2.2.2.2.2.1 q8.2.2.2.2.2.2.2.2.2.2.2.2.2.2.1 q8.2.2.2.2.2.2.2.2.2.2.2.2.2.2.2.1 q8.2.2.2.2.2.2.2.2.2.2.2.2.2.2.2.2.1 q8.2.2.2.2.2.2.2.2.2.2.2.2.2.2.2.2.2.1 q8.2.2.2.2.2.2.2.2.2.2.2.2.2.2.2.2.2.2.1 q8.2.2.2.2.2.2.2.2.2.2.2.2.2.2.2.2.2.2.2).flatten H := hP
    have hD : va_D A (l_Model Z.2.1 Am q8.2.1 q8.2.2.1 q8.2.2.2.1 q8.2.2.2.2.1 q8.2.2.2.2.2.1 q8.2.2.2.2.2.2.1 q8.2.2.2.2.2.2.2.1 q8.2.2.2.2.2.2.2.2.1 q8.2.2.2.2.2.2.2.2.2.1 q8.2.2.2.2.2.2.2.2.2.2.1 q8.2.2.2.2.2.2.2.2.2.2.2.1 q8.2.2.2.2.2.2.2.2.2.2.2.2.1 q8.2.2.2.2.2.2.2.2.2.2.2.2.2.1 q8.2.2.2.2.2.2.2.2.2.2.2.2.2.2.1 q8.2.2.2.2.2.2.2.2.2.2.2.2.2.2.2.1 q8.2.2.2.2.2.2.2.2.2.2.2.2.2.2.2.2.1 q8.2.2.2.2.2.2.2.2.2.2.2.2.2.2.2.2.2.1 q8.2.2.2.2.2.2.2.2.2.2.2.2.2.2.2.2.2.2.1 q8.2.2.2.2.2.2.2.2.2.2.2.2.2.2.2.2.2.2.2).flatten := hD
    refine W.eq (g2 := F0 m 13 ls [.int q8.1]) rfl ?_
    obtain rfl := Option.some.inj hF
    subst hQ
    subst hA
    exact W.iret hx hb hr (fun t ht hW => zq_mu (by rw [ht]; exact hP) (hS.F ht)) hS.2.2 (z_d hX7_remove_0 7 rfl)
def rm_X7_setLength : Room := { frames := 2, cells := 0, slots := 0, locals := 44 }
set_option maxRecDepth 100000 in
set_option maxHeartbeats 4000000 in
theorem c_X7_setLength (l : Launch) (Z : zZ) (Am : Nat → Nat) (M : t_Model) (p1 : Int32) (p2 : Int32) (R : Int32 × t_Model) (hF : X7_setLength M p1 p2 = some R) : zMU l yX7_setLength (zw yX7_setLength cX7_setLength 3 (some .int)) rm_X7_setLength Z [.ref (Am 0), .int p1, .int p2] (w_Model Z.2.1 Am M) (w_Model Z.2.1 Am R.2) (some (.int R.1)) := by
  refine zMU_of (by decide) (Nat.le_of_ble_eq_true rfl) (fun p e s m below meth c hx hb hr hml hown hts hlocks hK A hA Q hQ ls hl hP hD hS => ?_)
  unfold X7_setLength at hF
  have hl : lv_has ls 3 [(0, .ref (Am 0)), (1, .int p1), (2, .int p2)] := hl
  have hown : s.vm.findClass RX7 = some m.cls := hown
  have hP : va_P Z.1 vwCl (l_Model Z.2.1 Am M.1 M.2.1 M.2.2.1 M.2.2.2.1 M.2.2.2.2.1 M.2.2.2.2.2.1 M.2.2.2.2.2.2.1 M.2.2.2.2.2.2.2.1 M.2.2.2.2.2.2.2.2.1 M.2.2.2.2.2.2.2.2.2.1 M.2.2.2.2.2.2.2.2.2.2.1 M.2.2.2.2.2.2.2.2.2.2.2.1 M.2.2.2.2.2.2.2.2.2.2.2.2.1 M.2.2.2.2.2.2.2.2.2.2.2.2.2.1 M.2.2.2.2.2.2.2.2.2.2.2.2.2.2.1 M.2.2.2.2.2.2.2.2.2.2.2.2.2.2.2.1 M.2.2.2.2.2.2.2.2.2.2.2.2.2.2.2.2.1 M.2.2.2.2.2.2.2.2.2.2.2.2.2.2.2.2.2.1 M.2.2.2.2.2.2.2.2.2.2.2.2.2.2.2.2.2.2).flatten s.heap := hP
  have hD : va_D A (l_Model Z.2.1 Am M.1 M.2.1 M.2.2.1 M.2.2.2.1 M.2.2.2.2.1 M.2.2.2.2.2.1 M.2.2.2.2.2.2.1 M.2.2.2.2.2.2.2.1 M.2.2.2.2.2.2.2.2.1 M.2.2.2.2.2.2.2.2.2.1 M.2.2.2.2.2.2.2.2.2.2.1 M.2.2.2.2.2.2.2.2.2.2.2.1 M.2.2.2.2.2.2.2.2.2.2.2.2.1 M.2.2.2.2.2.2.2.2.2.2.2.2.2.1 M.2.2.2.2.2.2.2.2.2.2.2.2.2.2.1 M.2.2.2.2.2.2.2.2.2.2.2.2.2.2.2.1 M.2.2.2.2.2.2.2.2.2.2.2.2.2.2.2.2.1 M.2.2.2.2.2.2.2.2.2.2.2.2.2.2.2.2.2.1 M.2.2.2.2.2.2.2.2.2.2.2.2.2.2.2.2.2.2).flatten := hD
  refine lv_aload_n hx hb (z_d hX7_setLength_0 0 rfl) rfl (lv_at hl 0 rfl) ?_
  refine lv_iload_n hx hb (z_d hX7_setLength_0 1 rfl) rfl (lv_at hl 1 rfl) ?_
  refine z_bnd hF (fun q1 hq1 hF => ?_)
  refine z_ro_i (z_rV (As := [.int p1]) (rest := []) hx hb hml hown hts vt_X7_isElement (c_X7_isElement l Z Am M p1 _ hq1) rfl rfl ⟨Nat.le_of_ble_eq_true rfl, Nat.le_of_ble_eq_true rfl⟩ k_m_X7_149 zPro_blind (z_recv (q := (RX7, TX7, 19)) (ci := 7) (q0 := 0) hK (zP_reg hP 0 rfl) rfl rfl) (z_prec hK hP) rfl hl.1 (Nat.le_of_ble_eq_true rfl) (z_d hX7_setLength_0 2 rfl) ⟨Nat.zero_le _, Nat.zero_le _⟩) hS hP (fun H locs hP hS => ?_)
  refine lv_if_ne (tgt := 14) hx hb (z_d hX7_setLength_0 3 rfl) (by decide) (fun hc5 => ?_) (fun hc5 => ?_)
  · have hF := z_neg hc5 hF
    refine lv_iload_n hx hb (z_d hX7_setLength_0 8 rfl) rfl (lv_at hl 2 rfl) ?_
    refine z_let hF (fun q2 hq2 hF => ?_)
    refine z_ro_i (z_rS (As := [.int p2]) (rest := []) hx hb hml hown hts vs_X7_isLength (c_X7_isLength l Z p2 _ hq2) rfl rfl ⟨Nat.le_of_ble_eq_true rfl, Nat.le_of_ble_eq_true rfl⟩ k_m_X7_132 zPro_blind (z_prec hK zP_nil) rfl hl.1 (Nat.le_of_ble_eq_true rfl) (z_d hX7_setLength_0 9 rfl) ⟨Nat.zero_le _, Nat.zero_le _⟩) hS hP (fun H locs hP hS => ?_)
    refine lv_if_ne (tgt := 27) hx hb (z_d hX7_setLength_0 10 rfl) (by decide) (fun hc18 => ?_) (fun hc18 => ?_)
    · have hF := z_neg hc18 hF
      refine lv_aload_n hx hb (z_d hX7_setLength_0 15 rfl) rfl (lv_at hl 0 rfl) ?_
      refine z_bnd hF (fun q3 hq3 hF => ?_)
      refine z_mu0 (z_rV (As := []) (rest := []) hx hb hml hown hts vt_X7_hold (c_X7_hold l Z Am M _ hq3) rfl rfl ⟨Nat.le_of_ble_eq_true rfl, Nat.le_of_ble_eq_true rfl⟩ k_m_X7_135 zPmu_blind (z_recv (q := (RX7, TX7, 19)) (ci := 7) (q0 := 0) hK (zP_reg hP 0 rfl) rfl rfl) (z_prem hK hP hD) rfl hl.1 (Nat.le_of_ble_eq_true rfl) (z_d hX7_setLength_0 16 rfl) ⟨Nat.zero_le _, Nat.zero_le _⟩) hS hD (adr_Model _ _ _ _) (fun H locs hP hD hS => ?_)
      have hP : va_P Z.1 vwCl (l_Model Z.2.1 Am q3.1 q3.2.1 q3.2.2.1 q3.2.2.2.1 q3.2.2.2.2.1 q3.2.2.2.2.2.1 q3.2.2.2.2.2.2.1 q3.2.2.2.2.2.2.2.1 q3.2.2.2.2.2.2.2.2.1 q3.2.2.2.2.2.2.2.2.2.1 q3.2.2.2.2.2.2.2.2.2.2.1 q3.2.2.2.2.2.2.2.2.2.2.2.1 q3.2.2.2.2.2.2.2.2.2.2.2.2.1 q3.2.2.2.2.2.2.2.2.2.2.2.2.2.1 q3.2.2.2.2.2.2.2.2.2.2.2.2.2.2.1 q3.2.2.2.2.2.2.2.2.2.2.2.2.2.2.2.1 q3.2.2.2.2.2.2.2.2.2.2.2.2.2.2.2.2.1 q3.2.2.2.2.2.2.2.2.2.2.2.2.2.2.2.2.2.1 q3.2.2.2.2.2.2.2.2.2.2.2.2.2.2.2.2.2.2).flatten H := hP
      have hD : va_D A (l_Model Z.2.1 Am q3.1 q3.2.1 q3.2.2.1 q3.2.2.2.1 q3.2.2.2.2.1 q3.2.2.2.2.2.1 q3.2.2.2.2.2.2.1 q3.2.2.2.2.2.2.2.1 q3.2.2.2.2.2.2.2.2.1 q3.2.2.2.2.2.2.2.2.2.1 q3.2.2.2.2.2.2.2.2.2.2.1 q3.2.2.2.2.2.2.2.2.2.2.2.1 q3.2.2.2.2.2.2.2.2.2.2.2.2.1 q3.2.2.2.2.2.2.2.2.2.2.2.2.2.1 q3.2.2.2.2.2.2.2.2.2.2.2.2.2.2.1 q3.2.2.2.2.2.2.2.2.2.2.2.2.2.2.2.1 q3.2.2.2.2.2.2.2.2.2.2.2.2.2.2.2.2.1 q3.2.2.2.2.2.2.2.2.2.2.2.2.2.2.2.2.2.1 q3.2.2.2.2.2.2.2.2.2.2.2.2.2.2.2.2.2.2).flatten := hD
      refine W.eq (g2 := F0 m 31 ls []) rfl ?_
      refine lv_aload_n hx hb (z_d hX7_setLength_0 17 rfl) rfl (lv_at hl 0 rfl) ?_
      refine lv_iload_n hx hb (z_d hX7_setLength_0 18 rfl) rfl (lv_at hl 1 rfl) ?_
      refine lv_iconst (v := 1) hx hb (z_d hX7_setLength_0 19 rfl) (by decide) ?_
      refine lv_iload_n hx hb (z_d hX7_setLength_0 20 rfl) rfl (lv_at hl 2 rfl) ?_
      refine z_bnd hF (fun q4 hq4 hF => ?_)
      refine z_mu0 (z_rV (As := [.int p1, .int 1, .int p2]) (rest := []) hx hb hml hown hts vt_X7_puts (c_X7_puts l Z Am q3 p1 1 p2 _ hq4) rfl rfl ⟨Nat.le_of_ble_eq_true rfl, Nat.le_of_ble_eq_true rfl⟩ k_m_X7_125 zPmu_blind (z_recv (q := (RX7, TX7, 19)) (ci := 7) (q0 := 0) hK (zP_reg hP 0 rfl) rfl rfl) (z_prem hK hP hD) rfl hl.1 (Nat.le_of_ble_eq_true rfl) (z_d hX7_setLength_0 21 rfl) ⟨Nat.zero_le _, Nat.zero_le _⟩) hS hD (adr_Model _ _ _ _) (fun H locs hP hD hS => ?_)
      have hP : va_P Z.1 vwCl (l_Model Z.2.1 Am q4.1 q4.2.1 q4.2.2.1 q4.2.2.2.1 q4.2.2.2.2.1 q4.2.2.2.2.2.1 q4.2.2.2.2.2.2.1 q4.2.2.2.2.2.2.2.1 q4.2.2.2.2.2.2.2.2.1 q4.2.2.2.2.2.2.2.2.2.1 q4.2.2.2.2.2.2.2.2.2.2.1 q4.2.2.2.2.2.2.2.2.2.2.2.1 q4.2.2.2.2.2.2.2.2.2.2.2.2.1 q4.2.2.2.2.2.2.2.2.2.2.2.2.2.1 q4.2.2.2.2.2.2.2.2.2.2.2.2.2.2.1 q4.2.2.2.2.2.2.2.2.2.2.2.2.2.2.2.1 q4.2.2.2.2.2.2.2.2.2.2.2.2.2.2.2.2.1 q4.2.2.2.2.2.2.2.2.2.2.2.2.2.2.2.2.2.1 q4.2.2.2.2.2.2.2.2.2.2.2.2.2.2.2.2.2.2).flatten H := hP
      have hD : va_D A (l_Model Z.2.1 Am q4.1 q4.2.1 q4.2.2.1 q4.2.2.2.1 q4.2.2.2.2.1 q4.2.2.2.2.2.1 q4.2.2.2.2.2.2.1 q4.2.2.2.2.2.2.2.1 q4.2.2.2.2.2.2.2.2.1 q4.2.2.2.2.2.2.2.2.2.1 q4.2.2.2.2.2.2.2.2.2.2.1 q4.2.2.2.2.2.2.2.2.2.2.2.1 q4.2.2.2.2.2.2.2.2.2.2.2.2.1 q4.2.2.2.2.2.2.2.2.2.2.2.2.2.1 q4.2.2.2.2.2.2.2.2.2.2.2.2.2.2.1 q4.2.2.2.2.2.2.2.2.2.2.2.2.2.2.2.1 q4.2.2.2.2.2.2.2.2.2.2.2.2.2.2.2.2.1 q4.2.2.2.2.2.2.2.2.2.2.2.2.2.2.2.2.2.1 q4.2.2.2.2.2.2.2.2.2.2.2.2.2.2.2.2.2.2).flatten := hD
      refine W.eq (g2 := F0 m 38 ls []) rfl ?_
      refine lv_aload_n hx hb (z_d hX7_setLength_0 22 rfl) rfl (lv_at hl 0 rfl) ?_
      refine lv_aload_n hx hb (z_d hX7_setLength_0 23 rfl) rfl (lv_at hl 0 rfl) ?_
      refine lv_iload_n hx hb (z_d hX7_setLength_0 24 rfl) rfl (lv_at hl 1 rfl) ?_
      refine z_bnd hF (fun q5 hq5 hF => ?_)
      refine z_ro_i (z_rV (As := [.int p1]) (rest := [.ref (Am 0)]) hx hb hml hown hts vt_X7_lines (c_X7_lines l Z Am q4 p1 _ hq5) rfl rfl ⟨Nat.le_of_ble_eq_true rfl, Nat.le_of_ble_eq_true rfl⟩ k_m_X7_69 zPro_blind (z_recv (q := (RX7, TX7, 19)) (ci := 7) (q0 := 0) hK (zP_reg hP 0 rfl) rfl rfl) (z_prec hK hP) rfl hl.1 (Nat.le_of_ble_eq_true rfl) (z_d hX7_setLength_0 25 rfl) ⟨Nat.zero_le _, Nat.zero_le _⟩) hS hP (fun H locs hP hS => ?_)
      refine z_bnd hF (fun q6 hq6 hF => ?_)
      refine z_mu0 (z_rV (As := [.int q5]) (rest := []) hx hb hml hown hts vt_X7_ends (c_X7_ends l Z Am q4 q5 _ hq6) rfl rfl ⟨Nat.le_of_ble_eq_true rfl, Nat.le_of_ble_eq_true rfl⟩ k_m_X7_146 zPmu_blind (z_recv (q := (RX7, TX7, 19)) (ci := 7) (q0 := 0) hK (zP_reg hP 0 rfl) rfl rfl) (z_prem hK hP hD) rfl hl.1 (Nat.le_of_ble_eq_true rfl) (z_d hX7_setLength_0 26 rfl) ⟨Nat.zero_le _, Nat.zero_le _⟩) hS hD (adr_Model _ _ _ _) (fun H locs hP hD hS => ?_)
      have hP : va_P Z.1 vwCl (l_Model Z.2.1 Am q6.2.1 q6.2.2.1 q6.2.2.2.1 q6.2.2.2.2.1 q6.2.2.2.2.2.1 q6.2.2.2.2.2.2.1 q6.2.2.2.2.2.2.2.1 q6.2.2.2.2.2.2.2.2.1 q6.2.2.2.2.2.2.2.2.2.1 q6.2.2.2.2.2.2.2.2.2.2.1 q6.2.2.2.2.2.2.2.2.2.2.2.1 q6.2.2.2.2.2.2.2.2.2.2.2.2.1 q6.2.2.2.2.2.2.2.2.2.2.2.2.2.1 q6.2.2.2.2.2.2.2.2.2.2.2.2.2.2.1 q6.2.2.2.2.2.2.2.2.2.2.2.2.2.2.2.1 q6.2.2.2.2.2.2.2.2.2.2.2.2.2.2.2.2.1 q6.2.2.2.2.2.2.2.2.2.2.2.2.2.2.2.2.2.1 q6.2.2.2.2.2.2.2.2.2.2.2.2.2.2.2.2.2.2.1 q6.2.2.2.2.2.2.2.2.2.2.2.2.2.2.2.2.2.2.2).flatten H := hP
      have hD : va_D A (l_Model Z.2.1 Am q6.2.1 q6.2.2.1 q6.2.2.2.1 q6.2.2.2.2.1 q6.2.2.2.2.2.1 q6.2.2.2.2.2.2.1 q6.2.2.2.2.2.2.2.1 q6.2.2.2.2.2.2.2.2.1 q6.2.2.2.2.2.2.2.2.2.1 q6.2.2.2.2.2.2.2.2.2.2.1 q6.2.2.2.2.2.2.2.2.2.2.2.1 q6.2.2.2.2.2.2.2.2.2.2.2.2.1 q6.2.2.2.2.2.2.2.2.2.2.2.2.2.1 q6.2.2.2.2.2.2.2.2.2.2.2.2.2.2.1 q6.2.2.2.2.2.2.2.2.2.2.2.2.2.2.2.1 q6.2.2.2.2.2.2.2.2.2.2.2.2.2.2.2.2.1 q6.2.2.2.2.2.2.2.2.2.2.2.2.2.2.2.2.2.1 q6.2.2.2.2.2.2.2.2.2.2.2.2.2.2.2.2.2.2.1 q6.2.2.2.2.2.2.2.2.2.2.2.2.2.2.2.2.2.2.2).flatten := hD
      refine W.eq (g2 := F0 m 47 ls [.int q6.1]) rfl ?_
      obtain rfl := Option.some.inj hF
      subst hQ
      subst hA
      exact W.iret hx hb hr (fun t ht hW => zq_mu (by rw [ht]; exact hP) (hS.F ht)) hS.2.2 (z_d hX7_setLength_0 27 rfl)
    · have hF := z_pos hc18 hF
      refine lv_aload_n hx hb (z_d hX7_setLength_0 11 rfl) rfl (lv_at hl 0 rfl) ?_
      refine lv_iconst (v := 2) hx hb (z_d hX7_setLength_0 12 rfl) (by decide) ?_
      refine z_let hF (fun q7 hq7 hF => ?_)
      refine z_mu0 (z_rV (As := [.int 2]) (rest := []) hx hb hml hown hts vt_X7_fails (c_X7_fails l Z Am M 2 _ hq7) rfl rfl ⟨Nat.le_of_ble_eq_true rfl, Nat.le_of_ble_eq_true rfl⟩ k_m_X7_129 zPmu_blind (z_recv (q := (RX7, TX7, 19)) (ci := 7) (q0 := 0) hK (zP_reg hP 0 rfl) rfl rfl) (z_prem hK hP hD) rfl hl.1 (Nat.le_of_ble_eq_true rfl) (z_d hX7_setLength_0 13 rfl) ⟨Nat.zero_le _, Nat.zero_le _⟩) hS hD (adr_Model _ _ _ _) (fun H locs hP hD hS => ?_)
      have hP : va_P Z.1 vwCl (l_Model Z.2.1 Am q7.2.1 q7.2.2.1 q7.2.2.2.1 q7.2.2.2.2.1 q7.2.2.2.2.2.1 q7.2.2.2.2.2.2.1 q7.2.2.2.2.2.2.2.1 q7.2.2.2.2.2.2.2.2.1 q7.2.2.2.2.2.2.2.2.2.1 q7.2.2.2.2.2.2.2.2.2.2.1 q7.2.2.2.2.2.2.2.2.2.2.2.1 q7.2.2.2.2.2.2.2.2.2.2.2.2.1 q7.2.2.2.2.2.2.2.2.2.2.2.2.2.1 q7.2.2.2.2.2.2.2.2.2.2.2.2.2.2.1 q7.2.2.2.2.2.2.2.2.2.2.2.2.2.2.2.1 q7.2.2.2.2.2.2.2.2.2.2.2.2.2.2.2.2.1 q7.2.2.2.2.2.2.2.2.2.2.2.2.2.2.2.2.2.1 q7.2.2.2.2.2.2.2.2.2.2.2.2.2.2.2.2.2.2.1 q7.2.2.2.2.2.2.2.2.2.2.2.2.2.2.2.2.2.2.2).flatten H := hP
      have hD : va_D A (l_Model Z.2.1 Am q7.2.1 q7.2.2.1 q7.2.2.2.1 q7.2.2.2.2.1 q7.2.2.2.2.2.1 q7.2.2.2.2.2.2.1 q7.2.2.2.2.2.2.2.1 q7.2.2.2.2.2.2.2.2.1 q7.2.2.2.2.2.2.2.2.2.1 q7.2.2.2.2.2.2.2.2.2.2.1 q7.2.2.2.2.2.2.2.2.2.2.2.1 q7.2.2.2.2.2.2.2.2.2.2.2.2.1 q7.2.2.2.2.2.2.2.2.2.2.2.2.2.1 q7.2.2.2.2.2.2.2.2.2.2.2.2.2.2.1 q7.2.2.2.2.2.2.2.2.2.2.2.2.2.2.2.1 q7.2.2.2.2.2.2.2.2.2.2.2.2.2.2.2.2.1 q7.2.2.2.2.2.2.2.2.2.2.2.2.2.2.2.2.2.1 q7.2.2.2.2.2.2.2.2.2.2.2.2.2.2.2.2.2.2.1 q7.2.2.2.2.2.2.2.2.2.2.2.2.2.2.2.2.2.2.2).flatten := hD
      refine W.eq (g2 := F0 m 26 ls [.int q7.1]) rfl ?_
      obtain rfl := Option.some.inj hF
      subst hQ
      subst hA
      exact W.iret hx hb hr (fun t ht hW => zq_mu (by rw [ht]; exact hP) (hS.F ht)) hS.2.2 (z_d hX7_setLength_0 14 rfl)
  · have hF := z_pos hc5 hF
    refine lv_aload_n hx hb (z_d hX7_setLength_0 4 rfl) rfl (lv_at hl 0 rfl) ?_
    refine lv_iconst (v := 1) hx hb (z_d hX7_setLength_0 5 rfl) (by decide) ?_
    refine z_let hF (fun q8 hq8 hF => ?_)
    refine z_mu0 (z_rV (As := [.int 1]) (rest := []) hx hb hml hown hts vt_X7_fails (c_X7_fails l Z Am M 1 _ hq8) rfl rfl ⟨Nat.le_of_ble_eq_true rfl, Nat.le_of_ble_eq_true rfl⟩ k_m_X7_129 zPmu_blind (z_recv (q := (RX7, TX7, 19)) (ci := 7) (q0 := 0) hK (zP_reg hP 0 rfl) rfl rfl) (z_prem hK hP hD) rfl hl.1 (Nat.le_of_ble_eq_true rfl) (z_d hX7_setLength_0 6 rfl) ⟨Nat.zero_le _, Nat.zero_le _⟩) hS hD (adr_Model _ _ _ _) (fun H locs hP hD hS => ?_)
    have hP : va_P Z.1 vwCl (l_Model Z.2.1 Am q8.2.1 q8.2.2.1 q8.2.2.2.1 q8.2.2.2.2.1 q8.2.2.2.2.2.1 q8.2.2.2.2.2.2.1 q8.2.2.2.2.2.2.2.1 q8.2.2.2.2.2.2.2.2.1 q8.2.2.2.2.2.2.2.2.2.1 q8.2.2.2.2.2.2.2.2.2.2.1 q8.2.2.2.2.2.2.2.2.2.2.2.1 q8.2.2.2.2.2.2.2.2.2.2.2.2.1 q8.2.2.2.2.2.2.2.2.2.2.2.2.2.1 q8.2.2.2.2.2.2.2.2.2.2.2.2.2.2.1 q8.2.2.2.2.2.2.2.2.2.2.2.2.2.2.2.1 q8.2.2.2.2.2.2.2.2.2.2.2.2.2.2.2.2.1 q8.2.2.2.2.2.2.2.2.2.2.2.2.2.2.2.2.2.1 q8.2.2.2.2.2.2.2.2.2.2.2.2.2.2.2.2.2.2.1 q8.2.2.2.2.2.2.2.2.2.2.2.2.2.2.2.2.2.2.2).flatten H := hP
    have hD : va_D A (l_Model Z.2.1 Am q8.2.1 q8.2.2.1 q8.2.2.2.1 q8.2.2.2.2.1 q8.2.2.2.2.2.1 q8.2.2.2.2.2.2.1 q8.2.2.2.2.2.2.2.1 q8.2.2.2.2.2.2.2.2.1 q8.2.2.2.2.2.2.2.2.2.1 q8.2.2.2.2.2.2.2.2.2.2.1 q8.2.2.2.2.2.2.2.2.2.2.2.1 q8.2.2.2.2.2.2.2.2.2.2.2.2.1 q8.2.2.2.2.2.2.2.2.2.2.2.2.2.1 q8.2.2.2.2.2.2.2.2.2.2.2.2.2.2.1 q8.2.2.2.2.2.2.2.2.2.2.2.2.2.2.2.1 q8.2.2.2.2.2.2.2.2.2.2.2.2.2.2.2.2.1 q8.2.2.2.2.2.2.2.2.2.2.2.2.2.2.2.2.2.1 q8.2.2.2.2.2.2.2.2.2.2.2.2.2.2.2.2.2.2.1 q8.2.2.2.2.2.2.2.2.2.2.2.2.2.2.2.2.2.2.2).flatten := hD
    refine W.eq (g2 := F0 m 13 ls [.int q8.1]) rfl ?_
    obtain rfl := Option.some.inj hF
    subst hQ
    subst hA
    exact W.iret hx hb hr (fun t ht hW => zq_mu (by rw [ht]; exact hP) (hS.F ht)) hS.2.2 (z_d hX7_setLength_0 7 rfl)
def rm_X7_setPage : Room := { frames := 2, cells := 0, slots := 0, locals := 43 }
set_option maxRecDepth 100000 in
set_option maxHeartbeats 4000000 in
theorem c_X7_setPage (l : Launch) (Z : zZ) (Am : Nat → Nat) (M : t_Model) (p1 : Int32) (R : Int32 × t_Model) (hF : X7_setPage M p1 = some R) : zMU l yX7_setPage (zw yX7_setPage cX7_setPage 3 (some .int)) rm_X7_setPage Z [.ref (Am 0), .int p1] (w_Model Z.2.1 Am M) (w_Model Z.2.1 Am R.2) (some (.int R.1)) := by
  refine zMU_of (by decide) (Nat.le_of_ble_eq_true rfl) (fun p e s m below meth c hx hb hr hml hown hts hlocks hK A hA Q hQ ls hl hP hD hS => ?_)
  unfold X7_setPage at hF
  have hl : lv_has ls 3 [(0, .ref (Am 0)), (1, .int p1)] := hl
  have hown : s.vm.findClass RX7 = some m.cls := hown
  have hP : va_P Z.1 vwCl (l_Model Z.2.1 Am M.1 M.2.1 M.2.2.1 M.2.2.2.1 M.2.2.2.2.1 M.2.2.2.2.2.1 M.2.2.2.2.2.2.1 M.2.2.2.2.2.2.2.1 M.2.2.2.2.2.2.2.2.1 M.2.2.2.2.2.2.2.2.2.1 M.2.2.2.2.2.2.2.2.2.2.1 M.2.2.2.2.2.2.2.2.2.2.2.1 M.2.2.2.2.2.2.2.2.2.2.2.2.1 M.2.2.2.2.2.2.2.2.2.2.2.2.2.1 M.2.2.2.2.2.2.2.2.2.2.2.2.2.2.1 M.2.2.2.2.2.2.2.2.2.2.2.2.2.2.2.1 M.2.2.2.2.2.2.2.2.2.2.2.2.2.2.2.2.1 M.2.2.2.2.2.2.2.2.2.2.2.2.2.2.2.2.2.1 M.2.2.2.2.2.2.2.2.2.2.2.2.2.2.2.2.2.2).flatten s.heap := hP
  have hD : va_D A (l_Model Z.2.1 Am M.1 M.2.1 M.2.2.1 M.2.2.2.1 M.2.2.2.2.1 M.2.2.2.2.2.1 M.2.2.2.2.2.2.1 M.2.2.2.2.2.2.2.1 M.2.2.2.2.2.2.2.2.1 M.2.2.2.2.2.2.2.2.2.1 M.2.2.2.2.2.2.2.2.2.2.1 M.2.2.2.2.2.2.2.2.2.2.2.1 M.2.2.2.2.2.2.2.2.2.2.2.2.1 M.2.2.2.2.2.2.2.2.2.2.2.2.2.1 M.2.2.2.2.2.2.2.2.2.2.2.2.2.2.1 M.2.2.2.2.2.2.2.2.2.2.2.2.2.2.2.1 M.2.2.2.2.2.2.2.2.2.2.2.2.2.2.2.2.1 M.2.2.2.2.2.2.2.2.2.2.2.2.2.2.2.2.2.1 M.2.2.2.2.2.2.2.2.2.2.2.2.2.2.2.2.2.2).flatten := hD
  refine lv_iload_n hx hb (z_d hX7_setPage_0 0 rfl) rfl (lv_at hl 1 rfl) ?_
  refine z_let hF (fun q1 hq1 hF => ?_)
  refine z_ro_i (z_rS (As := [.int p1]) (rest := []) hx hb hml hown hts vs_X7_isPage (c_X7_isPage l Z p1 _ hq1) rfl rfl ⟨Nat.le_of_ble_eq_true rfl, Nat.le_of_ble_eq_true rfl⟩ k_m_X7_155 zPro_blind (z_prec hK zP_nil) rfl hl.1 (Nat.le_of_ble_eq_true rfl) (z_d hX7_setPage_0 1 rfl) ⟨Nat.zero_le _, Nat.zero_le _⟩) hS hP (fun H locs hP hS => ?_)
  refine lv_if_ne (tgt := 13) hx hb (z_d hX7_setPage_0 2 rfl) (by decide) (fun hc4 => ?_) (fun hc4 => ?_)
  · have hF := z_neg hc4 hF
    refine lv_aload_n hx hb (z_d hX7_setPage_0 7 rfl) rfl (lv_at hl 0 rfl) ?_
    refine z_bnd hF (fun q2 hq2 hF => ?_)
    refine z_mu0 (z_rV (As := []) (rest := []) hx hb hml hown hts vt_X7_hold (c_X7_hold l Z Am M _ hq2) rfl rfl ⟨Nat.le_of_ble_eq_true rfl, Nat.le_of_ble_eq_true rfl⟩ k_m_X7_135 zPmu_blind (z_recv (q := (RX7, TX7, 19)) (ci := 7) (q0 := 0) hK (zP_reg hP 0 rfl) rfl rfl) (z_prem hK hP hD) rfl hl.1 (Nat.le_of_ble_eq_true rfl) (z_d hX7_setPage_0 8 rfl) ⟨Nat.zero_le _, Nat.zero_le _⟩) hS hD (adr_Model _ _ _ _) (fun H locs hP hD hS => ?_)
    have hP : va_P Z.1 vwCl (l_Model Z.2.1 Am q2.1 q2.2.1 q2.2.2.1 q2.2.2.2.1 q2.2.2.2.2.1 q2.2.2.2.2.2.1 q2.2.2.2.2.2.2.1 q2.2.2.2.2.2.2.2.1 q2.2.2.2.2.2.2.2.2.1 q2.2.2.2.2.2.2.2.2.2.1 q2.2.2.2.2.2.2.2.2.2.2.1 q2.2.2.2.2.2.2.2.2.2.2.2.1 q2.2.2.2.2.2.2.2.2.2.2.2.2.1 q2.2.2.2.2.2.2.2.2.2.2.2.2.2.1 q2.2.2.2.2.2.2.2.2.2.2.2.2.2.2.1 q2.2.2.2.2.2.2.2.2.2.2.2.2.2.2.2.1 q2.2.2.2.2.2.2.2.2.2.2.2.2.2.2.2.2.1 q2.2.2.2.2.2.2.2.2.2.2.2.2.2.2.2.2.2.1 q2.2.2.2.2.2.2.2.2.2.2.2.2.2.2.2.2.2.2).flatten H := hP
    have hD : va_D A (l_Model Z.2.1 Am q2.1 q2.2.1 q2.2.2.1 q2.2.2.2.1 q2.2.2.2.2.1 q2.2.2.2.2.2.1 q2.2.2.2.2.2.2.1 q2.2.2.2.2.2.2.2.1 q2.2.2.2.2.2.2.2.2.1 q2.2.2.2.2.2.2.2.2.2.1 q2.2.2.2.2.2.2.2.2.2.2.1 q2.2.2.2.2.2.2.2.2.2.2.2.1 q2.2.2.2.2.2.2.2.2.2.2.2.2.1 q2.2.2.2.2.2.2.2.2.2.2.2.2.2.1 q2.2.2.2.2.2.2.2.2.2.2.2.2.2.2.1 q2.2.2.2.2.2.2.2.2.2.2.2.2.2.2.2.1 q2.2.2.2.2.2.2.2.2.2.2.2.2.2.2.2.2.1 q2.2.2.2.2.2.2.2.2.2.2.2.2.2.2.2.2.2.1 q2.2.2.2.2.2.2.2.2.2.2.2.2.2.2.2.2.2.2).flatten := hD
    refine W.eq (g2 := F0 m 17 ls []) rfl ?_
    refine lv_aload_n hx hb (z_d hX7_setPage_0 9 rfl) rfl (lv_at hl 0 rfl) ?_
    refine va_get (D := Z.1) (ci := 7) (v := .ref (Am 1)) (C := RX7) (T := TX7) (N := 19) hx hb hts zinX7 hown hK.1 (zP_reg hP 0 rfl) 0 rfl rfl 0 (by decide) (hts _ k_f_X7_7) (fun _ h9 => h9) rfl (z_d hX7_setPage_0 10 rfl) ?_
    refine lv_iconst (v := 0) hx hb (z_d hX7_setPage_0 11 rfl) (by decide) ?_
    refine z_ix hF (fun hin hF => ?_)
    refine va_iald (D := Z.1) (f := q2.1) hx hb hK.1 (zP_reg hP 1 rfl) 0 0 rfl rfl hin (z_d hX7_setPage_0 12 rfl) ?_
    refine z_let hF (fun u3 hu3 hF => ?_)
    refine lv_topE hu3 ?_
    refine lv_istore_n (lv' := [(2, .int u3), (0, .ref (Am 0)), (1, .int p1)]) hx hb (z_d hX7_setPage_0 13 rfl) rfl hl (by decide) rfl (fun ls hl => ?_)
    refine lv_aload_n hx hb (z_d hX7_setPage_0 14 rfl) rfl (lv_at hl 1 rfl) ?_
    refine va_get (D := Z.1) (ci := 7) (v := .ref (Am 1)) (C := RX7) (T := TX7) (N := 19) hx hb hts zinX7 hown hK.1 (zP_reg hP 0 rfl) 0 rfl rfl 0 (by decide) (hts _ k_f_X7_7) (fun _ h9 => h9) rfl (z_d hX7_setPage_0 15 rfl) ?_
    refine lv_iconst (v := 0) hx hb (z_d hX7_setPage_0 16 rfl) (by decide) ?_
    refine lv_iload_n hx hb (z_d hX7_setPage_0 17 rfl) rfl (lv_at hl 2 rfl) ?_
    refine z_ix hF (fun hin hF => ?_)
    refine z_let hF (fun g4 hg4 hF => ?_)
    refine z_iast (Z := Z) (L := l_Model Z.2.1 Am q2.1 q2.2.1 q2.2.2.1 q2.2.2.2.1 q2.2.2.2.2.1 q2.2.2.2.2.2.1 q2.2.2.2.2.2.2.1 q2.2.2.2.2.2.2.2.1 q2.2.2.2.2.2.2.2.2.1 q2.2.2.2.2.2.2.2.2.2.1 q2.2.2.2.2.2.2.2.2.2.2.1 q2.2.2.2.2.2.2.2.2.2.2.2.1 q2.2.2.2.2.2.2.2.2.2.2.2.2.1 q2.2.2.2.2.2.2.2.2.2.2.2.2.2.1 q2.2.2.2.2.2.2.2.2.2.2.2.2.2.2.1 q2.2.2.2.2.2.2.2.2.2.2.2.2.2.2.2.1 q2.2.2.2.2.2.2.2.2.2.2.2.2.2.2.2.2.1 q2.2.2.2.2.2.2.2.2.2.2.2.2.2.2.2.2.2.1 q2.2.2.2.2.2.2.2.2.2.2.2.2.2.2.2.2.2.2) (L' := l_Model Z.2.1 Am g4 q2.2.1 q2.2.2.1 q2.2.2.2.1 q2.2.2.2.2.1 q2.2.2.2.2.2.1 q2.2.2.2.2.2.2.1 q2.2.2.2.2.2.2.2.1 q2.2.2.2.2.2.2.2.2.1 q2.2.2.2.2.2.2.2.2.2.1 q2.2.2.2.2.2.2.2.2.2.2.1 q2.2.2.2.2.2.2.2.2.2.2.2.1 q2.2.2.2.2.2.2.2.2.2.2.2.2.1 q2.2.2.2.2.2.2.2.2.2.2.2.2.2.1 q2.2.2.2.2.2.2.2.2.2.2.2.2.2.2.1 q2.2.2.2.2.2.2.2.2.2.2.2.2.2.2.2.1 q2.2.2.2.2.2.2.2.2.2.2.2.2.2.2.2.2.1 q2.2.2.2.2.2.2.2.2.2.2.2.2.2.2.2.2.2.1 q2.2.2.2.2.2.2.2.2.2.2.2.2.2.2.2.2.2.2) (f := q2.1) hx hb hK hP hD hS 1 rfl hin hg4 rfl (z_d hX7_setPage_0 18 rfl) (fun H locs hP hD hS => ?_)
    refine lv_aload_n hx hb (z_d hX7_setPage_0 19 rfl) rfl (lv_at hl 1 rfl) ?_
    refine lv_iload_n hx hb (z_d hX7_setPage_0 20 rfl) rfl (lv_at hl 0 rfl) ?_
    refine z_bnd hF (fun q5 hq5 hF => ?_)
    refine z_mu0 (z_rV (As := [.int u3]) (rest := []) hx hb hml hown hts vt_X7_ends (c_X7_ends l Z Am (g4, q2.2.1, q2.2.2.1, q2.2.2.2.1, q2.2.2.2.2.1, q2.2.2.2.2.2.1, q2.2.2.2.2.2.2.1, q2.2.2.2.2.2.2.2.1, q2.2.2.2.2.2.2.2.2.1, q2.2.2.2.2.2.2.2.2.2.1, q2.2.2.2.2.2.2.2.2.2.2.1, q2.2.2.2.2.2.2.2.2.2.2.2.1, q2.2.2.2.2.2.2.2.2.2.2.2.2.1, q2.2.2.2.2.2.2.2.2.2.2.2.2.2.1, q2.2.2.2.2.2.2.2.2.2.2.2.2.2.2.1, q2.2.2.2.2.2.2.2.2.2.2.2.2.2.2.2.1, q2.2.2.2.2.2.2.2.2.2.2.2.2.2.2.2.2.1, q2.2.2.2.2.2.2.2.2.2.2.2.2.2.2.2.2.2.1, q2.2.2.2.2.2.2.2.2.2.2.2.2.2.2.2.2.2.2) u3 _ hq5) rfl rfl ⟨Nat.le_of_ble_eq_true rfl, Nat.le_of_ble_eq_true rfl⟩ k_m_X7_146 zPmu_blind (z_recv (q := (RX7, TX7, 19)) (ci := 7) (q0 := 0) hK (zP_reg hP 0 rfl) rfl rfl) (z_prem hK hP hD) rfl hl.1 (Nat.le_of_ble_eq_true rfl) (z_d hX7_setPage_0 21 rfl) ⟨Nat.zero_le _, Nat.zero_le _⟩) hS hD (adr_Model _ _ _ _) (fun H locs hP hD hS => ?_)
    have hP : va_P Z.1 vwCl (l_Model Z.2.1 Am q5.2.1 q5.2.2.1 q5.2.2.2.1 q5.2.2.2.2.1 q5.2.2.2.2.2.1 q5.2.2.2.2.2.2.1 q5.2.2.2.2.2.2.2.1 q5.2.2.2.2.2.2.2.2.1 q5.2.2.2.2.2.2.2.2.2.1 q5.2.2.2.2.2.2.2.2.2.2.1 q5.2.2.2.2.2.2.2.2.2.2.2.1 q5.2.2.2.2.2.2.2.2.2.2.2.2.1 q5.2.2.2.2.2.2.2.2.2.2.2.2.2.1 q5.2.2.2.2.2.2.2.2.2.2.2.2.2.2.1 q5.2.2.2.2.2.2.2.2.2.2.2.2.2.2.2.1 q5.2.2.2.2.2.2.2.2.2.2.2.2.2.2.2.2.1 q5.2.2.2.2.2.2.2.2.2.2.2.2.2.2.2.2.2.1 q5.2.2.2.2.2.2.2.2.2.2.2.2.2.2.2.2.2.2.1 q5.2.2.2.2.2.2.2.2.2.2.2.2.2.2.2.2.2.2.2).flatten H := hP
    have hD : va_D A (l_Model Z.2.1 Am q5.2.1 q5.2.2.1 q5.2.2.2.1 q5.2.2.2.2.1 q5.2.2.2.2.2.1 q5.2.2.2.2.2.2.1 q5.2.2.2.2.2.2.2.1 q5.2.2.2.2.2.2.2.2.1 q5.2.2.2.2.2.2.2.2.2.1 q5.2.2.2.2.2.2.2.2.2.2.1 q5.2.2.2.2.2.2.2.2.2.2.2.1 q5.2.2.2.2.2.2.2.2.2.2.2.2.1 q5.2.2.2.2.2.2.2.2.2.2.2.2.2.1 q5.2.2.2.2.2.2.2.2.2.2.2.2.2.2.1 q5.2.2.2.2.2.2.2.2.2.2.2.2.2.2.2.1 q5.2.2.2.2.2.2.2.2.2.2.2.2.2.2.2.2.1 q5.2.2.2.2.2.2.2.2.2.2.2.2.2.2.2.2.2.1 q5.2.2.2.2.2.2.2.2.2.2.2.2.2.2.2.2.2.2.1 q5.2.2.2.2.2.2.2.2.2.2.2.2.2.2.2.2.2.2.2).flatten := hD
    refine W.eq (g2 := F0 m 36 ls [.int q5.1]) rfl ?_
    obtain rfl := Option.some.inj hF
    subst hQ
    subst hA
    exact W.iret hx hb hr (fun t ht hW => zq_mu (by rw [ht]; exact hP) (hS.F ht)) hS.2.2 (z_d hX7_setPage_0 22 rfl)
  · have hF := z_pos hc4 hF
    refine lv_aload_n hx hb (z_d hX7_setPage_0 3 rfl) rfl (lv_at hl 0 rfl) ?_
    refine lv_iconst (v := 1) hx hb (z_d hX7_setPage_0 4 rfl) (by decide) ?_
    refine z_let hF (fun q6 hq6 hF => ?_)
    refine z_mu0 (z_rV (As := [.int 1]) (rest := []) hx hb hml hown hts vt_X7_fails (c_X7_fails l Z Am M 1 _ hq6) rfl rfl ⟨Nat.le_of_ble_eq_true rfl, Nat.le_of_ble_eq_true rfl⟩ k_m_X7_129 zPmu_blind (z_recv (q := (RX7, TX7, 19)) (ci := 7) (q0 := 0) hK (zP_reg hP 0 rfl) rfl rfl) (z_prem hK hP hD) rfl hl.1 (Nat.le_of_ble_eq_true rfl) (z_d hX7_setPage_0 5 rfl) ⟨Nat.zero_le _, Nat.zero_le _⟩) hS hD (adr_Model _ _ _ _) (fun H locs hP hD hS => ?_)
    have hP : va_P Z.1 vwCl (l_Model Z.2.1 Am q6.2.1 q6.2.2.1 q6.2.2.2.1 q6.2.2.2.2.1 q6.2.2.2.2.2.1 q6.2.2.2.2.2.2.1 q6.2.2.2.2.2.2.2.1 q6.2.2.2.2.2.2.2.2.1 q6.2.2.2.2.2.2.2.2.2.1 q6.2.2.2.2.2.2.2.2.2.2.1 q6.2.2.2.2.2.2.2.2.2.2.2.1 q6.2.2.2.2.2.2.2.2.2.2.2.2.1 q6.2.2.2.2.2.2.2.2.2.2.2.2.2.1 q6.2.2.2.2.2.2.2.2.2.2.2.2.2.2.1 q6.2.2.2.2.2.2.2.2.2.2.2.2.2.2.2.1 q6.2.2.2.2.2.2.2.2.2.2.2.2.2.2.2.2.1 q6.2.2.2.2.2.2.2.2.2.2.2.2.2.2.2.2.2.1 q6.2.2.2.2.2.2.2.2.2.2.2.2.2.2.2.2.2.2.1 q6.2.2.2.2.2.2.2.2.2.2.2.2.2.2.2.2.2.2.2).flatten H := hP
    have hD : va_D A (l_Model Z.2.1 Am q6.2.1 q6.2.2.1 q6.2.2.2.1 q6.2.2.2.2.1 q6.2.2.2.2.2.1 q6.2.2.2.2.2.2.1 q6.2.2.2.2.2.2.2.1 q6.2.2.2.2.2.2.2.2.1 q6.2.2.2.2.2.2.2.2.2.1 q6.2.2.2.2.2.2.2.2.2.2.1 q6.2.2.2.2.2.2.2.2.2.2.2.1 q6.2.2.2.2.2.2.2.2.2.2.2.2.1 q6.2.2.2.2.2.2.2.2.2.2.2.2.2.1 q6.2.2.2.2.2.2.2.2.2.2.2.2.2.2.1 q6.2.2.2.2.2.2.2.2.2.2.2.2.2.2.2.1 q6.2.2.2.2.2.2.2.2.2.2.2.2.2.2.2.2.1 q6.2.2.2.2.2.2.2.2.2.2.2.2.2.2.2.2.2.1 q6.2.2.2.2.2.2.2.2.2.2.2.2.2.2.2.2.2.2.1 q6.2.2.2.2.2.2.2.2.2.2.2.2.2.2.2.2.2.2.2).flatten := hD
    refine W.eq (g2 := F0 m 12 ls [.int q6.1]) rfl ?_
    obtain rfl := Option.some.inj hF
    subst hQ
    subst hA
    exact W.iret hx hb hr (fun t ht hW => zq_mu (by rw [ht]; exact hP) (hS.F ht)) hS.2.2 (z_d hX7_setPage_0 6 rfl)
def rm_X7_lockScenes : Room := { frames := 4, cells := 0, slots := 0, locals := 94 }
set_option maxRecDepth 100000 in
set_option maxHeartbeats 4000000 in
theorem c_X7_lockScenes (l : Launch) (Z : zZ) (Am : Nat → Nat) (M : t_Model) (R : Int32 × t_Model) (hF : X7_lockScenes M = some R) : zMU l yX7_lockScenes (zw yX7_lockScenes cX7_lockScenes 4 (some .int)) rm_X7_lockScenes Z [.ref (Am 0)] (w_Model Z.2.1 Am M) (w_Model Z.2.1 Am R.2) (some (.int R.1)) := by
  refine zMU_of (by decide) (Nat.le_of_ble_eq_true rfl) (fun p e s m below meth c hx hb hr hml hown hts hlocks hK A hA Q hQ ls hl hP hD hS => ?_)
  unfold X7_lockScenes at hF
  have hl : lv_has ls 4 [(0, .ref (Am 0))] := hl
  have hown : s.vm.findClass RX7 = some m.cls := hown
  have hP : va_P Z.1 vwCl (l_Model Z.2.1 Am M.1 M.2.1 M.2.2.1 M.2.2.2.1 M.2.2.2.2.1 M.2.2.2.2.2.1 M.2.2.2.2.2.2.1 M.2.2.2.2.2.2.2.1 M.2.2.2.2.2.2.2.2.1 M.2.2.2.2.2.2.2.2.2.1 M.2.2.2.2.2.2.2.2.2.2.1 M.2.2.2.2.2.2.2.2.2.2.2.1 M.2.2.2.2.2.2.2.2.2.2.2.2.1 M.2.2.2.2.2.2.2.2.2.2.2.2.2.1 M.2.2.2.2.2.2.2.2.2.2.2.2.2.2.1 M.2.2.2.2.2.2.2.2.2.2.2.2.2.2.2.1 M.2.2.2.2.2.2.2.2.2.2.2.2.2.2.2.2.1 M.2.2.2.2.2.2.2.2.2.2.2.2.2.2.2.2.2.1 M.2.2.2.2.2.2.2.2.2.2.2.2.2.2.2.2.2.2).flatten s.heap := hP
  have hD : va_D A (l_Model Z.2.1 Am M.1 M.2.1 M.2.2.1 M.2.2.2.1 M.2.2.2.2.1 M.2.2.2.2.2.1 M.2.2.2.2.2.2.1 M.2.2.2.2.2.2.2.1 M.2.2.2.2.2.2.2.2.1 M.2.2.2.2.2.2.2.2.2.1 M.2.2.2.2.2.2.2.2.2.2.1 M.2.2.2.2.2.2.2.2.2.2.2.1 M.2.2.2.2.2.2.2.2.2.2.2.2.1 M.2.2.2.2.2.2.2.2.2.2.2.2.2.1 M.2.2.2.2.2.2.2.2.2.2.2.2.2.2.1 M.2.2.2.2.2.2.2.2.2.2.2.2.2.2.2.1 M.2.2.2.2.2.2.2.2.2.2.2.2.2.2.2.2.1 M.2.2.2.2.2.2.2.2.2.2.2.2.2.2.2.2.2.1 M.2.2.2.2.2.2.2.2.2.2.2.2.2.2.2.2.2.2).flatten := hD
  have L8 : ∀ (x1 : Int32) (n : Nat) (v : t_Model × Int32) (X : t_Model) (hF : zloop (b_X7_lockScenes_8  x1) n v = some X) (H : Heap) (locs : List Loc) (ls : Array Slot) (hP : va_P Z.1 vwCl (l_Model Z.2.1 Am v.1.1 v.1.2.1 v.1.2.2.1 v.1.2.2.2.1 v.1.2.2.2.2.1 v.1.2.2.2.2.2.1 v.1.2.2.2.2.2.2.1 v.1.2.2.2.2.2.2.2.1 v.1.2.2.2.2.2.2.2.2.1 v.1.2.2.2.2.2.2.2.2.2.1 v.1.2.2.2.2.2.2.2.2.2.2.1 v.1.2.2.2.2.2.2.2.2.2.2.2.1 v.1.2.2.2.2.2.2.2.2.2.2.2.2.1 v.1.2.2.2.2.2.2.2.2.2.2.2.2.2.1 v.1.2.2.2.2.2.2.2.2.2.2.2.2.2.2.1 v.1.2.2.2.2.2.2.2.2.2.2.2.2.2.2.2.1 v.1.2.2.2.2.2.2.2.2.2.2.2.2.2.2.2.2.1 v.1.2.2.2.2.2.2.2.2.2.2.2.2.2.2.2.2.2.1 v.1.2.2.2.2.2.2.2.2.2.2.2.2.2.2.2.2.2.2).flatten H) (hD : va_D A (l_Model Z.2.1 Am v.1.1 v.1.2.1 v.1.2.2.1 v.1.2.2.2.1 v.1.2.2.2.2.1 v.1.2.2.2.2.2.1 v.1.2.2.2.2.2.2.1 v.1.2.2.2.2.2.2.2.1 v.1.2.2.2.2.2.2.2.2.1 v.1.2.2.2.2.2.2.2.2.2.1 v.1.2.2.2.2.2.2.2.2.2.2.1 v.1.2.2.2.2.2.2.2.2.2.2.2.1 v.1.2.2.2.2.2.2.2.2.2.2.2.2.1 v.1.2.2.2.2.2.2.2.2.2.2.2.2.2.1 v.1.2.2.2.2.2.2.2.2.2.2.2.2.2.2.1 v.1.2.2.2.2.2.2.2.2.2.2.2.2.2.2.2.1 v.1.2.2.2.2.2.2.2.2.2.2.2.2.2.2.2.2.1 v.1.2.2.2.2.2.2.2.2.2.2.2.2.2.2.2.2.2.1 v.1.2.2.2.2.2.2.2.2.2.2.2.2.2.2.2.2.2.2).flatten) (hS : va_S A s.heap H locs) (hl : lv_has ls 4 [(0, .ref (Am 0)), (1, .int x1), (2, .int v.2)]) (K1 : ∀ (H : Heap) (locs : List Loc) (ls : Array Slot) (hP : va_P Z.1 vwCl (l_Model Z.2.1 Am X.1 X.2.1 X.2.2.1 X.2.2.2.1 X.2.2.2.2.1 X.2.2.2.2.2.1 X.2.2.2.2.2.2.1 X.2.2.2.2.2.2.2.1 X.2.2.2.2.2.2.2.2.1 X.2.2.2.2.2.2.2.2.2.1 X.2.2.2.2.2.2.2.2.2.2.1 X.2.2.2.2.2.2.2.2.2.2.2.1 X.2.2.2.2.2.2.2.2.2.2.2.2.1 X.2.2.2.2.2.2.2.2.2.2.2.2.2.1 X.2.2.2.2.2.2.2.2.2.2.2.2.2.2.1 X.2.2.2.2.2.2.2.2.2.2.2.2.2.2.2.1 X.2.2.2.2.2.2.2.2.2.2.2.2.2.2.2.2.1 X.2.2.2.2.2.2.2.2.2.2.2.2.2.2.2.2.2.1 X.2.2.2.2.2.2.2.2.2.2.2.2.2.2.2.2.2.2).flatten H) (hD : va_D A (l_Model Z.2.1 Am X.1 X.2.1 X.2.2.1 X.2.2.2.1 X.2.2.2.2.1 X.2.2.2.2.2.1 X.2.2.2.2.2.2.1 X.2.2.2.2.2.2.2.1 X.2.2.2.2.2.2.2.2.1 X.2.2.2.2.2.2.2.2.2.1 X.2.2.2.2.2.2.2.2.2.2.1 X.2.2.2.2.2.2.2.2.2.2.2.1 X.2.2.2.2.2.2.2.2.2.2.2.2.1 X.2.2.2.2.2.2.2.2.2.2.2.2.2.1 X.2.2.2.2.2.2.2.2.2.2.2.2.2.2.1 X.2.2.2.2.2.2.2.2.2.2.2.2.2.2.2.1 X.2.2.2.2.2.2.2.2.2.2.2.2.2.2.2.2.1 X.2.2.2.2.2.2.2.2.2.2.2.2.2.2.2.2.2.1 X.2.2.2.2.2.2.2.2.2.2.2.2.2.2.2.2.2.2).flatten) (hS : va_S A s.heap H locs) (hl : lv_has ls 4 [(0, .ref (Am 0)), (1, .int x1)]), W p l e rm_X7_lockScenes s m ([.ref (Am 0)] : List Value).toArray below meth c H locs 0 0 Q (F0 m 56 ls [])), W p l e rm_X7_lockScenes s m ([.ref (Am 0)] : List Value).toArray below meth c H locs 0 0 Q (F0 m 8 ls []) := by
    intro x1
    refine z_loopE (fun rec ih v X hF H locs ls hP hD hS hl K1 => ?_)
    unfold b_X7_lockScenes_8 at hF
    refine lv_iload_n hx hb (z_d hX7_lockScenes_0 6 rfl) rfl (lv_at hl 2 rfl) ?_
    refine lv_iconst (v := 3) hx hb (z_d hX7_lockScenes_0 7 rfl) (by decide) ?_
    refine lv_aload_n hx hb (z_d hX7_lockScenes_0 8 rfl) rfl (lv_at hl 0 rfl) ?_
    refine va_get (D := Z.1) (ci := 7) (v := .ref (Am 1)) (C := RX7) (T := TX7) (N := 19) hx hb hts zinX7 hown hK.1 (zP_reg hP 0 rfl) 0 rfl rfl 0 (by decide) (hts _ k_f_X7_7) (fun _ h9 => h9) rfl (z_d hX7_lockScenes_0 9 rfl) ?_
    refine lv_iconst (v := 1) hx hb (z_d hX7_lockScenes_0 10 rfl) (by decide) ?_
    refine z_ix hF (fun hin hF => ?_)
    refine va_iald (D := Z.1) (f := v.1.1) hx hb hK.1 (zP_reg hP 1 rfl) 0 0 rfl rfl hin (z_d hX7_lockScenes_0 11 rfl) ?_
    refine z_let hF (fun u2 hu2 hF => ?_)
    refine lv_topE hu2 ?_
    refine lv_imul hx hb (z_d hX7_lockScenes_0 12 rfl) ?_
    refine z_let hF (fun u3 hu3 hF => ?_)
    refine lv_topE hu3 ?_
    refine lv_icmp_ge (tgt := 56) hx hb (z_d hX7_lockScenes_0 13 rfl) (by decide) (fun hc17 => ?_) (fun hc17 => ?_)
    · have hF := z_pos hc17 hF
      obtain rfl := Option.some.inj hF
      exact K1 _ _ ls hP hD hS (lv_sub hl [0, 1] rfl)
    · have hF := z_neg hc17 hF
      refine lv_aload_n hx hb (z_d hX7_lockScenes_0 14 rfl) rfl (lv_at hl 0 rfl) ?_
      refine va_get (D := Z.1) (ci := 7) (v := .ref (Am 11)) (C := RX7) (T := TX7) (N := 19) hx hb hts zinX7 hown hK.1 (zP_reg hP 0 rfl) 0 rfl rfl 15 (by decide) (hts _ k_f_X7_40) (fun _ h9 => h9) rfl (z_d hX7_lockScenes_0 15 rfl) ?_
      refine lv_iload_n hx hb (z_d hX7_lockScenes_0 16 rfl) rfl (lv_at hl 2 rfl) ?_
      refine lv_aload_n hx hb (z_d hX7_lockScenes_0 17 rfl) rfl (lv_at hl 0 rfl) ?_
      refine lv_iload_n hx hb (z_d hX7_lockScenes_0 18 rfl) rfl (lv_at hl 2 rfl) ?_
      refine lv_iconst (v := 3) hx hb (z_d hX7_lockScenes_0 19 rfl) (by decide) ?_
      refine lv_idiv hx hb (z_d hX7_lockScenes_0 20 rfl) (by decide) ?_
      refine z_let hF (fun u4 hu4 hF => ?_)
      refine lv_topE hu4 ?_
      refine z_bnd hF (fun q5 hq5 hF => ?_)
      refine z_ro_i (z_rV (As := [.int u4]) (rest := [.int v.2, .ref (Am 11)]) hx hb hml hown hts vt_X7_isHeading (c_X7_isHeading l Z Am v.1 u4 _ hq5) rfl rfl ⟨Nat.le_of_ble_eq_true rfl, Nat.le_of_ble_eq_true rfl⟩ k_m_X7_76 zPro_blind (z_recv (q := (RX7, TX7, 19)) (ci := 7) (q0 := 0) hK (zP_reg hP 0 rfl) rfl rfl) (z_prec hK hP) rfl hl.1 (Nat.le_of_ble_eq_true rfl) (z_d hX7_lockScenes_0 21 rfl) ⟨Nat.zero_le _, Nat.zero_le _⟩) hS hP (fun H locs hP hS => ?_)
      refine lv_if_eq (tgt := 48) hx hb (z_d hX7_lockScenes_0 22 rfl) (by decide) (fun hc32 => ?_) (fun hc32 => ?_)
      · have hF := z_pos hc32 hF
        refine lv_iconst (v := 0) hx hb (z_d hX7_lockScenes_0 32 rfl) (by decide) ?_
        refine z_ix hF (fun hin hF => ?_)
        refine z_let hF (fun g6 hg6 hF => ?_)
        refine z_iast (Z := Z) (L := l_Model Z.2.1 Am v.1.1 v.1.2.1 v.1.2.2.1 v.1.2.2.2.1 v.1.2.2.2.2.1 v.1.2.2.2.2.2.1 v.1.2.2.2.2.2.2.1 v.1.2.2.2.2.2.2.2.1 v.1.2.2.2.2.2.2.2.2.1 v.1.2.2.2.2.2.2.2.2.2.1 v.1.2.2.2.2.2.2.2.2.2.2.1 v.1.2.2.2.2.2.2.2.2.2.2.2.1 v.1.2.2.2.2.2.2.2.2.2.2.2.2.1 v.1.2.2.2.2.2.2.2.2.2.2.2.2.2.1 v.1.2.2.2.2.2.2.2.2.2.2.2.2.2.2.1 v.1.2.2.2.2.2.2.2.2.2.2.2.2.2.2.2.1 v.1.2.2.2.2.2.2.2.2.2.2.2.2.2.2.2.2.1 v.1.2.2.2.2.2.2.2.2.2.2.2.2.2.2.2.2.2.1 v.1.2.2.2.2.2.2.2.2.2.2.2.2.2.2.2.2.2.2) (L' := l_Model Z.2.1 Am v.1.1 v.1.2.1 v.1.2.2.1 v.1.2.2.2.1 v.1.2.2.2.2.1 v.1.2.2.2.2.2.1 v.1.2.2.2.2.2.2.1 v.1.2.2.2.2.2.2.2.1 v.1.2.2.2.2.2.2.2.2.1 v.1.2.2.2.2.2.2.2.2.2.1 v.1.2.2.2.2.2.2.2.2.2.2.1 v.1.2.2.2.2.2.2.2.2.2.2.2.1 v.1.2.2.2.2.2.2.2.2.2.2.2.2.1 v.1.2.2.2.2.2.2.2.2.2.2.2.2.2.1 v.1.2.2.2.2.2.2.2.2.2.2.2.2.2.2.1 g6 v.1.2.2.2.2.2.2.2.2.2.2.2.2.2.2.2.2.1 v.1.2.2.2.2.2.2.2.2.2.2.2.2.2.2.2.2.2.1 v.1.2.2.2.2.2.2.2.2.2.2.2.2.2.2.2.2.2.2) (f := v.1.2.2.2.2.2.2.2.2.2.2.2.2.2.2.2.1) hx hb hK hP hD hS 11 rfl hin hg6 rfl (z_d hX7_lockScenes_0 33 rfl) (fun H locs hP hD hS => ?_)
        refine z_let hF (fun u7 hu7 hF => ?_)
        refine lv_iinc (v := u7) (lv' := [(2, .int u7), (0, .ref (Am 0)), (1, .int x1)]) hx hb (z_d hX7_lockScenes_0 34 rfl) hl (k := 2) rfl (z_inc1 hu7) (by decide) rfl (fun ls hl => ?_)
        refine lv_goto (tgt := 8) hx hb (z_d hX7_lockScenes_0 35 rfl) (by decide) ?_
        exact ih _ _ hF _ _ ls hP hD hS (lv_sub hl [1, 2, 0] rfl) K1
      · have hF := z_neg hc32 hF
        refine lv_aload_n hx hb (z_d hX7_lockScenes_0 23 rfl) rfl (lv_at hl 0 rfl) ?_
        refine lv_iload_n hx hb (z_d hX7_lockScenes_0 24 rfl) rfl (lv_at hl 2 rfl) ?_
        refine lv_iconst (v := 3) hx hb (z_d hX7_lockScenes_0 25 rfl) (by decide) ?_
        refine lv_idiv hx hb (z_d hX7_lockScenes_0 26 rfl) (by decide) ?_
        refine z_let hF (fun u8 hu8 hF => ?_)
        refine lv_topE hu8 ?_
        refine lv_iload_n hx hb (z_d hX7_lockScenes_0 27 rfl) rfl (lv_at hl 2 rfl) ?_
        refine lv_iconst (v := 3) hx hb (z_d hX7_lockScenes_0 28 rfl) (by decide) ?_
        refine lv_irem hx hb (z_d hX7_lockScenes_0 29 rfl) (by decide) ?_
        refine z_let hF (fun u9 hu9 hF => ?_)
        refine lv_topE hu9 ?_
        refine z_bnd hF (fun q10 hq10 hF => ?_)
        refine z_ro_i (z_rV (As := [.int u8, .int u9]) (rest := [.int v.2, .ref (Am 11)]) hx hb hml hown hts vt_X7_label (c_X7_label l Z Am v.1 u8 u9 _ hq10) rfl rfl ⟨Nat.le_of_ble_eq_true rfl, Nat.le_of_ble_eq_true rfl⟩ k_m_X7_91 zPro_blind (z_recv (q := (RX7, TX7, 19)) (ci := 7) (q0 := 0) hK (zP_reg hP 0 rfl) rfl rfl) (z_prec hK hP) rfl hl.1 (Nat.le_of_ble_eq_true rfl) (z_d hX7_lockScenes_0 30 rfl) ⟨Nat.zero_le _, Nat.zero_le _⟩) hS hP (fun H locs hP hS => ?_)
        refine lv_goto (tgt := 49) hx hb (z_d hX7_lockScenes_0 31 rfl) (by decide) ?_
        refine z_ix hF (fun hin hF => ?_)
        refine z_let hF (fun g11 hg11 hF => ?_)
        refine z_iast (Z := Z) (L := l_Model Z.2.1 Am v.1.1 v.1.2.1 v.1.2.2.1 v.1.2.2.2.1 v.1.2.2.2.2.1 v.1.2.2.2.2.2.1 v.1.2.2.2.2.2.2.1 v.1.2.2.2.2.2.2.2.1 v.1.2.2.2.2.2.2.2.2.1 v.1.2.2.2.2.2.2.2.2.2.1 v.1.2.2.2.2.2.2.2.2.2.2.1 v.1.2.2.2.2.2.2.2.2.2.2.2.1 v.1.2.2.2.2.2.2.2.2.2.2.2.2.1 v.1.2.2.2.2.2.2.2.2.2.2.2.2.2.1 v.1.2.2.2.2.2.2.2.2.2.2.2.2.2.2.1 v.1.2.2.2.2.2.2.2.2.2.2.2.2.2.2.2.1 v.1.2.2.2.2.2.2.2.2.2.2.2.2.2.2.2.2.1 v.1.2.2.2.2.2.2.2.2.2.2.2.2.2.2.2.2.2.1 v.1.2.2.2.2.2.2.2.2.2.2.2.2.2.2.2.2.2.2) (L' := l_Model Z.2.1 Am v.1.1 v.1.2.1 v.1.2.2.1 v.1.2.2.2.1 v.1.2.2.2.2.1 v.1.2.2.2.2.2.1 v.1.2.2.2.2.2.2.1 v.1.2.2.2.2.2.2.2.1 v.1.2.2.2.2.2.2.2.2.1 v.1.2.2.2.2.2.2.2.2.2.1 v.1.2.2.2.2.2.2.2.2.2.2.1 v.1.2.2.2.2.2.2.2.2.2.2.2.1 v.1.2.2.2.2.2.2.2.2.2.2.2.2.1 v.1.2.2.2.2.2.2.2.2.2.2.2.2.2.1 v.1.2.2.2.2.2.2.2.2.2.2.2.2.2.2.1 g11 v.1.2.2.2.2.2.2.2.2.2.2.2.2.2.2.2.2.1 v.1.2.2.2.2.2.2.2.2.2.2.2.2.2.2.2.2.2.1 v.1.2.2.2.2.2.2.2.2.2.2.2.2.2.2.2.2.2.2) (f := v.1.2.2.2.2.2.2.2.2.2.2.2.2.2.2.2.1) hx hb hK hP hD hS 11 rfl hin hg11 rfl (z_d hX7_lockScenes_0 33 rfl) (fun H locs hP hD hS => ?_)
        refine z_let hF (fun u12 hu12 hF => ?_)
        refine lv_iinc (v := u12) (lv' := [(2, .int u12), (0, .ref (Am 0)), (1, .int x1)]) hx hb (z_d hX7_lockScenes_0 34 rfl) hl (k := 2) rfl (z_inc1 hu12) (by decide) rfl (fun ls hl => ?_)
        refine lv_goto (tgt := 8) hx hb (z_d hX7_lockScenes_0 35 rfl) (by decide) ?_
        exact ih _ _ hF _ _ ls hP hD hS (lv_sub hl [1, 2, 0] rfl) K1
  have L58 : ∀  (n : Nat) (v : t_Model × Int32 × Int32) (X : t_Model × Int32) (hF : zloop (b_X7_lockScenes_58  ) n v = some X) (H : Heap) (locs : List Loc) (ls : Array Slot) (hP : va_P Z.1 vwCl (l_Model Z.2.1 Am v.1.1 v.1.2.1 v.1.2.2.1 v.1.2.2.2.1 v.1.2.2.2.2.1 v.1.2.2.2.2.2.1 v.1.2.2.2.2.2.2.1 v.1.2.2.2.2.2.2.2.1 v.1.2.2.2.2.2.2.2.2.1 v.1.2.2.2.2.2.2.2.2.2.1 v.1.2.2.2.2.2.2.2.2.2.2.1 v.1.2.2.2.2.2.2.2.2.2.2.2.1 v.1.2.2.2.2.2.2.2.2.2.2.2.2.1 v.1.2.2.2.2.2.2.2.2.2.2.2.2.2.1 v.1.2.2.2.2.2.2.2.2.2.2.2.2.2.2.1 v.1.2.2.2.2.2.2.2.2.2.2.2.2.2.2.2.1 v.1.2.2.2.2.2.2.2.2.2.2.2.2.2.2.2.2.1 v.1.2.2.2.2.2.2.2.2.2.2.2.2.2.2.2.2.2.1 v.1.2.2.2.2.2.2.2.2.2.2.2.2.2.2.2.2.2.2).flatten H) (hD : va_D A (l_Model Z.2.1 Am v.1.1 v.1.2.1 v.1.2.2.1 v.1.2.2.2.1 v.1.2.2.2.2.1 v.1.2.2.2.2.2.1 v.1.2.2.2.2.2.2.1 v.1.2.2.2.2.2.2.2.1 v.1.2.2.2.2.2.2.2.2.1 v.1.2.2.2.2.2.2.2.2.2.1 v.1.2.2.2.2.2.2.2.2.2.2.1 v.1.2.2.2.2.2.2.2.2.2.2.2.1 v.1.2.2.2.2.2.2.2.2.2.2.2.2.1 v.1.2.2.2.2.2.2.2.2.2.2.2.2.2.1 v.1.2.2.2.2.2.2.2.2.2.2.2.2.2.2.1 v.1.2.2.2.2.2.2.2.2.2.2.2.2.2.2.2.1 v.1.2.2.2.2.2.2.2.2.2.2.2.2.2.2.2.2.1 v.1.2.2.2.2.2.2.2.2.2.2.2.2.2.2.2.2.2.1 v.1.2.2.2.2.2.2.2.2.2.2.2.2.2.2.2.2.2.2).flatten) (hS : va_S A s.heap H locs) (hl : lv_has ls 4 [(0, .ref (Am 0)), (1, .int v.2.1), (2, .int v.2.2)]) (K1 : ∀ (H : Heap) (locs : List Loc) (ls : Array Slot) (hP : va_P Z.1 vwCl (l_Model Z.2.1 Am X.1.1 X.1.2.1 X.1.2.2.1 X.1.2.2.2.1 X.1.2.2.2.2.1 X.1.2.2.2.2.2.1 X.1.2.2.2.2.2.2.1 X.1.2.2.2.2.2.2.2.1 X.1.2.2.2.2.2.2.2.2.1 X.1.2.2.2.2.2.2.2.2.2.1 X.1.2.2.2.2.2.2.2.2.2.2.1 X.1.2.2.2.2.2.2.2.2.2.2.2.1 X.1.2.2.2.2.2.2.2.2.2.2.2.2.1 X.1.2.2.2.2.2.2.2.2.2.2.2.2.2.1 X.1.2.2.2.2.2.2.2.2.2.2.2.2.2.2.1 X.1.2.2.2.2.2.2.2.2.2.2.2.2.2.2.2.1 X.1.2.2.2.2.2.2.2.2.2.2.2.2.2.2.2.2.1 X.1.2.2.2.2.2.2.2.2.2.2.2.2.2.2.2.2.2.1 X.1.2.2.2.2.2.2.2.2.2.2.2.2.2.2.2.2.2.2).flatten H) (hD : va_D A (l_Model Z.2.1 Am X.1.1 X.1.2.1 X.1.2.2.1 X.1.2.2.2.1 X.1.2.2.2.2.1 X.1.2.2.2.2.2.1 X.1.2.2.2.2.2.2.1 X.1.2.2.2.2.2.2.2.1 X.1.2.2.2.2.2.2.2.2.1 X.1.2.2.2.2.2.2.2.2.2.1 X.1.2.2.2.2.2.2.2.2.2.2.1 X.1.2.2.2.2.2.2.2.2.2.2.2.1 X.1.2.2.2.2.2.2.2.2.2.2.2.2.1 X.1.2.2.2.2.2.2.2.2.2.2.2.2.2.1 X.1.2.2.2.2.2.2.2.2.2.2.2.2.2.2.1 X.1.2.2.2.2.2.2.2.2.2.2.2.2.2.2.2.1 X.1.2.2.2.2.2.2.2.2.2.2.2.2.2.2.2.2.1 X.1.2.2.2.2.2.2.2.2.2.2.2.2.2.2.2.2.2.1 X.1.2.2.2.2.2.2.2.2.2.2.2.2.2.2.2.2.2.2).flatten) (hS : va_S A s.heap H locs) (hl : lv_has ls 4 [(0, .ref (Am 0)), (1, .int X.2)]), W p l e rm_X7_lockScenes s m ([.ref (Am 0)] : List Value).toArray below meth c H locs 0 0 Q (F0 m 138 ls [])), W p l e rm_X7_lockScenes s m ([.ref (Am 0)] : List Value).toArray below meth c H locs 0 0 Q (F0 m 58 ls []) := by
    skip
    refine z_loopE (fun rec ih v X hF H locs ls hP hD hS hl K1 => ?_)
    unfold b_X7_lockScenes_58 at hF
    have L103 : ∀ (x1 : Int32) (x2 : Int32) (n : Nat) (v : t_Model × Int32) (X : t_Model) (hF : zloop (b_X7_lockScenes_103  x1 x2) n v = some X) (H : Heap) (locs : List Loc) (ls : Array Slot) (hP : va_P Z.1 vwCl (l_Model Z.2.1 Am v.1.1 v.1.2.1 v.1.2.2.1 v.1.2.2.2.1 v.1.2.2.2.2.1 v.1.2.2.2.2.2.1 v.1.2.2.2.2.2.2.1 v.1.2.2.2.2.2.2.2.1 v.1.2.2.2.2.2.2.2.2.1 v.1.2.2.2.2.2.2.2.2.2.1 v.1.2.2.2.2.2.2.2.2.2.2.1 v.1.2.2.2.2.2.2.2.2.2.2.2.1 v.1.2.2.2.2.2.2.2.2.2.2.2.2.1 v.1.2.2.2.2.2.2.2.2.2.2.2.2.2.1 v.1.2.2.2.2.2.2.2.2.2.2.2.2.2.2.1 v.1.2.2.2.2.2.2.2.2.2.2.2.2.2.2.2.1 v.1.2.2.2.2.2.2.2.2.2.2.2.2.2.2.2.2.1 v.1.2.2.2.2.2.2.2.2.2.2.2.2.2.2.2.2.2.1 v.1.2.2.2.2.2.2.2.2.2.2.2.2.2.2.2.2.2.2).flatten H) (hD : va_D A (l_Model Z.2.1 Am v.1.1 v.1.2.1 v.1.2.2.1 v.1.2.2.2.1 v.1.2.2.2.2.1 v.1.2.2.2.2.2.1 v.1.2.2.2.2.2.2.1 v.1.2.2.2.2.2.2.2.1 v.1.2.2.2.2.2.2.2.2.1 v.1.2.2.2.2.2.2.2.2.2.1 v.1.2.2.2.2.2.2.2.2.2.2.1 v.1.2.2.2.2.2.2.2.2.2.2.2.1 v.1.2.2.2.2.2.2.2.2.2.2.2.2.1 v.1.2.2.2.2.2.2.2.2.2.2.2.2.2.1 v.1.2.2.2.2.2.2.2.2.2.2.2.2.2.2.1 v.1.2.2.2.2.2.2.2.2.2.2.2.2.2.2.2.1 v.1.2.2.2.2.2.2.2.2.2.2.2.2.2.2.2.2.1 v.1.2.2.2.2.2.2.2.2.2.2.2.2.2.2.2.2.2.1 v.1.2.2.2.2.2.2.2.2.2.2.2.2.2.2.2.2.2.2).flatten) (hS : va_S A s.heap H locs) (hl : lv_has ls 4 [(0, .ref (Am 0)), (1, .int x1), (2, .int x2), (3, .int v.2)]) (K1 : ∀ (H : Heap) (locs : List Loc) (ls : Array Slot) (hP : va_P Z.1 vwCl (l_Model Z.2.1 Am X.1 X.2.1 X.2.2.1 X.2.2.2.1 X.2.2.2.2.1 X.2.2.2.2.2.1 X.2.2.2.2.2.2.1 X.2.2.2.2.2.2.2.1 X.2.2.2.2.2.2.2.2.1 X.2.2.2.2.2.2.2.2.2.1 X.2.2.2.2.2.2.2.2.2.2.1 X.2.2.2.2.2.2.2.2.2.2.2.1 X.2.2.2.2.2.2.2.2.2.2.2.2.1 X.2.2.2.2.2.2.2.2.2.2.2.2.2.1 X.2.2.2.2.2.2.2.2.2.2.2.2.2.2.1 X.2.2.2.2.2.2.2.2.2.2.2.2.2.2.2.1 X.2.2.2.2.2.2.2.2.2.2.2.2.2.2.2.2.1 X.2.2.2.2.2.2.2.2.2.2.2.2.2.2.2.2.2.1 X.2.2.2.2.2.2.2.2.2.2.2.2.2.2.2.2.2.2).flatten H) (hD : va_D A (l_Model Z.2.1 Am X.1 X.2.1 X.2.2.1 X.2.2.2.1 X.2.2.2.2.1 X.2.2.2.2.2.1 X.2.2.2.2.2.2.1 X.2.2.2.2.2.2.2.1 X.2.2.2.2.2.2.2.2.1 X.2.2.2.2.2.2.2.2.2.1 X.2.2.2.2.2.2.2.2.2.2.1 X.2.2.2.2.2.2.2.2.2.2.2.1 X.2.2.2.2.2.2.2.2.2.2.2.2.1 X.2.2.2.2.2.2.2.2.2.2.2.2.2.1 X.2.2.2.2.2.2.2.2.2.2.2.2.2.2.1 X.2.2.2.2.2.2.2.2.2.2.2.2.2.2.2.1 X.2.2.2.2.2.2.2.2.2.2.2.2.2.2.2.2.1 X.2.2.2.2.2.2.2.2.2.2.2.2.2.2.2.2.2.1 X.2.2.2.2.2.2.2.2.2.2.2.2.2.2.2.2.2.2).flatten) (hS : va_S A s.heap H locs) (hl : lv_has ls 4 [(0, .ref (Am 0)), (1, .int x1), (2, .int x2)]), W p l e rm_X7_lockScenes s m ([.ref (Am 0)] : List Value).toArray below meth c H locs 0 0 Q (F0 m 132 ls [])), W p l e rm_X7_lockScenes s m ([.ref (Am 0)] : List Value).toArray below meth c H locs 0 0 Q (F0 m 103 ls []) := by
      intro x1 x2
      refine z_loopE (fun rec ih v X hF H locs ls hP hD hS hl K1 => ?_)
      unfold b_X7_lockScenes_103 at hF
      refine lv_iload_n hx hb (z_d hX7_lockScenes_1 7 rfl) rfl (lv_at hl 3 rfl) ?_
      refine lv_iconst (v := 3) hx hb (z_d hX7_lockScenes_1 8 rfl) (by decide) ?_
      refine lv_icmp_ge (tgt := 132) hx hb (z_d hX7_lockScenes_1 9 rfl) (by decide) (fun hc105 => ?_) (fun hc105 => ?_)
      · have hF := z_pos hc105 hF
        obtain rfl := Option.some.inj hF
        exact K1 _ _ ls hP hD hS (lv_sub hl [0, 1, 2] rfl)
      · have hF := z_neg hc105 hF
        refine lv_aload_n hx hb (z_d hX7_lockScenes_1 10 rfl) rfl (lv_at hl 0 rfl) ?_
        refine lv_iload_n hx hb (z_d hX7_lockScenes_1 11 rfl) rfl (lv_at hl 2 rfl) ?_
        refine lv_iconst (v := 5) hx hb (z_d hX7_lockScenes_1 12 rfl) (by decide) ?_
        refine lv_iload_n hx hb (z_d hX7_lockScenes_1 13 rfl) rfl (lv_at hl 3 rfl) ?_
        refine lv_iadd hx hb (z_d hX7_lockScenes_1 14 rfl) ?_
        refine z_let hF (fun u20 hu20 hF => ?_)
        refine lv_topE hu20 ?_
        refine lv_aload_n hx hb (z_d hX7_lockScenes_1 15 rfl) rfl (lv_at hl 0 rfl) ?_
        refine va_get (D := Z.1) (ci := 7) (v := .ref (Am 11)) (C := RX7) (T := TX7) (N := 19) hx hb hts zinX7 hown hK.1 (zP_reg hP 0 rfl) 0 rfl rfl 15 (by decide) (hts _ k_f_X7_40) (fun _ h9 => h9) rfl (z_d hX7_lockScenes_1 16 rfl) ?_
        refine lv_iconst (v := 3) hx hb (z_d hX7_lockScenes_1 17 rfl) (by decide) ?_
        refine lv_iload_n hx hb (z_d hX7_lockScenes_1 18 rfl) rfl (lv_at hl 2 rfl) ?_
        refine lv_imul hx hb (z_d hX7_lockScenes_1 19 rfl) ?_
        refine z_let hF (fun u21 hu21 hF => ?_)
        refine lv_topE hu21 ?_
        refine lv_iload_n hx hb (z_d hX7_lockScenes_1 20 rfl) rfl (lv_at hl 3 rfl) ?_
        refine lv_iadd hx hb (z_d hX7_lockScenes_1 21 rfl) ?_
        refine z_let hF (fun u22 hu22 hF => ?_)
        refine lv_topE hu22 ?_
        refine z_ix hF (fun hin hF => ?_)
        refine va_iald (D := Z.1) (f := v.1.2.2.2.2.2.2.2.2.2.2.2.2.2.2.2.1) hx hb hK.1 (zP_reg hP 11 rfl) 0 0 rfl rfl hin (z_d hX7_lockScenes_1 22 rfl) ?_
        refine z_let hF (fun u23 hu23 hF => ?_)
        refine lv_topE hu23 ?_
        refine z_bnd hF (fun q24 hq24 hF => ?_)
        refine z_mu0 (z_rV (As := [.int x2, .int u20, .int u23]) (rest := []) hx hb hml hown hts vt_X7_puts (c_X7_puts l Z Am v.1 x2 u20 u23 _ hq24) rfl rfl ⟨Nat.le_of_ble_eq_true rfl, Nat.le_of_ble_eq_true rfl⟩ k_m_X7_125 zPmu_blind (z_recv (q := (RX7, TX7, 19)) (ci := 7) (q0 := 0) hK (zP_reg hP 0 rfl) rfl rfl) (z_prem hK hP hD) rfl hl.1 (Nat.le_of_ble_eq_true rfl) (z_d hX7_lockScenes_1 23 rfl) ⟨Nat.zero_le _, Nat.zero_le _⟩) hS hD (adr_Model _ _ _ _) (fun H locs hP hD hS => ?_)
        have hP : va_P Z.1 vwCl (l_Model Z.2.1 Am q24.1 q24.2.1 q24.2.2.1 q24.2.2.2.1 q24.2.2.2.2.1 q24.2.2.2.2.2.1 q24.2.2.2.2.2.2.1 q24.2.2.2.2.2.2.2.1 q24.2.2.2.2.2.2.2.2.1 q24.2.2.2.2.2.2.2.2.2.1 q24.2.2.2.2.2.2.2.2.2.2.1 q24.2.2.2.2.2.2.2.2.2.2.2.1 q24.2.2.2.2.2.2.2.2.2.2.2.2.1 q24.2.2.2.2.2.2.2.2.2.2.2.2.2.1 q24.2.2.2.2.2.2.2.2.2.2.2.2.2.2.1 q24.2.2.2.2.2.2.2.2.2.2.2.2.2.2.2.1 q24.2.2.2.2.2.2.2.2.2.2.2.2.2.2.2.2.1 q24.2.2.2.2.2.2.2.2.2.2.2.2.2.2.2.2.2.1 q24.2.2.2.2.2.2.2.2.2.2.2.2.2.2.2.2.2.2).flatten H := hP
        have hD : va_D A (l_Model Z.2.1 Am q24.1 q24.2.1 q24.2.2.1 q24.2.2.2.1 q24.2.2.2.2.1 q24.2.2.2.2.2.1 q24.2.2.2.2.2.2.1 q24.2.2.2.2.2.2.2.1 q24.2.2.2.2.2.2.2.2.1 q24.2.2.2.2.2.2.2.2.2.1 q24.2.2.2.2.2.2.2.2.2.2.1 q24.2.2.2.2.2.2.2.2.2.2.2.1 q24.2.2.2.2.2.2.2.2.2.2.2.2.1 q24.2.2.2.2.2.2.2.2.2.2.2.2.2.1 q24.2.2.2.2.2.2.2.2.2.2.2.2.2.2.1 q24.2.2.2.2.2.2.2.2.2.2.2.2.2.2.2.1 q24.2.2.2.2.2.2.2.2.2.2.2.2.2.2.2.2.1 q24.2.2.2.2.2.2.2.2.2.2.2.2.2.2.2.2.2.1 q24.2.2.2.2.2.2.2.2.2.2.2.2.2.2.2.2.2.2).flatten := hD
        refine W.eq (g2 := F0 m 126 ls []) rfl ?_
        refine z_let hF (fun u25 hu25 hF => ?_)
        refine lv_iinc (v := u25) (lv' := [(3, .int u25), (0, .ref (Am 0)), (1, .int x1), (2, .int x2)]) hx hb (z_d hX7_lockScenes_1 24 rfl) hl (k := 3) rfl (z_inc1 hu25) (by decide) rfl (fun ls hl => ?_)
        refine lv_goto (tgt := 103) hx hb (z_d hX7_lockScenes_1 25 rfl) (by decide) ?_
        exact ih _ _ hF _ _ ls hP hD hS (lv_sub hl [1, 2, 3, 0] rfl) K1
    have J92 : ∀ (M : t_Model) (x2 : Int32) (z0 : Int32) (z1 : Int32) (hF : j_X7_lockScenes_92 rec M x2 z0 z1 = some X) (H : Heap) (locs : List Loc) (ls : Array Slot) (hP : va_P Z.1 vwCl (l_Model Z.2.1 Am M.1 M.2.1 M.2.2.1 M.2.2.2.1 M.2.2.2.2.1 M.2.2.2.2.2.1 M.2.2.2.2.2.2.1 M.2.2.2.2.2.2.2.1 M.2.2.2.2.2.2.2.2.1 M.2.2.2.2.2.2.2.2.2.1 M.2.2.2.2.2.2.2.2.2.2.1 M.2.2.2.2.2.2.2.2.2.2.2.1 M.2.2.2.2.2.2.2.2.2.2.2.2.1 M.2.2.2.2.2.2.2.2.2.2.2.2.2.1 M.2.2.2.2.2.2.2.2.2.2.2.2.2.2.1 M.2.2.2.2.2.2.2.2.2.2.2.2.2.2.2.1 M.2.2.2.2.2.2.2.2.2.2.2.2.2.2.2.2.1 M.2.2.2.2.2.2.2.2.2.2.2.2.2.2.2.2.2.1 M.2.2.2.2.2.2.2.2.2.2.2.2.2.2.2.2.2.2).flatten H) (hD : va_D A (l_Model Z.2.1 Am M.1 M.2.1 M.2.2.1 M.2.2.2.1 M.2.2.2.2.1 M.2.2.2.2.2.1 M.2.2.2.2.2.2.1 M.2.2.2.2.2.2.2.1 M.2.2.2.2.2.2.2.2.1 M.2.2.2.2.2.2.2.2.2.1 M.2.2.2.2.2.2.2.2.2.2.1 M.2.2.2.2.2.2.2.2.2.2.2.1 M.2.2.2.2.2.2.2.2.2.2.2.2.1 M.2.2.2.2.2.2.2.2.2.2.2.2.2.1 M.2.2.2.2.2.2.2.2.2.2.2.2.2.2.1 M.2.2.2.2.2.2.2.2.2.2.2.2.2.2.2.1 M.2.2.2.2.2.2.2.2.2.2.2.2.2.2.2.2.1 M.2.2.2.2.2.2.2.2.2.2.2.2.2.2.2.2.2.1 M.2.2.2.2.2.2.2.2.2.2.2.2.2.2.2.2.2.2).flatten) (hS : va_S A s.heap H locs) (hl : lv_has ls 4 [(0, .ref (Am 0)), (2, .int x2)]), W p l e rm_X7_lockScenes s m ([.ref (Am 0)] : List Value).toArray below meth c H locs 0 0 Q (F0 m 92 ls [.int z0, .int z1]) := by
      intro M x2 z0 z1 hF H locs ls hP hD hS hl
      unfold j_X7_lockScenes_92 at hF
      refine lv_iadd hx hb (z_d hX7_lockScenes_0 58 rfl) ?_
      refine z_let hF (fun u18 hu18 hF => ?_)
      refine lv_topE hu18 ?_
      refine lv_istore_n (lv' := [(1, .int u18), (0, .ref (Am 0)), (2, .int x2)]) hx hb (z_d hX7_lockScenes_0 59 rfl) rfl hl (by decide) rfl (fun ls hl => ?_)
      refine lv_aload_n hx hb (z_d hX7_lockScenes_1 0 rfl) rfl (lv_at hl 1 rfl) ?_
      refine lv_iload_n hx hb (z_d hX7_lockScenes_1 1 rfl) rfl (lv_at hl 2 rfl) ?_
      refine lv_iconst (v := 4) hx hb (z_d hX7_lockScenes_1 2 rfl) (by decide) ?_
      refine lv_iconst (v := 1) hx hb (z_d hX7_lockScenes_1 3 rfl) (by decide) ?_
      refine z_bnd hF (fun q19 hq19 hF => ?_)
      refine z_mu0 (z_rV (As := [.int x2, .int 4, .int 1]) (rest := []) hx hb hml hown hts vt_X7_puts (c_X7_puts l Z Am M x2 4 1 _ hq19) rfl rfl ⟨Nat.le_of_ble_eq_true rfl, Nat.le_of_ble_eq_true rfl⟩ k_m_X7_125 zPmu_blind (z_recv (q := (RX7, TX7, 19)) (ci := 7) (q0 := 0) hK (zP_reg hP 0 rfl) rfl rfl) (z_prem hK hP hD) rfl hl.1 (Nat.le_of_ble_eq_true rfl) (z_d hX7_lockScenes_1 4 rfl) ⟨Nat.zero_le _, Nat.zero_le _⟩) hS hD (adr_Model _ _ _ _) (fun H locs hP hD hS => ?_)
      have hP : va_P Z.1 vwCl (l_Model Z.2.1 Am q19.1 q19.2.1 q19.2.2.1 q19.2.2.2.1 q19.2.2.2.2.1 q19.2.2.2.2.2.1 q19.2.2.2.2.2.2.1 q19.2.2.2.2.2.2.2.1 q19.2.2.2.2.2.2.2.2.1 q19.2.2.2.2.2.2.2.2.2.1 q19.2.2.2.2.2.2.2.2.2.2.1 q19.2.2.2.2.2.2.2.2.2.2.2.1 q19.2.2.2.2.2.2.2.2.2.2.2.2.1 q19.2.2.2.2.2.2.2.2.2.2.2.2.2.1 q19.2.2.2.2.2.2.2.2.2.2.2.2.2.2.1 q19.2.2.2.2.2.2.2.2.2.2.2.2.2.2.2.1 q19.2.2.2.2.2.2.2.2.2.2.2.2.2.2.2.2.1 q19.2.2.2.2.2.2.2.2.2.2.2.2.2.2.2.2.2.1 q19.2.2.2.2.2.2.2.2.2.2.2.2.2.2.2.2.2.2).flatten H := hP
      have hD : va_D A (l_Model Z.2.1 Am q19.1 q19.2.1 q19.2.2.1 q19.2.2.2.1 q19.2.2.2.2.1 q19.2.2.2.2.2.1 q19.2.2.2.2.2.2.1 q19.2.2.2.2.2.2.2.1 q19.2.2.2.2.2.2.2.2.1 q19.2.2.2.2.2.2.2.2.2.1 q19.2.2.2.2.2.2.2.2.2.2.1 q19.2.2.2.2.2.2.2.2.2.2.2.1 q19.2.2.2.2.2.2.2.2.2.2.2.2.1 q19.2.2.2.2.2.2.2.2.2.2.2.2.2.1 q19.2.2.2.2.2.2.2.2.2.2.2.2.2.2.1 q19.2.2.2.2.2.2.2.2.2.2.2.2.2.2.2.1 q19.2.2.2.2.2.2.2.2.2.2.2.2.2.2.2.2.1 q19.2.2.2.2.2.2.2.2.2.2.2.2.2.2.2.2.2.1 q19.2.2.2.2.2.2.2.2.2.2.2.2.2.2.2.2.2.2).flatten := hD
      refine W.eq (g2 := F0 m 101 ls []) rfl ?_
      refine lv_iconst (v := 0) hx hb (z_d hX7_lockScenes_1 5 rfl) (by decide) ?_
      refine lv_istore_n (lv' := [(3, .int 0), (1, .int u18), (0, .ref (Am 0)), (2, .int x2)]) hx hb (z_d hX7_lockScenes_1 6 rfl) rfl hl (by decide) rfl (fun ls hl => ?_)
      refine z_bnd hF (fun q26 hq26 hF => ?_)
      refine L103 u18 x2 _ _ _ hq26 _ _ ls hP hD hS (lv_sub hl [2, 1, 3, 0] rfl) (fun H locs ls hP hD hS hl => ?_)
      refine z_let hF (fun u27 hu27 hF => ?_)
      refine lv_iinc (v := u27) (lv' := [(2, .int u27), (0, .ref (Am 0)), (1, .int u18)]) hx hb (z_d hX7_lockScenes_1 26 rfl) hl (k := 2) rfl (z_inc1 hu27) (by decide) rfl (fun ls hl => ?_)
      refine lv_goto (tgt := 58) hx hb (z_d hX7_lockScenes_1 27 rfl) (by decide) ?_
      exact ih _ _ hF _ _ ls hP hD hS (lv_sub hl [1, 2, 0] rfl) K1
    refine lv_iload_n hx hb (z_d hX7_lockScenes_0 38 rfl) rfl (lv_at hl 2 rfl) ?_
    refine lv_aload_n hx hb (z_d hX7_lockScenes_0 39 rfl) rfl (lv_at hl 0 rfl) ?_
    refine va_get (D := Z.1) (ci := 7) (v := .ref (Am 1)) (C := RX7) (T := TX7) (N := 19) hx hb hts zinX7 hown hK.1 (zP_reg hP 0 rfl) 0 rfl rfl 0 (by decide) (hts _ k_f_X7_7) (fun _ h9 => h9) rfl (z_d hX7_lockScenes_0 40 rfl) ?_
    refine lv_iconst (v := 1) hx hb (z_d hX7_lockScenes_0 41 rfl) (by decide) ?_
    refine z_ix hF (fun hin hF => ?_)
    refine va_iald (D := Z.1) (f := v.1.1) hx hb hK.1 (zP_reg hP 1 rfl) 0 0 rfl rfl hin (z_d hX7_lockScenes_0 42 rfl) ?_
    refine z_let hF (fun u14 hu14 hF => ?_)
    refine lv_topE hu14 ?_
    refine lv_icmp_ge (tgt := 138) hx hb (z_d hX7_lockScenes_0 43 rfl) (by decide) (fun hc65 => ?_) (fun hc65 => ?_)
    · have hF := z_pos hc65 hF
      obtain rfl := Option.some.inj hF
      exact K1 _ _ ls hP hD hS (lv_sub hl [0, 1] rfl)
    · have hF := z_neg hc65 hF
      refine lv_aload_n hx hb (z_d hX7_lockScenes_0 44 rfl) rfl (lv_at hl 0 rfl) ?_
      refine lv_iload_n hx hb (z_d hX7_lockScenes_0 45 rfl) rfl (lv_at hl 2 rfl) ?_
      refine z_bnd hF (fun q15 hq15 hF => ?_)
      refine z_ro_i (z_rV (As := [.int v.2.2]) (rest := []) hx hb hml hown hts vt_X7_isHeading (c_X7_isHeading l Z Am v.1 v.2.2 _ hq15) rfl rfl ⟨Nat.le_of_ble_eq_true rfl, Nat.le_of_ble_eq_true rfl⟩ k_m_X7_76 zPro_blind (z_recv (q := (RX7, TX7, 19)) (ci := 7) (q0 := 0) hK (zP_reg hP 0 rfl) rfl rfl) (z_prec hK hP) rfl hl.1 (Nat.le_of_ble_eq_true rfl) (z_d hX7_lockScenes_0 46 rfl) ⟨Nat.zero_le _, Nat.zero_le _⟩) hS hP (fun H locs hP hS => ?_)
      refine lv_if_eq (tgt := 132) hx hb (z_d hX7_lockScenes_0 47 rfl) (by decide) (fun hc73 => ?_) (fun hc73 => ?_)
      · have hF := z_pos hc73 hF
        refine z_let hF (fun u16 hu16 hF => ?_)
        refine lv_iinc (v := u16) (lv' := [(2, .int u16), (0, .ref (Am 0)), (1, .int v.2.1)]) hx hb (z_d hX7_lockScenes_1 26 rfl) hl (k := 2) rfl (z_inc1 hu16) (by decide) rfl (fun ls hl => ?_)
        refine lv_goto (tgt := 58) hx hb (z_d hX7_lockScenes_1 27 rfl) (by decide) ?_
        exact ih _ _ hF _ _ ls hP hD hS (lv_sub hl [1, 2, 0] rfl) K1
      · have hF := z_neg hc73 hF
        refine lv_iload_n hx hb (z_d hX7_lockScenes_0 48 rfl) rfl (lv_at hl 1 rfl) ?_
        refine lv_aload_n hx hb (z_d hX7_lockScenes_0 49 rfl) rfl (lv_at hl 0 rfl) ?_
        refine lv_iload_n hx hb (z_d hX7_lockScenes_0 50 rfl) rfl (lv_at hl 2 rfl) ?_
        refine lv_iconst (v := 4) hx hb (z_d hX7_lockScenes_0 51 rfl) (by decide) ?_
        refine z_bnd hF (fun q17 hq17 hF => ?_)
        refine z_ro_i (z_rV (As := [.int v.2.2, .int 4]) (rest := [.int v.2.1]) hx hb hml hown hts vt_X7_of (c_X7_of l Z Am v.1 v.2.2 4 _ hq17) rfl rfl ⟨Nat.le_of_ble_eq_true rfl, Nat.le_of_ble_eq_true rfl⟩ k_m_X7_62 zPro_blind (z_recv (q := (RX7, TX7, 19)) (ci := 7) (q0 := 0) hK (zP_reg hP 0 rfl) rfl rfl) (z_prec hK hP) rfl hl.1 (Nat.le_of_ble_eq_true rfl) (z_d hX7_lockScenes_0 52 rfl) ⟨Nat.zero_le _, Nat.zero_le _⟩) hS hP (fun H locs hP hS => ?_)
        refine lv_iconst (v := 1) hx hb (z_d hX7_lockScenes_0 53 rfl) (by decide) ?_
        refine lv_icmp_ne (tgt := 91) hx hb (z_d hX7_lockScenes_0 54 rfl) (by decide) (fun hc84 => ?_) (fun hc84 => ?_)
        · have hF := z_neg hc84 hF
          refine lv_iconst (v := 1) hx hb (z_d hX7_lockScenes_0 57 rfl) (by decide) ?_
          exact J92 v.1 v.2.2 1 v.2.1 hF _ _ ls hP hD hS (lv_sub hl [0, 2] rfl)
        · have hF := z_pos hc84 hF
          refine lv_iconst (v := 0) hx hb (z_d hX7_lockScenes_0 55 rfl) (by decide) ?_
          refine lv_goto (tgt := 92) hx hb (z_d hX7_lockScenes_0 56 rfl) (by decide) ?_
          exact J92 v.1 v.2.2 0 v.2.1 hF _ _ ls hP hD hS (lv_sub hl [0, 2] rfl)
  refine lv_aload_n hx hb (z_d hX7_lockScenes_0 0 rfl) rfl (lv_at hl 0 rfl) ?_
  refine z_bnd hF (fun q1 hq1 hF => ?_)
  refine z_mu0 (z_rV (As := []) (rest := []) hx hb hml hown hts vt_X7_hold (c_X7_hold l Z Am M _ hq1) rfl rfl ⟨Nat.le_of_ble_eq_true rfl, Nat.le_of_ble_eq_true rfl⟩ k_m_X7_135 zPmu_blind (z_recv (q := (RX7, TX7, 19)) (ci := 7) (q0 := 0) hK (zP_reg hP 0 rfl) rfl rfl) (z_prem hK hP hD) rfl hl.1 (Nat.le_of_ble_eq_true rfl) (z_d hX7_lockScenes_0 1 rfl) ⟨Nat.zero_le _, Nat.zero_le _⟩) hS hD (adr_Model _ _ _ _) (fun H locs hP hD hS => ?_)
  have hP : va_P Z.1 vwCl (l_Model Z.2.1 Am q1.1 q1.2.1 q1.2.2.1 q1.2.2.2.1 q1.2.2.2.2.1 q1.2.2.2.2.2.1 q1.2.2.2.2.2.2.1 q1.2.2.2.2.2.2.2.1 q1.2.2.2.2.2.2.2.2.1 q1.2.2.2.2.2.2.2.2.2.1 q1.2.2.2.2.2.2.2.2.2.2.1 q1.2.2.2.2.2.2.2.2.2.2.2.1 q1.2.2.2.2.2.2.2.2.2.2.2.2.1 q1.2.2.2.2.2.2.2.2.2.2.2.2.2.1 q1.2.2.2.2.2.2.2.2.2.2.2.2.2.2.1 q1.2.2.2.2.2.2.2.2.2.2.2.2.2.2.2.1 q1.2.2.2.2.2.2.2.2.2.2.2.2.2.2.2.2.1 q1.2.2.2.2.2.2.2.2.2.2.2.2.2.2.2.2.2.1 q1.2.2.2.2.2.2.2.2.2.2.2.2.2.2.2.2.2.2).flatten H := hP
  have hD : va_D A (l_Model Z.2.1 Am q1.1 q1.2.1 q1.2.2.1 q1.2.2.2.1 q1.2.2.2.2.1 q1.2.2.2.2.2.1 q1.2.2.2.2.2.2.1 q1.2.2.2.2.2.2.2.1 q1.2.2.2.2.2.2.2.2.1 q1.2.2.2.2.2.2.2.2.2.1 q1.2.2.2.2.2.2.2.2.2.2.1 q1.2.2.2.2.2.2.2.2.2.2.2.1 q1.2.2.2.2.2.2.2.2.2.2.2.2.1 q1.2.2.2.2.2.2.2.2.2.2.2.2.2.1 q1.2.2.2.2.2.2.2.2.2.2.2.2.2.2.1 q1.2.2.2.2.2.2.2.2.2.2.2.2.2.2.2.1 q1.2.2.2.2.2.2.2.2.2.2.2.2.2.2.2.2.1 q1.2.2.2.2.2.2.2.2.2.2.2.2.2.2.2.2.2.1 q1.2.2.2.2.2.2.2.2.2.2.2.2.2.2.2.2.2.2).flatten := hD
  refine W.eq (g2 := F0 m 4 ls []) rfl ?_
  refine lv_iconst (v := 0) hx hb (z_d hX7_lockScenes_0 2 rfl) (by decide) ?_
  refine lv_istore_n (lv' := [(1, .int 0), (0, .ref (Am 0))]) hx hb (z_d hX7_lockScenes_0 3 rfl) rfl hl (by decide) rfl (fun ls hl => ?_)
  refine lv_iconst (v := 0) hx hb (z_d hX7_lockScenes_0 4 rfl) (by decide) ?_
  refine lv_istore_n (lv' := [(2, .int 0), (1, .int 0), (0, .ref (Am 0))]) hx hb (z_d hX7_lockScenes_0 5 rfl) rfl hl (by decide) rfl (fun ls hl => ?_)
  refine z_bnd hF (fun q13 hq13 hF => ?_)
  refine L8 0 _ _ _ hq13 _ _ ls hP hD hS (lv_sub hl [2, 1, 0] rfl) (fun H locs ls hP hD hS hl => ?_)
  refine lv_iconst (v := 0) hx hb (z_d hX7_lockScenes_0 36 rfl) (by decide) ?_
  refine lv_istore_n (lv' := [(2, .int 0), (0, .ref (Am 0)), (1, .int 0)]) hx hb (z_d hX7_lockScenes_0 37 rfl) rfl hl (by decide) rfl (fun ls hl => ?_)
  refine z_bnd hF (fun q28 hq28 hF => ?_)
  refine L58  _ _ _ hq28 _ _ ls hP hD hS (lv_sub hl [1, 2, 0] rfl) (fun H locs ls hP hD hS hl => ?_)
  refine lv_aload_n hx hb (z_d hX7_lockScenes_1 28 rfl) rfl (lv_at hl 0 rfl) ?_
  refine lv_iload_n hx hb (z_d hX7_lockScenes_1 29 rfl) rfl (lv_at hl 1 rfl) ?_
  refine z_bnd hF (fun q29 hq29 hF => ?_)
  refine z_mu0 (z_rV (As := [.int q28.2]) (rest := []) hx hb hml hown hts vt_X7_ends (c_X7_ends l Z Am q28.1 q28.2 _ hq29) rfl rfl ⟨Nat.le_of_ble_eq_true rfl, Nat.le_of_ble_eq_true rfl⟩ k_m_X7_146 zPmu_blind (z_recv (q := (RX7, TX7, 19)) (ci := 7) (q0 := 0) hK (zP_reg hP 0 rfl) rfl rfl) (z_prem hK hP hD) rfl hl.1 (Nat.le_of_ble_eq_true rfl) (z_d hX7_lockScenes_1 30 rfl) ⟨Nat.zero_le _, Nat.zero_le _⟩) hS hD (adr_Model _ _ _ _) (fun H locs hP hD hS => ?_)
  have hP : va_P Z.1 vwCl (l_Model Z.2.1 Am q29.2.1 q29.2.2.1 q29.2.2.2.1 q29.2.2.2.2.1 q29.2.2.2.2.2.1 q29.2.2.2.2.2.2.1 q29.2.2.2.2.2.2.2.1 q29.2.2.2.2.2.2.2.2.1 q29.2.2.2.2.2.2.2.2.2.1 q29.2.2.2.2.2.2.2.2.2.2.1 q29.2.2.2.2.2.2.2.2.2.2.2.1 q29.2.2.2.2.2.2.2.2.2.2.2.2.1 q29.2.2.2.2.2.2.2.2.2.2.2.2.2.1 q29.2.2.2.2.2.2.2.2.2.2.2.2.2.2.1 q29.2.2.2.2.2.2.2.2.2.2.2.2.2.2.2.1 q29.2.2.2.2.2.2.2.2.2.2.2.2.2.2.2.2.1 q29.2.2.2.2.2.2.2.2.2.2.2.2.2.2.2.2.2.1 q29.2.2.2.2.2.2.2.2.2.2.2.2.2.2.2.2.2.2.1 q29.2.2.2.2.2.2.2.2.2.2.2.2.2.2.2.2.2.2.2).flatten H := hP
  have hD : va_D A (l_Model Z.2.1 Am q29.2.1 q29.2.2.1 q29.2.2.2.1 q29.2.2.2.2.1 q29.2.2.2.2.2.1 q29.2.2.2.2.2.2.1 q29.2.2.2.2.2.2.2.1 q29.2.2.2.2.2.2.2.2.1 q29.2.2.2.2.2.2.2.2.2.1 q29.2.2.2.2.2.2.2.2.2.2.1 q29.2.2.2.2.2.2.2.2.2.2.2.1 q29.2.2.2.2.2.2.2.2.2.2.2.2.1 q29.2.2.2.2.2.2.2.2.2.2.2.2.2.1 q29.2.2.2.2.2.2.2.2.2.2.2.2.2.2.1 q29.2.2.2.2.2.2.2.2.2.2.2.2.2.2.2.1 q29.2.2.2.2.2.2.2.2.2.2.2.2.2.2.2.2.1 q29.2.2.2.2.2.2.2.2.2.2.2.2.2.2.2.2.2.1 q29.2.2.2.2.2.2.2.2.2.2.2.2.2.2.2.2.2.2.1 q29.2.2.2.2.2.2.2.2.2.2.2.2.2.2.2.2.2.2.2).flatten := hD
  refine W.eq (g2 := F0 m 143 ls [.int q29.1]) rfl ?_
  obtain rfl := Option.some.inj hF
  subst hQ
  subst hA
  exact W.iret hx hb hr (fun t ht hW => zq_mu (by rw [ht]; exact hP) (hS.F ht)) hS.2.2 (z_d hX7_lockScenes_1 31 rfl)
def rm_X7_omit : Room := { frames := 3, cells := 0, slots := 0, locals := 66 }
set_option maxRecDepth 100000 in
set_option maxHeartbeats 4000000 in
theorem c_X7_omit (l : Launch) (Z : zZ) (Am : Nat → Nat) (M : t_Model) (p1 : Int32) (R : Int32 × t_Model) (hF : X7_omit M p1 = some R) : zMU l yX7_omit (zw yX7_omit cX7_omit 4 (some .int)) rm_X7_omit Z [.ref (Am 0), .int p1] (w_Model Z.2.1 Am M) (w_Model Z.2.1 Am R.2) (some (.int R.1)) := by
  refine zMU_of (by decide) (Nat.le_of_ble_eq_true rfl) (fun p e s m below meth c hx hb hr hml hown hts hlocks hK A hA Q hQ ls hl hP hD hS => ?_)
  unfold X7_omit at hF
  have hl : lv_has ls 4 [(0, .ref (Am 0)), (1, .int p1)] := hl
  have hown : s.vm.findClass RX7 = some m.cls := hown
  have hP : va_P Z.1 vwCl (l_Model Z.2.1 Am M.1 M.2.1 M.2.2.1 M.2.2.2.1 M.2.2.2.2.1 M.2.2.2.2.2.1 M.2.2.2.2.2.2.1 M.2.2.2.2.2.2.2.1 M.2.2.2.2.2.2.2.2.1 M.2.2.2.2.2.2.2.2.2.1 M.2.2.2.2.2.2.2.2.2.2.1 M.2.2.2.2.2.2.2.2.2.2.2.1 M.2.2.2.2.2.2.2.2.2.2.2.2.1 M.2.2.2.2.2.2.2.2.2.2.2.2.2.1 M.2.2.2.2.2.2.2.2.2.2.2.2.2.2.1 M.2.2.2.2.2.2.2.2.2.2.2.2.2.2.2.1 M.2.2.2.2.2.2.2.2.2.2.2.2.2.2.2.2.1 M.2.2.2.2.2.2.2.2.2.2.2.2.2.2.2.2.2.1 M.2.2.2.2.2.2.2.2.2.2.2.2.2.2.2.2.2.2).flatten s.heap := hP
  have hD : va_D A (l_Model Z.2.1 Am M.1 M.2.1 M.2.2.1 M.2.2.2.1 M.2.2.2.2.1 M.2.2.2.2.2.1 M.2.2.2.2.2.2.1 M.2.2.2.2.2.2.2.1 M.2.2.2.2.2.2.2.2.1 M.2.2.2.2.2.2.2.2.2.1 M.2.2.2.2.2.2.2.2.2.2.1 M.2.2.2.2.2.2.2.2.2.2.2.1 M.2.2.2.2.2.2.2.2.2.2.2.2.1 M.2.2.2.2.2.2.2.2.2.2.2.2.2.1 M.2.2.2.2.2.2.2.2.2.2.2.2.2.2.1 M.2.2.2.2.2.2.2.2.2.2.2.2.2.2.2.1 M.2.2.2.2.2.2.2.2.2.2.2.2.2.2.2.2.1 M.2.2.2.2.2.2.2.2.2.2.2.2.2.2.2.2.2.1 M.2.2.2.2.2.2.2.2.2.2.2.2.2.2.2.2.2.2).flatten := hD
  have J44 : ∀ (M : t_Model) (hF : j_X7_omit_44 p1 M = some R) (H : Heap) (locs : List Loc) (ls : Array Slot) (hP : va_P Z.1 vwCl (l_Model Z.2.1 Am M.1 M.2.1 M.2.2.1 M.2.2.2.1 M.2.2.2.2.1 M.2.2.2.2.2.1 M.2.2.2.2.2.2.1 M.2.2.2.2.2.2.2.1 M.2.2.2.2.2.2.2.2.1 M.2.2.2.2.2.2.2.2.2.1 M.2.2.2.2.2.2.2.2.2.2.1 M.2.2.2.2.2.2.2.2.2.2.2.1 M.2.2.2.2.2.2.2.2.2.2.2.2.1 M.2.2.2.2.2.2.2.2.2.2.2.2.2.1 M.2.2.2.2.2.2.2.2.2.2.2.2.2.2.1 M.2.2.2.2.2.2.2.2.2.2.2.2.2.2.2.1 M.2.2.2.2.2.2.2.2.2.2.2.2.2.2.2.2.1 M.2.2.2.2.2.2.2.2.2.2.2.2.2.2.2.2.2.1 M.2.2.2.2.2.2.2.2.2.2.2.2.2.2.2.2.2.2).flatten H) (hD : va_D A (l_Model Z.2.1 Am M.1 M.2.1 M.2.2.1 M.2.2.2.1 M.2.2.2.2.1 M.2.2.2.2.2.1 M.2.2.2.2.2.2.1 M.2.2.2.2.2.2.2.1 M.2.2.2.2.2.2.2.2.1 M.2.2.2.2.2.2.2.2.2.1 M.2.2.2.2.2.2.2.2.2.2.1 M.2.2.2.2.2.2.2.2.2.2.2.1 M.2.2.2.2.2.2.2.2.2.2.2.2.1 M.2.2.2.2.2.2.2.2.2.2.2.2.2.1 M.2.2.2.2.2.2.2.2.2.2.2.2.2.2.1 M.2.2.2.2.2.2.2.2.2.2.2.2.2.2.2.1 M.2.2.2.2.2.2.2.2.2.2.2.2.2.2.2.2.1 M.2.2.2.2.2.2.2.2.2.2.2.2.2.2.2.2.2.1 M.2.2.2.2.2.2.2.2.2.2.2.2.2.2.2.2.2.2).flatten) (hS : va_S A s.heap H locs) (hl : lv_has ls 4 [(0, .ref (Am 0)), (1, .int p1)]), W p l e rm_X7_omit s m ([.ref (Am 0), .int p1] : List Value).toArray below meth c H locs 0 0 Q (F0 m 44 ls []) := by
    intro M hF H locs ls hP hD hS hl
    unfold j_X7_omit_44 at hF
    refine lv_aload_n hx hb (z_d hX7_omit_0 26 rfl) rfl (lv_at hl 0 rfl) ?_
    refine lv_iconst (v := 2) hx hb (z_d hX7_omit_0 27 rfl) (by decide) ?_
    refine z_let hF (fun q6 hq6 hF => ?_)
    refine z_mu0 (z_rV (As := [.int 2]) (rest := []) hx hb hml hown hts vt_X7_fails (c_X7_fails l Z Am M 2 _ hq6) rfl rfl ⟨Nat.le_of_ble_eq_true rfl, Nat.le_of_ble_eq_true rfl⟩ k_m_X7_129 zPmu_blind (z_recv (q := (RX7, TX7, 19)) (ci := 7) (q0 := 0) hK (zP_reg hP 0 rfl) rfl rfl) (z_prem hK hP hD) rfl hl.1 (Nat.le_of_ble_eq_true rfl) (z_d hX7_omit_0 28 rfl) ⟨Nat.zero_le _, Nat.zero_le _⟩) hS hD (adr_Model _ _ _ _) (fun H locs hP hD hS => ?_)
    have hP : va_P Z.1 vwCl (l_Model Z.2.1 Am q6.2.1 q6.2.2.1 q6.2.2.2.1 q6.2.2.2.2.1 q6.2.2.2.2.2.1 q6.2.2.2.2.2.2.1 q6.2.2.2.2.2.2.2.1 q6.2.2.2.2.2.2.2.2.1 q6.2.2.2.2.2.2.2.2.2.1 q6.2.2.2.2.2.2.2.2.2.2.1 q6.2.2.2.2.2.2.2.2.2.2.2.1 q6.2.2.2.2.2.2.2.2.2.2.2.2.1 q6.2.2.2.2.2.2.2.2.2.2.2.2.2.1 q6.2.2.2.2.2.2.2.2.2.2.2.2.2.2.1 q6.2.2.2.2.2.2.2.2.2.2.2.2.2.2.2.1 q6.2.2.2.2.2.2.2.2.2.2.2.2.2.2.2.2.1 q6.2.2.2.2.2.2.2.2.2.2.2.2.2.2.2.2.2.1 q6.2.2.2.2.2.2.2.2.2.2.2.2.2.2.2.2.2.2.1 q6.2.2.2.2.2.2.2.2.2.2.2.2.2.2.2.2.2.2.2).flatten H := hP
    have hD : va_D A (l_Model Z.2.1 Am q6.2.1 q6.2.2.1 q6.2.2.2.1 q6.2.2.2.2.1 q6.2.2.2.2.2.1 q6.2.2.2.2.2.2.1 q6.2.2.2.2.2.2.2.1 q6.2.2.2.2.2.2.2.2.1 q6.2.2.2.2.2.2.2.2.2.1 q6.2.2.2.2.2.2.2.2.2.2.1 q6.2.2.2.2.2.2.2.2.2.2.2.1 q6.2.2.2.2.2.2.2.2.2.2.2.2.1 q6.2.2.2.2.2.2.2.2.2.2.2.2.2.1 q6.2.2.2.2.2.2.2.2.2.2.2.2.2.2.1 q6.2.2.2.2.2.2.2.2.2.2.2.2.2.2.2.1 q6.2.2.2.2.2.2.2.2.2.2.2.2.2.2.2.2.1 q6.2.2.2.2.2.2.2.2.2.2.2.2.2.2.2.2.2.1 q6.2.2.2.2.2.2.2.2.2.2.2.2.2.2.2.2.2.2.1 q6.2.2.2.2.2.2.2.2.2.2.2.2.2.2.2.2.2.2.2).flatten := hD
    refine W.eq (g2 := F0 m 49 ls [.int q6.1]) rfl ?_
    obtain rfl := Option.some.inj hF
    subst hQ
    subst hA
    exact W.iret hx hb hr (fun t ht hW => zq_mu (by rw [ht]; exact hP) (hS.F ht)) hS.2.2 (z_d hX7_omit_0 29 rfl)
  have L56 : ∀ (x2 : Int32) (n : Nat) (v : t_Model × Int32) (X : t_Model × Int32) (hF : zloop (b_X7_omit_56 p1 x2) n v = some X) (H : Heap) (locs : List Loc) (ls : Array Slot) (hP : va_P Z.1 vwCl (l_Model Z.2.1 Am v.1.1 v.1.2.1 v.1.2.2.1 v.1.2.2.2.1 v.1.2.2.2.2.1 v.1.2.2.2.2.2.1 v.1.2.2.2.2.2.2.1 v.1.2.2.2.2.2.2.2.1 v.1.2.2.2.2.2.2.2.2.1 v.1.2.2.2.2.2.2.2.2.2.1 v.1.2.2.2.2.2.2.2.2.2.2.1 v.1.2.2.2.2.2.2.2.2.2.2.2.1 v.1.2.2.2.2.2.2.2.2.2.2.2.2.1 v.1.2.2.2.2.2.2.2.2.2.2.2.2.2.1 v.1.2.2.2.2.2.2.2.2.2.2.2.2.2.2.1 v.1.2.2.2.2.2.2.2.2.2.2.2.2.2.2.2.1 v.1.2.2.2.2.2.2.2.2.2.2.2.2.2.2.2.2.1 v.1.2.2.2.2.2.2.2.2.2.2.2.2.2.2.2.2.2.1 v.1.2.2.2.2.2.2.2.2.2.2.2.2.2.2.2.2.2.2).flatten H) (hD : va_D A (l_Model Z.2.1 Am v.1.1 v.1.2.1 v.1.2.2.1 v.1.2.2.2.1 v.1.2.2.2.2.1 v.1.2.2.2.2.2.1 v.1.2.2.2.2.2.2.1 v.1.2.2.2.2.2.2.2.1 v.1.2.2.2.2.2.2.2.2.1 v.1.2.2.2.2.2.2.2.2.2.1 v.1.2.2.2.2.2.2.2.2.2.2.1 v.1.2.2.2.2.2.2.2.2.2.2.2.1 v.1.2.2.2.2.2.2.2.2.2.2.2.2.1 v.1.2.2.2.2.2.2.2.2.2.2.2.2.2.1 v.1.2.2.2.2.2.2.2.2.2.2.2.2.2.2.1 v.1.2.2.2.2.2.2.2.2.2.2.2.2.2.2.2.1 v.1.2.2.2.2.2.2.2.2.2.2.2.2.2.2.2.2.1 v.1.2.2.2.2.2.2.2.2.2.2.2.2.2.2.2.2.2.1 v.1.2.2.2.2.2.2.2.2.2.2.2.2.2.2.2.2.2.2).flatten) (hS : va_S A s.heap H locs) (hl : lv_has ls 4 [(0, .ref (Am 0)), (1, .int p1), (2, .int x2), (3, .int v.2)]) (K1 : ∀ (H : Heap) (locs : List Loc) (ls : Array Slot) (hP : va_P Z.1 vwCl (l_Model Z.2.1 Am X.1.1 X.1.2.1 X.1.2.2.1 X.1.2.2.2.1 X.1.2.2.2.2.1 X.1.2.2.2.2.2.1 X.1.2.2.2.2.2.2.1 X.1.2.2.2.2.2.2.2.1 X.1.2.2.2.2.2.2.2.2.1 X.1.2.2.2.2.2.2.2.2.2.1 X.1.2.2.2.2.2.2.2.2.2.2.1 X.1.2.2.2.2.2.2.2.2.2.2.2.1 X.1.2.2.2.2.2.2.2.2.2.2.2.2.1 X.1.2.2.2.2.2.2.2.2.2.2.2.2.2.1 X.1.2.2.2.2.2.2.2.2.2.2.2.2.2.2.1 X.1.2.2.2.2.2.2.2.2.2.2.2.2.2.2.2.1 X.1.2.2.2.2.2.2.2.2.2.2.2.2.2.2.2.2.1 X.1.2.2.2.2.2.2.2.2.2.2.2.2.2.2.2.2.2.1 X.1.2.2.2.2.2.2.2.2.2.2.2.2.2.2.2.2.2.2).flatten H) (hD : va_D A (l_Model Z.2.1 Am X.1.1 X.1.2.1 X.1.2.2.1 X.1.2.2.2.1 X.1.2.2.2.2.1 X.1.2.2.2.2.2.1 X.1.2.2.2.2.2.2.1 X.1.2.2.2.2.2.2.2.1 X.1.2.2.2.2.2.2.2.2.1 X.1.2.2.2.2.2.2.2.2.2.1 X.1.2.2.2.2.2.2.2.2.2.2.1 X.1.2.2.2.2.2.2.2.2.2.2.2.1 X.1.2.2.2.2.2.2.2.2.2.2.2.2.1 X.1.2.2.2.2.2.2.2.2.2.2.2.2.2.1 X.1.2.2.2.2.2.2.2.2.2.2.2.2.2.2.1 X.1.2.2.2.2.2.2.2.2.2.2.2.2.2.2.2.1 X.1.2.2.2.2.2.2.2.2.2.2.2.2.2.2.2.2.1 X.1.2.2.2.2.2.2.2.2.2.2.2.2.2.2.2.2.2.1 X.1.2.2.2.2.2.2.2.2.2.2.2.2.2.2.2.2.2.2).flatten) (hS : va_S A s.heap H locs) (hl : lv_has ls 4 [(0, .ref (Am 0)), (1, .int p1), (2, .int x2), (3, .int X.2)]), W p l e rm_X7_omit s m ([.ref (Am 0), .int p1] : List Value).toArray below meth c H locs 0 0 Q (F0 m 91 ls [])), W p l e rm_X7_omit s m ([.ref (Am 0), .int p1] : List Value).toArray below meth c H locs 0 0 Q (F0 m 56 ls []) := by
    intro x2
    refine z_loopE (fun rec ih v X hF H locs ls hP hD hS hl K1 => ?_)
    unfold b_X7_omit_56 at hF
    refine lv_iload_n hx hb (z_d hX7_omit_0 34 rfl) rfl (lv_at hl 2 rfl) ?_
    refine lv_iconst (v := 1) hx hb (z_d hX7_omit_0 35 rfl) (by decide) ?_
    refine lv_iadd hx hb (z_d hX7_omit_0 36 rfl) ?_
    refine z_let hF (fun u9 hu9 hF => ?_)
    refine lv_topE hu9 ?_
    refine lv_aload_n hx hb (z_d hX7_omit_0 37 rfl) rfl (lv_at hl 0 rfl) ?_
    refine va_get (D := Z.1) (ci := 7) (v := .ref (Am 1)) (C := RX7) (T := TX7) (N := 19) hx hb hts zinX7 hown hK.1 (zP_reg hP 0 rfl) 0 rfl rfl 0 (by decide) (hts _ k_f_X7_7) (fun _ h9 => h9) rfl (z_d hX7_omit_0 38 rfl) ?_
    refine lv_iconst (v := 1) hx hb (z_d hX7_omit_0 39 rfl) (by decide) ?_
    refine z_ix hF (fun hin hF => ?_)
    refine va_iald (D := Z.1) (f := v.1.1) hx hb hK.1 (zP_reg hP 1 rfl) 0 0 rfl rfl hin (z_d hX7_omit_0 40 rfl) ?_
    refine z_let hF (fun u10 hu10 hF => ?_)
    refine lv_topE hu10 ?_
    refine lv_icmp_ge (tgt := 91) hx hb (z_d hX7_omit_0 41 rfl) (by decide) (fun hc65 => ?_) (fun hc65 => ?_)
    · have hF := z_pos hc65 hF
      obtain rfl := Option.some.inj hF
      exact K1 _ _ ls hP hD hS (lv_sub hl [0, 1, 2, 3] rfl)
    · have hF := z_neg hc65 hF
      refine lv_aload_n hx hb (z_d hX7_omit_0 42 rfl) rfl (lv_at hl 0 rfl) ?_
      refine lv_iload_n hx hb (z_d hX7_omit_0 43 rfl) rfl (lv_at hl 2 rfl) ?_
      refine lv_iconst (v := 1) hx hb (z_d hX7_omit_0 44 rfl) (by decide) ?_
      refine lv_iadd hx hb (z_d hX7_omit_0 45 rfl) ?_
      refine z_let hF (fun u11 hu11 hF => ?_)
      refine lv_topE hu11 ?_
      refine z_bnd hF (fun q12 hq12 hF => ?_)
      refine z_ro_i (z_rV (As := [.int u11]) (rest := []) hx hb hml hown hts vt_X7_isHeading (c_X7_isHeading l Z Am v.1 u11 _ hq12) rfl rfl ⟨Nat.le_of_ble_eq_true rfl, Nat.le_of_ble_eq_true rfl⟩ k_m_X7_76 zPro_blind (z_recv (q := (RX7, TX7, 19)) (ci := 7) (q0 := 0) hK (zP_reg hP 0 rfl) rfl rfl) (z_prec hK hP) rfl hl.1 (Nat.le_of_ble_eq_true rfl) (z_d hX7_omit_0 46 rfl) ⟨Nat.zero_le _, Nat.zero_le _⟩) hS hP (fun H locs hP hS => ?_)
      refine lv_if_ne (tgt := 91) hx hb (z_d hX7_omit_0 47 rfl) (by decide) (fun hc75 => ?_) (fun hc75 => ?_)
      · have hF := z_neg hc75 hF
        obtain rfl := Option.some.inj hF
        exact K1 _ _ ls hP hD hS (lv_sub hl [0, 1, 2, 3] rfl)
      · have hF := z_pos hc75 hF
        refine lv_aload_n hx hb (z_d hX7_omit_0 48 rfl) rfl (lv_at hl 0 rfl) ?_
        refine lv_iload_n hx hb (z_d hX7_omit_0 49 rfl) rfl (lv_at hl 2 rfl) ?_
        refine lv_iconst (v := 1) hx hb (z_d hX7_omit_0 50 rfl) (by decide) ?_
        refine lv_iadd hx hb (z_d hX7_omit_0 51 rfl) ?_
        refine z_let hF (fun u13 hu13 hF => ?_)
        refine lv_topE hu13 ?_
        refine z_bnd hF (fun q14 hq14 hF => ?_)
        refine z_mu0 (z_rV (As := [.int u13]) (rest := []) hx hb hml hown hts vt_X7_goes (c_X7_goes l Z Am v.1 u13 _ hq14) rfl rfl ⟨Nat.le_of_ble_eq_true rfl, Nat.le_of_ble_eq_true rfl⟩ k_m_X7_152 zPmu_blind (z_recv (q := (RX7, TX7, 19)) (ci := 7) (q0 := 0) hK (zP_reg hP 0 rfl) rfl rfl) (z_prem hK hP hD) rfl hl.1 (Nat.le_of_ble_eq_true rfl) (z_d hX7_omit_0 52 rfl) ⟨Nat.zero_le _, Nat.zero_le _⟩) hS hD (adr_Model _ _ _ _) (fun H locs hP hD hS => ?_)
        have hP : va_P Z.1 vwCl (l_Model Z.2.1 Am q14.1 q14.2.1 q14.2.2.1 q14.2.2.2.1 q14.2.2.2.2.1 q14.2.2.2.2.2.1 q14.2.2.2.2.2.2.1 q14.2.2.2.2.2.2.2.1 q14.2.2.2.2.2.2.2.2.1 q14.2.2.2.2.2.2.2.2.2.1 q14.2.2.2.2.2.2.2.2.2.2.1 q14.2.2.2.2.2.2.2.2.2.2.2.1 q14.2.2.2.2.2.2.2.2.2.2.2.2.1 q14.2.2.2.2.2.2.2.2.2.2.2.2.2.1 q14.2.2.2.2.2.2.2.2.2.2.2.2.2.2.1 q14.2.2.2.2.2.2.2.2.2.2.2.2.2.2.2.1 q14.2.2.2.2.2.2.2.2.2.2.2.2.2.2.2.2.1 q14.2.2.2.2.2.2.2.2.2.2.2.2.2.2.2.2.2.1 q14.2.2.2.2.2.2.2.2.2.2.2.2.2.2.2.2.2.2).flatten H := hP
        have hD : va_D A (l_Model Z.2.1 Am q14.1 q14.2.1 q14.2.2.1 q14.2.2.2.1 q14.2.2.2.2.1 q14.2.2.2.2.2.1 q14.2.2.2.2.2.2.1 q14.2.2.2.2.2.2.2.1 q14.2.2.2.2.2.2.2.2.1 q14.2.2.2.2.2.2.2.2.2.1 q14.2.2.2.2.2.2.2.2.2.2.1 q14.2.2.2.2.2.2.2.2.2.2.2.1 q14.2.2.2.2.2.2.2.2.2.2.2.2.1 q14.2.2.2.2.2.2.2.2.2.2.2.2.2.1 q14.2.2.2.2.2.2.2.2.2.2.2.2.2.2.1 q14.2.2.2.2.2.2.2.2.2.2.2.2.2.2.2.1 q14.2.2.2.2.2.2.2.2.2.2.2.2.2.2.2.2.1 q14.2.2.2.2.2.2.2.2.2.2.2.2.2.2.2.2.2.1 q14.2.2.2.2.2.2.2.2.2.2.2.2.2.2.2.2.2.2).flatten := hD
        refine W.eq (g2 := F0 m 85 ls []) rfl ?_
        refine z_let hF (fun u15 hu15 hF => ?_)
        refine lv_iinc (v := u15) (lv' := [(3, .int u15), (0, .ref (Am 0)), (1, .int p1), (2, .int x2)]) hx hb (z_d hX7_omit_0 53 rfl) hl (k := 3) rfl (z_inc1 hu15) (by decide) rfl (fun ls hl => ?_)
        refine lv_goto (tgt := 56) hx hb (z_d hX7_omit_0 54 rfl) (by decide) ?_
        exact ih _ _ hF _ _ ls hP hD hS (lv_sub hl [1, 2, 3, 0] rfl) K1
  have J91 : ∀ (M : t_Model) (x2 : Int32) (x3 : Int32) (hF : j_X7_omit_91 p1 M x2 x3 = some R) (H : Heap) (locs : List Loc) (ls : Array Slot) (hP : va_P Z.1 vwCl (l_Model Z.2.1 Am M.1 M.2.1 M.2.2.1 M.2.2.2.1 M.2.2.2.2.1 M.2.2.2.2.2.1 M.2.2.2.2.2.2.1 M.2.2.2.2.2.2.2.1 M.2.2.2.2.2.2.2.2.1 M.2.2.2.2.2.2.2.2.2.1 M.2.2.2.2.2.2.2.2.2.2.1 M.2.2.2.2.2.2.2.2.2.2.2.1 M.2.2.2.2.2.2.2.2.2.2.2.2.1 M.2.2.2.2.2.2.2.2.2.2.2.2.2.1 M.2.2.2.2.2.2.2.2.2.2.2.2.2.2.1 M.2.2.2.2.2.2.2.2.2.2.2.2.2.2.2.1 M.2.2.2.2.2.2.2.2.2.2.2.2.2.2.2.2.1 M.2.2.2.2.2.2.2.2.2.2.2.2.2.2.2.2.2.1 M.2.2.2.2.2.2.2.2.2.2.2.2.2.2.2.2.2.2).flatten H) (hD : va_D A (l_Model Z.2.1 Am M.1 M.2.1 M.2.2.1 M.2.2.2.1 M.2.2.2.2.1 M.2.2.2.2.2.1 M.2.2.2.2.2.2.1 M.2.2.2.2.2.2.2.1 M.2.2.2.2.2.2.2.2.1 M.2.2.2.2.2.2.2.2.2.1 M.2.2.2.2.2.2.2.2.2.2.1 M.2.2.2.2.2.2.2.2.2.2.2.1 M.2.2.2.2.2.2.2.2.2.2.2.2.1 M.2.2.2.2.2.2.2.2.2.2.2.2.2.1 M.2.2.2.2.2.2.2.2.2.2.2.2.2.2.1 M.2.2.2.2.2.2.2.2.2.2.2.2.2.2.2.1 M.2.2.2.2.2.2.2.2.2.2.2.2.2.2.2.2.1 M.2.2.2.2.2.2.2.2.2.2.2.2.2.2.2.2.2.1 M.2.2.2.2.2.2.2.2.2.2.2.2.2.2.2.2.2.2).flatten) (hS : va_S A s.heap H locs) (hl : lv_has ls 4 [(0, .ref (Am 0)), (1, .int p1), (2, .int x2), (3, .int x3)]), W p l e rm_X7_omit s m ([.ref (Am 0), .int p1] : List Value).toArray below meth c H locs 0 0 Q (F0 m 91 ls []) := by
    intro M x2 x3 hF H locs ls hP hD hS hl
    unfold j_X7_omit_91 at hF
    refine lv_aload_n hx hb (z_d hX7_omit_0 55 rfl) rfl (lv_at hl 0 rfl) ?_
    refine lv_iload_n hx hb (z_d hX7_omit_0 56 rfl) rfl (lv_at hl 2 rfl) ?_
    refine lv_iconst (v := 3) hx hb (z_d hX7_omit_0 57 rfl) (by decide) ?_
    refine lv_iconst (v := 1) hx hb (z_d hX7_omit_0 58 rfl) (by decide) ?_
    refine z_bnd hF (fun q17 hq17 hF => ?_)
    refine z_mu0 (z_rV (As := [.int x2, .int 3, .int 1]) (rest := []) hx hb hml hown hts vt_X7_puts (c_X7_puts l Z Am M x2 3 1 _ hq17) rfl rfl ⟨Nat.le_of_ble_eq_true rfl, Nat.le_of_ble_eq_true rfl⟩ k_m_X7_125 zPmu_blind (z_recv (q := (RX7, TX7, 19)) (ci := 7) (q0 := 0) hK (zP_reg hP 0 rfl) rfl rfl) (z_prem hK hP hD) rfl hl.1 (Nat.le_of_ble_eq_true rfl) (z_d hX7_omit_0 59 rfl) ⟨Nat.zero_le _, Nat.zero_le _⟩) hS hD (adr_Model _ _ _ _) (fun H locs hP hD hS => ?_)
    have hP : va_P Z.1 vwCl (l_Model Z.2.1 Am q17.1 q17.2.1 q17.2.2.1 q17.2.2.2.1 q17.2.2.2.2.1 q17.2.2.2.2.2.1 q17.2.2.2.2.2.2.1 q17.2.2.2.2.2.2.2.1 q17.2.2.2.2.2.2.2.2.1 q17.2.2.2.2.2.2.2.2.2.1 q17.2.2.2.2.2.2.2.2.2.2.1 q17.2.2.2.2.2.2.2.2.2.2.2.1 q17.2.2.2.2.2.2.2.2.2.2.2.2.1 q17.2.2.2.2.2.2.2.2.2.2.2.2.2.1 q17.2.2.2.2.2.2.2.2.2.2.2.2.2.2.1 q17.2.2.2.2.2.2.2.2.2.2.2.2.2.2.2.1 q17.2.2.2.2.2.2.2.2.2.2.2.2.2.2.2.2.1 q17.2.2.2.2.2.2.2.2.2.2.2.2.2.2.2.2.2.1 q17.2.2.2.2.2.2.2.2.2.2.2.2.2.2.2.2.2.2).flatten H := hP
    have hD : va_D A (l_Model Z.2.1 Am q17.1 q17.2.1 q17.2.2.1 q17.2.2.2.1 q17.2.2.2.2.1 q17.2.2.2.2.2.1 q17.2.2.2.2.2.2.1 q17.2.2.2.2.2.2.2.1 q17.2.2.2.2.2.2.2.2.1 q17.2.2.2.2.2.2.2.2.2.1 q17.2.2.2.2.2.2.2.2.2.2.1 q17.2.2.2.2.2.2.2.2.2.2.2.1 q17.2.2.2.2.2.2.2.2.2.2.2.2.1 q17.2.2.2.2.2.2.2.2.2.2.2.2.2.1 q17.2.2.2.2.2.2.2.2.2.2.2.2.2.2.1 q17.2.2.2.2.2.2.2.2.2.2.2.2.2.2.2.1 q17.2.2.2.2.2.2.2.2.2.2.2.2.2.2.2.2.1 q17.2.2.2.2.2.2.2.2.2.2.2.2.2.2.2.2.2.1 q17.2.2.2.2.2.2.2.2.2.2.2.2.2.2.2.2.2.2).flatten := hD
    refine W.eq (g2 := F0 m 98 ls []) rfl ?_
    refine lv_aload_n hx hb (z_d hX7_omit_1 0 rfl) rfl (lv_at hl 0 rfl) ?_
    refine lv_iload_n hx hb (z_d hX7_omit_1 1 rfl) rfl (lv_at hl 3 rfl) ?_
    refine z_bnd hF (fun q18 hq18 hF => ?_)
    refine z_mu0 (z_rV (As := [.int x3]) (rest := []) hx hb hml hown hts vt_X7_ends (c_X7_ends l Z Am q17 x3 _ hq18) rfl rfl ⟨Nat.le_of_ble_eq_true rfl, Nat.le_of_ble_eq_true rfl⟩ k_m_X7_146 zPmu_blind (z_recv (q := (RX7, TX7, 19)) (ci := 7) (q0 := 0) hK (zP_reg hP 0 rfl) rfl rfl) (z_prem hK hP hD) rfl hl.1 (Nat.le_of_ble_eq_true rfl) (z_d hX7_omit_1 2 rfl) ⟨Nat.zero_le _, Nat.zero_le _⟩) hS hD (adr_Model _ _ _ _) (fun H locs hP hD hS => ?_)
    have hP : va_P Z.1 vwCl (l_Model Z.2.1 Am q18.2.1 q18.2.2.1 q18.2.2.2.1 q18.2.2.2.2.1 q18.2.2.2.2.2.1 q18.2.2.2.2.2.2.1 q18.2.2.2.2.2.2.2.1 q18.2.2.2.2.2.2.2.2.1 q18.2.2.2.2.2.2.2.2.2.1 q18.2.2.2.2.2.2.2.2.2.2.1 q18.2.2.2.2.2.2.2.2.2.2.2.1 q18.2.2.2.2.2.2.2.2.2.2.2.2.1 q18.2.2.2.2.2.2.2.2.2.2.2.2.2.1 q18.2.2.2.2.2.2.2.2.2.2.2.2.2.2.1 q18.2.2.2.2.2.2.2.2.2.2.2.2.2.2.2.1 q18.2.2.2.2.2.2.2.2.2.2.2.2.2.2.2.2.1 q18.2.2.2.2.2.2.2.2.2.2.2.2.2.2.2.2.2.1 q18.2.2.2.2.2.2.2.2.2.2.2.2.2.2.2.2.2.2.1 q18.2.2.2.2.2.2.2.2.2.2.2.2.2.2.2.2.2.2.2).flatten H := hP
    have hD : va_D A (l_Model Z.2.1 Am q18.2.1 q18.2.2.1 q18.2.2.2.1 q18.2.2.2.2.1 q18.2.2.2.2.2.1 q18.2.2.2.2.2.2.1 q18.2.2.2.2.2.2.2.1 q18.2.2.2.2.2.2.2.2.1 q18.2.2.2.2.2.2.2.2.2.1 q18.2.2.2.2.2.2.2.2.2.2.1 q18.2.2.2.2.2.2.2.2.2.2.2.1 q18.2.2.2.2.2.2.2.2.2.2.2.2.1 q18.2.2.2.2.2.2.2.2.2.2.2.2.2.1 q18.2.2.2.2.2.2.2.2.2.2.2.2.2.2.1 q18.2.2.2.2.2.2.2.2.2.2.2.2.2.2.2.1 q18.2.2.2.2.2.2.2.2.2.2.2.2.2.2.2.2.1 q18.2.2.2.2.2.2.2.2.2.2.2.2.2.2.2.2.2.1 q18.2.2.2.2.2.2.2.2.2.2.2.2.2.2.2.2.2.2.1 q18.2.2.2.2.2.2.2.2.2.2.2.2.2.2.2.2.2.2.2).flatten := hD
    refine W.eq (g2 := F0 m 103 ls [.int q18.1]) rfl ?_
    obtain rfl := Option.some.inj hF
    subst hQ
    subst hA
    exact W.iret hx hb hr (fun t ht hW => zq_mu (by rw [ht]; exact hP) (hS.F ht)) hS.2.2 (z_d hX7_omit_1 3 rfl)
  refine lv_iload_n hx hb (z_d hX7_omit_0 0 rfl) rfl (lv_at hl 1 rfl) ?_
  refine lv_iconst (v := 0) hx hb (z_d hX7_omit_0 1 rfl) (by decide) ?_
  refine lv_aload_n hx hb (z_d hX7_omit_0 2 rfl) rfl (lv_at hl 0 rfl) ?_
  refine z_bnd hF (fun q1 hq1 hF => ?_)
  refine z_ro_i (z_rV (As := []) (rest := [.int 0, .int p1]) hx hb hml hown hts vt_X7_sceneMany (c_X7_sceneMany l Z Am M _ hq1) rfl rfl ⟨Nat.le_of_ble_eq_true rfl, Nat.le_of_ble_eq_true rfl⟩ k_m_X7_158 zPro_blind (z_recv (q := (RX7, TX7, 19)) (ci := 7) (q0 := 0) hK (zP_reg hP 0 rfl) rfl rfl) (z_prec hK hP) rfl hl.1 (Nat.le_of_ble_eq_true rfl) (z_d hX7_omit_0 3 rfl) ⟨Nat.zero_le _, Nat.zero_le _⟩) hS hP (fun H locs hP hS => ?_)
  refine lv_iconst (v := 1) hx hb (z_d hX7_omit_0 4 rfl) (by decide) ?_
  refine lv_isub hx hb (z_d hX7_omit_0 5 rfl) ?_
  refine z_let hF (fun u2 hu2 hF => ?_)
  refine lv_topE hu2 ?_
  refine z_let hF (fun q3 hq3 hF => ?_)
  refine z_ro_i (z_rS (As := [.int p1, .int 0, .int u2]) (rest := []) hx hb hml hown hts vs_X7_in (c_X7_in l Z p1 0 u2 _ hq3) rfl rfl ⟨Nat.le_of_ble_eq_true rfl, Nat.le_of_ble_eq_true rfl⟩ k_m_X7_58 zPro_blind (z_prec hK zP_nil) rfl hl.1 (Nat.le_of_ble_eq_true rfl) (z_d hX7_omit_0 6 rfl) ⟨Nat.zero_le _, Nat.zero_le _⟩) hS hP (fun H locs hP hS => ?_)
  refine lv_if_ne (tgt := 20) hx hb (z_d hX7_omit_0 7 rfl) (by decide) (fun hc11 => ?_) (fun hc11 => ?_)
  · have hF := z_neg hc11 hF
    refine lv_aload_n hx hb (z_d hX7_omit_0 12 rfl) rfl (lv_at hl 0 rfl) ?_
    refine lv_iload_n hx hb (z_d hX7_omit_0 13 rfl) rfl (lv_at hl 1 rfl) ?_
    refine z_bnd hF (fun q4 hq4 hF => ?_)
    refine z_ro_i (z_rV (As := [.int p1]) (rest := []) hx hb hml hown hts vt_X7_headingOf (c_X7_headingOf l Z Am M p1 _ hq4) rfl rfl ⟨Nat.le_of_ble_eq_true rfl, Nat.le_of_ble_eq_true rfl⟩ k_m_X7_161 zPro_blind (z_recv (q := (RX7, TX7, 19)) (ci := 7) (q0 := 0) hK (zP_reg hP 0 rfl) rfl rfl) (z_prec hK hP) rfl hl.1 (Nat.le_of_ble_eq_true rfl) (z_d hX7_omit_0 14 rfl) ⟨Nat.zero_le _, Nat.zero_le _⟩) hS hP (fun H locs hP hS => ?_)
    refine lv_istore_n (lv' := [(2, .int q4), (0, .ref (Am 0)), (1, .int p1)]) hx hb (z_d hX7_omit_0 15 rfl) rfl hl (by decide) rfl (fun ls hl => ?_)
    refine lv_aload_n hx hb (z_d hX7_omit_0 16 rfl) rfl (lv_at hl 1 rfl) ?_
    refine lv_iload_n hx hb (z_d hX7_omit_0 17 rfl) rfl (lv_at hl 0 rfl) ?_
    refine z_bnd hF (fun q5 hq5 hF => ?_)
    refine z_ro_i (z_rV (As := [.int q4]) (rest := []) hx hb hml hown hts vt_X7_isLocked (c_X7_isLocked l Z Am M q4 _ hq5) rfl rfl ⟨Nat.le_of_ble_eq_true rfl, Nat.le_of_ble_eq_true rfl⟩ k_m_X7_88 zPro_blind (z_recv (q := (RX7, TX7, 19)) (ci := 7) (q0 := 0) hK (zP_reg hP 0 rfl) rfl rfl) (z_prec hK hP) rfl hl.1 (Nat.le_of_ble_eq_true rfl) (z_d hX7_omit_0 18 rfl) ⟨Nat.zero_le _, Nat.zero_le _⟩) hS hP (fun H locs hP hS => ?_)
    refine lv_if_eq (tgt := 44) hx hb (z_d hX7_omit_0 19 rfl) (by decide) (fun hc31 => ?_) (fun hc31 => ?_)
    · have hF := z_pos hc31 hF
      exact J44 M hF _ _ ls hP hD hS (lv_sub hl [1, 2] rfl)
    · have hF := z_neg hc31 hF
      refine lv_aload_n hx hb (z_d hX7_omit_0 20 rfl) rfl (lv_at hl 1 rfl) ?_
      refine lv_iload_n hx hb (z_d hX7_omit_0 21 rfl) rfl (lv_at hl 0 rfl) ?_
      refine lv_iconst (v := 3) hx hb (z_d hX7_omit_0 22 rfl) (by decide) ?_
      refine z_bnd hF (fun q7 hq7 hF => ?_)
      refine z_ro_i (z_rV (As := [.int q4, .int 3]) (rest := []) hx hb hml hown hts vt_X7_of (c_X7_of l Z Am M q4 3 _ hq7) rfl rfl ⟨Nat.le_of_ble_eq_true rfl, Nat.le_of_ble_eq_true rfl⟩ k_m_X7_62 zPro_blind (z_recv (q := (RX7, TX7, 19)) (ci := 7) (q0 := 0) hK (zP_reg hP 0 rfl) rfl rfl) (z_prec hK hP) rfl hl.1 (Nat.le_of_ble_eq_true rfl) (z_d hX7_omit_0 23 rfl) ⟨Nat.zero_le _, Nat.zero_le _⟩) hS hP (fun H locs hP hS => ?_)
      refine lv_iconst (v := 1) hx hb (z_d hX7_omit_0 24 rfl) (by decide) ?_
      refine lv_icmp_ne (tgt := 50) hx hb (z_d hX7_omit_0 25 rfl) (by decide) (fun hc41 => ?_) (fun hc41 => ?_)
      · have hF := z_neg hc41 hF
        refine lv_aload_n hx hb (z_d hX7_omit_0 30 rfl) rfl (lv_at hl 1 rfl) ?_
        refine z_bnd hF (fun q8 hq8 hF => ?_)
        refine z_mu0 (z_rV (As := []) (rest := []) hx hb hml hown hts vt_X7_hold (c_X7_hold l Z Am M _ hq8) rfl rfl ⟨Nat.le_of_ble_eq_true rfl, Nat.le_of_ble_eq_true rfl⟩ k_m_X7_135 zPmu_blind (z_recv (q := (RX7, TX7, 19)) (ci := 7) (q0 := 0) hK (zP_reg hP 0 rfl) rfl rfl) (z_prem hK hP hD) rfl hl.1 (Nat.le_of_ble_eq_true rfl) (z_d hX7_omit_0 31 rfl) ⟨Nat.zero_le _, Nat.zero_le _⟩) hS hD (adr_Model _ _ _ _) (fun H locs hP hD hS => ?_)
        have hP : va_P Z.1 vwCl (l_Model Z.2.1 Am q8.1 q8.2.1 q8.2.2.1 q8.2.2.2.1 q8.2.2.2.2.1 q8.2.2.2.2.2.1 q8.2.2.2.2.2.2.1 q8.2.2.2.2.2.2.2.1 q8.2.2.2.2.2.2.2.2.1 q8.2.2.2.2.2.2.2.2.2.1 q8.2.2.2.2.2.2.2.2.2.2.1 q8.2.2.2.2.2.2.2.2.2.2.2.1 q8.2.2.2.2.2.2.2.2.2.2.2.2.1 q8.2.2.2.2.2.2.2.2.2.2.2.2.2.1 q8.2.2.2.2.2.2.2.2.2.2.2.2.2.2.1 q8.2.2.2.2.2.2.2.2.2.2.2.2.2.2.2.1 q8.2.2.2.2.2.2.2.2.2.2.2.2.2.2.2.2.1 q8.2.2.2.2.2.2.2.2.2.2.2.2.2.2.2.2.2.1 q8.2.2.2.2.2.2.2.2.2.2.2.2.2.2.2.2.2.2).flatten H := hP
        have hD : va_D A (l_Model Z.2.1 Am q8.1 q8.2.1 q8.2.2.1 q8.2.2.2.1 q8.2.2.2.2.1 q8.2.2.2.2.2.1 q8.2.2.2.2.2.2.1 q8.2.2.2.2.2.2.2.1 q8.2.2.2.2.2.2.2.2.1 q8.2.2.2.2.2.2.2.2.2.1 q8.2.2.2.2.2.2.2.2.2.2.1 q8.2.2.2.2.2.2.2.2.2.2.2.1 q8.2.2.2.2.2.2.2.2.2.2.2.2.1 q8.2.2.2.2.2.2.2.2.2.2.2.2.2.1 q8.2.2.2.2.2.2.2.2.2.2.2.2.2.2.1 q8.2.2.2.2.2.2.2.2.2.2.2.2.2.2.2.1 q8.2.2.2.2.2.2.2.2.2.2.2.2.2.2.2.2.1 q8.2.2.2.2.2.2.2.2.2.2.2.2.2.2.2.2.2.1 q8.2.2.2.2.2.2.2.2.2.2.2.2.2.2.2.2.2.2).flatten := hD
        refine W.eq (g2 := F0 m 54 ls []) rfl ?_
        refine lv_iconst (v := 0) hx hb (z_d hX7_omit_0 32 rfl) (by decide) ?_
        refine lv_istore_n (lv' := [(3, .int 0), (2, .int q4), (0, .ref (Am 0)), (1, .int p1)]) hx hb (z_d hX7_omit_0 33 rfl) rfl hl (by decide) rfl (fun ls hl => ?_)
        refine z_bnd hF (fun q16 hq16 hF => ?_)
        refine L56 q4 _ _ _ hq16 _ _ ls hP hD hS (lv_sub hl [2, 3, 1, 0] rfl) (fun H locs ls hP hD hS hl => ?_)
        exact J91 q16.1 q4 q16.2 hF _ _ ls hP hD hS (lv_sub hl [0, 1, 2, 3] rfl)
      · have hF := z_pos hc41 hF
        exact J44 M hF _ _ ls hP hD hS (lv_sub hl [1, 2] rfl)
  · have hF := z_pos hc11 hF
    refine lv_aload_n hx hb (z_d hX7_omit_0 8 rfl) rfl (lv_at hl 0 rfl) ?_
    refine lv_iconst (v := 1) hx hb (z_d hX7_omit_0 9 rfl) (by decide) ?_
    refine z_let hF (fun q19 hq19 hF => ?_)
    refine z_mu0 (z_rV (As := [.int 1]) (rest := []) hx hb hml hown hts vt_X7_fails (c_X7_fails l Z Am M 1 _ hq19) rfl rfl ⟨Nat.le_of_ble_eq_true rfl, Nat.le_of_ble_eq_true rfl⟩ k_m_X7_129 zPmu_blind (z_recv (q := (RX7, TX7, 19)) (ci := 7) (q0 := 0) hK (zP_reg hP 0 rfl) rfl rfl) (z_prem hK hP hD) rfl hl.1 (Nat.le_of_ble_eq_true rfl) (z_d hX7_omit_0 10 rfl) ⟨Nat.zero_le _, Nat.zero_le _⟩) hS hD (adr_Model _ _ _ _) (fun H locs hP hD hS => ?_)
    have hP : va_P Z.1 vwCl (l_Model Z.2.1 Am q19.2.1 q19.2.2.1 q19.2.2.2.1 q19.2.2.2.2.1 q19.2.2.2.2.2.1 q19.2.2.2.2.2.2.1 q19.2.2.2.2.2.2.2.1 q19.2.2.2.2.2.2.2.2.1 q19.2.2.2.2.2.2.2.2.2.1 q19.2.2.2.2.2.2.2.2.2.2.1 q19.2.2.2.2.2.2.2.2.2.2.2.1 q19.2.2.2.2.2.2.2.2.2.2.2.2.1 q19.2.2.2.2.2.2.2.2.2.2.2.2.2.1 q19.2.2.2.2.2.2.2.2.2.2.2.2.2.2.1 q19.2.2.2.2.2.2.2.2.2.2.2.2.2.2.2.1 q19.2.2.2.2.2.2.2.2.2.2.2.2.2.2.2.2.1 q19.2.2.2.2.2.2.2.2.2.2.2.2.2.2.2.2.2.1 q19.2.2.2.2.2.2.2.2.2.2.2.2.2.2.2.2.2.2.1 q19.2.2.2.2.2.2.2.2.2.2.2.2.2.2.2.2.2.2.2).flatten H := hP
    have hD : va_D A (l_Model Z.2.1 Am q19.2.1 q19.2.2.1 q19.2.2.2.1 q19.2.2.2.2.1 q19.2.2.2.2.2.1 q19.2.2.2.2.2.2.1 q19.2.2.2.2.2.2.2.1 q19.2.2.2.2.2.2.2.2.1 q19.2.2.2.2.2.2.2.2.2.1 q19.2.2.2.2.2.2.2.2.2.2.1 q19.2.2.2.2.2.2.2.2.2.2.2.1 q19.2.2.2.2.2.2.2.2.2.2.2.2.1 q19.2.2.2.2.2.2.2.2.2.2.2.2.2.1 q19.2.2.2.2.2.2.2.2.2.2.2.2.2.2.1 q19.2.2.2.2.2.2.2.2.2.2.2.2.2.2.2.1 q19.2.2.2.2.2.2.2.2.2.2.2.2.2.2.2.2.1 q19.2.2.2.2.2.2.2.2.2.2.2.2.2.2.2.2.2.1 q19.2.2.2.2.2.2.2.2.2.2.2.2.2.2.2.2.2.2.1 q19.2.2.2.2.2.2.2.2.2.2.2.2.2.2.2.2.2.2.2).flatten := hD
    refine W.eq (g2 := F0 m 19 ls [.int q19.1]) rfl ?_
    obtain rfl := Option.some.inj hF
    subst hQ
    subst hA
    exact W.iret hx hb hr (fun t ht hW => zq_mu (by rw [ht]; exact hP) (hS.F ht)) hS.2.2 (z_d hX7_omit_0 11 rfl)
def rm_X7_lockPages : Room := { frames := 6, cells := 0, slots := 0, locals := 141 }
set_option maxRecDepth 100000 in
set_option maxHeartbeats 4000000 in
theorem c_X7_lockPages (l : Launch) (Z : zZ) (Am : Nat → Nat) (M : t_Model) (R : Int32 × t_Model) (hF : X7_lockPages M = some R) : zMU l yX7_lockPages (zw yX7_lockPages cX7_lockPages 3 (some .int)) rm_X7_lockPages Z [.ref (Am 0)] (w_Model Z.2.1 Am M) (w_Model Z.2.1 Am R.2) (some (.int R.1)) := by
  refine zMU_of (by decide) (Nat.le_of_ble_eq_true rfl) (fun p e s m below meth c hx hb hr hml hown hts hlocks hK A hA Q hQ ls hl hP hD hS => ?_)
  unfold X7_lockPages at hF
  have hl : lv_has ls 3 [(0, .ref (Am 0))] := hl
  have hown : s.vm.findClass RX7 = some m.cls := hown
  have hP : va_P Z.1 vwCl (l_Model Z.2.1 Am M.1 M.2.1 M.2.2.1 M.2.2.2.1 M.2.2.2.2.1 M.2.2.2.2.2.1 M.2.2.2.2.2.2.1 M.2.2.2.2.2.2.2.1 M.2.2.2.2.2.2.2.2.1 M.2.2.2.2.2.2.2.2.2.1 M.2.2.2.2.2.2.2.2.2.2.1 M.2.2.2.2.2.2.2.2.2.2.2.1 M.2.2.2.2.2.2.2.2.2.2.2.2.1 M.2.2.2.2.2.2.2.2.2.2.2.2.2.1 M.2.2.2.2.2.2.2.2.2.2.2.2.2.2.1 M.2.2.2.2.2.2.2.2.2.2.2.2.2.2.2.1 M.2.2.2.2.2.2.2.2.2.2.2.2.2.2.2.2.1 M.2.2.2.2.2.2.2.2.2.2.2.2.2.2.2.2.2.1 M.2.2.2.2.2.2.2.2.2.2.2.2.2.2.2.2.2.2).flatten s.heap := hP
  have hD : va_D A (l_Model Z.2.1 Am M.1 M.2.1 M.2.2.1 M.2.2.2.1 M.2.2.2.2.1 M.2.2.2.2.2.1 M.2.2.2.2.2.2.1 M.2.2.2.2.2.2.2.1 M.2.2.2.2.2.2.2.2.1 M.2.2.2.2.2.2.2.2.2.1 M.2.2.2.2.2.2.2.2.2.2.1 M.2.2.2.2.2.2.2.2.2.2.2.1 M.2.2.2.2.2.2.2.2.2.2.2.2.1 M.2.2.2.2.2.2.2.2.2.2.2.2.2.1 M.2.2.2.2.2.2.2.2.2.2.2.2.2.2.1 M.2.2.2.2.2.2.2.2.2.2.2.2.2.2.2.1 M.2.2.2.2.2.2.2.2.2.2.2.2.2.2.2.2.1 M.2.2.2.2.2.2.2.2.2.2.2.2.2.2.2.2.2.1 M.2.2.2.2.2.2.2.2.2.2.2.2.2.2.2.2.2.2).flatten := hD
  have L16 : ∀  (n : Nat) (v : t_Model × Int32) (X : t_Model) (hF : zloop (b_X7_lockPages_16  ) n v = some X) (H : Heap) (locs : List Loc) (ls : Array Slot) (hP : va_P Z.1 vwCl (l_Model Z.2.1 Am v.1.1 v.1.2.1 v.1.2.2.1 v.1.2.2.2.1 v.1.2.2.2.2.1 v.1.2.2.2.2.2.1 v.1.2.2.2.2.2.2.1 v.1.2.2.2.2.2.2.2.1 v.1.2.2.2.2.2.2.2.2.1 v.1.2.2.2.2.2.2.2.2.2.1 v.1.2.2.2.2.2.2.2.2.2.2.1 v.1.2.2.2.2.2.2.2.2.2.2.2.1 v.1.2.2.2.2.2.2.2.2.2.2.2.2.1 v.1.2.2.2.2.2.2.2.2.2.2.2.2.2.1 v.1.2.2.2.2.2.2.2.2.2.2.2.2.2.2.1 v.1.2.2.2.2.2.2.2.2.2.2.2.2.2.2.2.1 v.1.2.2.2.2.2.2.2.2.2.2.2.2.2.2.2.2.1 v.1.2.2.2.2.2.2.2.2.2.2.2.2.2.2.2.2.2.1 v.1.2.2.2.2.2.2.2.2.2.2.2.2.2.2.2.2.2.2).flatten H) (hD : va_D A (l_Model Z.2.1 Am v.1.1 v.1.2.1 v.1.2.2.1 v.1.2.2.2.1 v.1.2.2.2.2.1 v.1.2.2.2.2.2.1 v.1.2.2.2.2.2.2.1 v.1.2.2.2.2.2.2.2.1 v.1.2.2.2.2.2.2.2.2.1 v.1.2.2.2.2.2.2.2.2.2.1 v.1.2.2.2.2.2.2.2.2.2.2.1 v.1.2.2.2.2.2.2.2.2.2.2.2.1 v.1.2.2.2.2.2.2.2.2.2.2.2.2.1 v.1.2.2.2.2.2.2.2.2.2.2.2.2.2.1 v.1.2.2.2.2.2.2.2.2.2.2.2.2.2.2.1 v.1.2.2.2.2.2.2.2.2.2.2.2.2.2.2.2.1 v.1.2.2.2.2.2.2.2.2.2.2.2.2.2.2.2.2.1 v.1.2.2.2.2.2.2.2.2.2.2.2.2.2.2.2.2.2.1 v.1.2.2.2.2.2.2.2.2.2.2.2.2.2.2.2.2.2.2).flatten) (hS : va_S A s.heap H locs) (hl : lv_has ls 3 [(0, .ref (Am 0)), (1, .int v.2)]) (K1 : ∀ (H : Heap) (locs : List Loc) (ls : Array Slot) (hP : va_P Z.1 vwCl (l_Model Z.2.1 Am X.1 X.2.1 X.2.2.1 X.2.2.2.1 X.2.2.2.2.1 X.2.2.2.2.2.1 X.2.2.2.2.2.2.1 X.2.2.2.2.2.2.2.1 X.2.2.2.2.2.2.2.2.1 X.2.2.2.2.2.2.2.2.2.1 X.2.2.2.2.2.2.2.2.2.2.1 X.2.2.2.2.2.2.2.2.2.2.2.1 X.2.2.2.2.2.2.2.2.2.2.2.2.1 X.2.2.2.2.2.2.2.2.2.2.2.2.2.1 X.2.2.2.2.2.2.2.2.2.2.2.2.2.2.1 X.2.2.2.2.2.2.2.2.2.2.2.2.2.2.2.1 X.2.2.2.2.2.2.2.2.2.2.2.2.2.2.2.2.1 X.2.2.2.2.2.2.2.2.2.2.2.2.2.2.2.2.2.1 X.2.2.2.2.2.2.2.2.2.2.2.2.2.2.2.2.2.2).flatten H) (hD : va_D A (l_Model Z.2.1 Am X.1 X.2.1 X.2.2.1 X.2.2.2.1 X.2.2.2.2.1 X.2.2.2.2.2.1 X.2.2.2.2.2.2.1 X.2.2.2.2.2.2.2.1 X.2.2.2.2.2.2.2.2.1 X.2.2.2.2.2.2.2.2.2.1 X.2.2.2.2.2.2.2.2.2.2.1 X.2.2.2.2.2.2.2.2.2.2.2.1 X.2.2.2.2.2.2.2.2.2.2.2.2.1 X.2.2.2.2.2.2.2.2.2.2.2.2.2.1 X.2.2.2.2.2.2.2.2.2.2.2.2.2.2.1 X.2.2.2.2.2.2.2.2.2.2.2.2.2.2.2.1 X.2.2.2.2.2.2.2.2.2.2.2.2.2.2.2.2.1 X.2.2.2.2.2.2.2.2.2.2.2.2.2.2.2.2.2.1 X.2.2.2.2.2.2.2.2.2.2.2.2.2.2.2.2.2.2).flatten) (hS : va_S A s.heap H locs) (hl : lv_has ls 3 [(0, .ref (Am 0))]), W p l e rm_X7_lockPages s m ([.ref (Am 0)] : List Value).toArray below meth c H locs 0 0 Q (F0 m 40 ls [])), W p l e rm_X7_lockPages s m ([.ref (Am 0)] : List Value).toArray below meth c H locs 0 0 Q (F0 m 16 ls []) := by
    skip
    refine z_loopE (fun rec ih v X hF H locs ls hP hD hS hl K1 => ?_)
    unfold b_X7_lockPages_16 at hF
    refine lv_iload_n hx hb (z_d hX7_lockPages_0 10 rfl) rfl (lv_at hl 1 rfl) ?_
    refine lv_aload_n hx hb (z_d hX7_lockPages_0 11 rfl) rfl (lv_at hl 0 rfl) ?_
    refine va_get (D := Z.1) (ci := 7) (v := .ref (Am 1)) (C := RX7) (T := TX7) (N := 19) hx hb hts zinX7 hown hK.1 (zP_reg hP 0 rfl) 0 rfl rfl 0 (by decide) (hts _ k_f_X7_7) (fun _ h9 => h9) rfl (z_d hX7_lockPages_0 12 rfl) ?_
    refine lv_iconst (v := 1) hx hb (z_d hX7_lockPages_0 13 rfl) (by decide) ?_
    refine z_ix hF (fun hin hF => ?_)
    refine va_iald (D := Z.1) (f := v.1.1) hx hb hK.1 (zP_reg hP 1 rfl) 0 0 rfl rfl hin (z_d hX7_lockPages_0 14 rfl) ?_
    refine z_let hF (fun u4 hu4 hF => ?_)
    refine lv_topE hu4 ?_
    refine lv_icmp_ge (tgt := 40) hx hb (z_d hX7_lockPages_0 15 rfl) (by decide) (fun hc23 => ?_) (fun hc23 => ?_)
    · have hF := z_pos hc23 hF
      obtain rfl := Option.some.inj hF
      exact K1 _ _ ls hP hD hS (lv_sub hl [0] rfl)
    · have hF := z_neg hc23 hF
      refine lv_aload_n hx hb (z_d hX7_lockPages_0 16 rfl) rfl (lv_at hl 0 rfl) ?_
      refine lv_iload_n hx hb (z_d hX7_lockPages_0 17 rfl) rfl (lv_at hl 1 rfl) ?_
      refine lv_bipush (v := 8) hx hb (z_d hX7_lockPages_0 18 rfl) (by decide) ?_
      refine lv_iconst (v := (-1)) hx hb (z_d hX7_lockPages_0 19 rfl) (by decide) ?_
      refine z_bnd hF (fun q5 hq5 hF => ?_)
      refine z_mu0 (z_rV (As := [.int v.2, .int 8, .int (-1)]) (rest := []) hx hb hml hown hts vt_X7_puts (c_X7_puts l Z Am v.1 v.2 8 (-1) _ hq5) rfl rfl ⟨Nat.le_of_ble_eq_true rfl, Nat.le_of_ble_eq_true rfl⟩ k_m_X7_125 zPmu_blind (z_recv (q := (RX7, TX7, 19)) (ci := 7) (q0 := 0) hK (zP_reg hP 0 rfl) rfl rfl) (z_prem hK hP hD) rfl hl.1 (Nat.le_of_ble_eq_true rfl) (z_d hX7_lockPages_0 20 rfl) ⟨Nat.zero_le _, Nat.zero_le _⟩) hS hD (adr_Model _ _ _ _) (fun H locs hP hD hS => ?_)
      have hP : va_P Z.1 vwCl (l_Model Z.2.1 Am q5.1 q5.2.1 q5.2.2.1 q5.2.2.2.1 q5.2.2.2.2.1 q5.2.2.2.2.2.1 q5.2.2.2.2.2.2.1 q5.2.2.2.2.2.2.2.1 q5.2.2.2.2.2.2.2.2.1 q5.2.2.2.2.2.2.2.2.2.1 q5.2.2.2.2.2.2.2.2.2.2.1 q5.2.2.2.2.2.2.2.2.2.2.2.1 q5.2.2.2.2.2.2.2.2.2.2.2.2.1 q5.2.2.2.2.2.2.2.2.2.2.2.2.2.1 q5.2.2.2.2.2.2.2.2.2.2.2.2.2.2.1 q5.2.2.2.2.2.2.2.2.2.2.2.2.2.2.2.1 q5.2.2.2.2.2.2.2.2.2.2.2.2.2.2.2.2.1 q5.2.2.2.2.2.2.2.2.2.2.2.2.2.2.2.2.2.1 q5.2.2.2.2.2.2.2.2.2.2.2.2.2.2.2.2.2.2).flatten H := hP
      have hD : va_D A (l_Model Z.2.1 Am q5.1 q5.2.1 q5.2.2.1 q5.2.2.2.1 q5.2.2.2.2.1 q5.2.2.2.2.2.1 q5.2.2.2.2.2.2.1 q5.2.2.2.2.2.2.2.1 q5.2.2.2.2.2.2.2.2.1 q5.2.2.2.2.2.2.2.2.2.1 q5.2.2.2.2.2.2.2.2.2.2.1 q5.2.2.2.2.2.2.2.2.2.2.2.1 q5.2.2.2.2.2.2.2.2.2.2.2.2.1 q5.2.2.2.2.2.2.2.2.2.2.2.2.2.1 q5.2.2.2.2.2.2.2.2.2.2.2.2.2.2.1 q5.2.2.2.2.2.2.2.2.2.2.2.2.2.2.2.1 q5.2.2.2.2.2.2.2.2.2.2.2.2.2.2.2.2.1 q5.2.2.2.2.2.2.2.2.2.2.2.2.2.2.2.2.2.1 q5.2.2.2.2.2.2.2.2.2.2.2.2.2.2.2.2.2.2).flatten := hD
      refine W.eq (g2 := F0 m 34 ls []) rfl ?_
      refine z_let hF (fun u6 hu6 hF => ?_)
      refine lv_iinc (v := u6) (lv' := [(1, .int u6), (0, .ref (Am 0))]) hx hb (z_d hX7_lockPages_0 21 rfl) hl (k := 1) rfl (z_inc1 hu6) (by decide) rfl (fun ls hl => ?_)
      refine lv_goto (tgt := 16) hx hb (z_d hX7_lockPages_0 22 rfl) (by decide) ?_
      exact ih _ _ hF _ _ ls hP hD hS (lv_sub hl [1, 0] rfl) K1
  have L44 : ∀  (n : Nat) (v : t_Model × Int32 × Int32) (X : t_Model × Int32) (hF : zloop (b_X7_lockPages_44  ) n v = some X) (H : Heap) (locs : List Loc) (ls : Array Slot) (hP : va_P Z.1 vwCl (l_Model Z.2.1 Am v.1.1 v.1.2.1 v.1.2.2.1 v.1.2.2.2.1 v.1.2.2.2.2.1 v.1.2.2.2.2.2.1 v.1.2.2.2.2.2.2.1 v.1.2.2.2.2.2.2.2.1 v.1.2.2.2.2.2.2.2.2.1 v.1.2.2.2.2.2.2.2.2.2.1 v.1.2.2.2.2.2.2.2.2.2.2.1 v.1.2.2.2.2.2.2.2.2.2.2.2.1 v.1.2.2.2.2.2.2.2.2.2.2.2.2.1 v.1.2.2.2.2.2.2.2.2.2.2.2.2.2.1 v.1.2.2.2.2.2.2.2.2.2.2.2.2.2.2.1 v.1.2.2.2.2.2.2.2.2.2.2.2.2.2.2.2.1 v.1.2.2.2.2.2.2.2.2.2.2.2.2.2.2.2.2.1 v.1.2.2.2.2.2.2.2.2.2.2.2.2.2.2.2.2.2.1 v.1.2.2.2.2.2.2.2.2.2.2.2.2.2.2.2.2.2.2).flatten H) (hD : va_D A (l_Model Z.2.1 Am v.1.1 v.1.2.1 v.1.2.2.1 v.1.2.2.2.1 v.1.2.2.2.2.1 v.1.2.2.2.2.2.1 v.1.2.2.2.2.2.2.1 v.1.2.2.2.2.2.2.2.1 v.1.2.2.2.2.2.2.2.2.1 v.1.2.2.2.2.2.2.2.2.2.1 v.1.2.2.2.2.2.2.2.2.2.2.1 v.1.2.2.2.2.2.2.2.2.2.2.2.1 v.1.2.2.2.2.2.2.2.2.2.2.2.2.1 v.1.2.2.2.2.2.2.2.2.2.2.2.2.2.1 v.1.2.2.2.2.2.2.2.2.2.2.2.2.2.2.1 v.1.2.2.2.2.2.2.2.2.2.2.2.2.2.2.2.1 v.1.2.2.2.2.2.2.2.2.2.2.2.2.2.2.2.2.1 v.1.2.2.2.2.2.2.2.2.2.2.2.2.2.2.2.2.2.1 v.1.2.2.2.2.2.2.2.2.2.2.2.2.2.2.2.2.2.2).flatten) (hS : va_S A s.heap H locs) (hl : lv_has ls 3 [(0, .ref (Am 0)), (1, .int v.2.1), (2, .int v.2.2)]) (K1 : ∀ (H : Heap) (locs : List Loc) (ls : Array Slot) (hP : va_P Z.1 vwCl (l_Model Z.2.1 Am X.1.1 X.1.2.1 X.1.2.2.1 X.1.2.2.2.1 X.1.2.2.2.2.1 X.1.2.2.2.2.2.1 X.1.2.2.2.2.2.2.1 X.1.2.2.2.2.2.2.2.1 X.1.2.2.2.2.2.2.2.2.1 X.1.2.2.2.2.2.2.2.2.2.1 X.1.2.2.2.2.2.2.2.2.2.2.1 X.1.2.2.2.2.2.2.2.2.2.2.2.1 X.1.2.2.2.2.2.2.2.2.2.2.2.2.1 X.1.2.2.2.2.2.2.2.2.2.2.2.2.2.1 X.1.2.2.2.2.2.2.2.2.2.2.2.2.2.2.1 X.1.2.2.2.2.2.2.2.2.2.2.2.2.2.2.2.1 X.1.2.2.2.2.2.2.2.2.2.2.2.2.2.2.2.2.1 X.1.2.2.2.2.2.2.2.2.2.2.2.2.2.2.2.2.2.1 X.1.2.2.2.2.2.2.2.2.2.2.2.2.2.2.2.2.2.2).flatten H) (hD : va_D A (l_Model Z.2.1 Am X.1.1 X.1.2.1 X.1.2.2.1 X.1.2.2.2.1 X.1.2.2.2.2.1 X.1.2.2.2.2.2.1 X.1.2.2.2.2.2.2.1 X.1.2.2.2.2.2.2.2.1 X.1.2.2.2.2.2.2.2.2.1 X.1.2.2.2.2.2.2.2.2.2.1 X.1.2.2.2.2.2.2.2.2.2.2.1 X.1.2.2.2.2.2.2.2.2.2.2.2.1 X.1.2.2.2.2.2.2.2.2.2.2.2.2.1 X.1.2.2.2.2.2.2.2.2.2.2.2.2.2.1 X.1.2.2.2.2.2.2.2.2.2.2.2.2.2.2.1 X.1.2.2.2.2.2.2.2.2.2.2.2.2.2.2.2.1 X.1.2.2.2.2.2.2.2.2.2.2.2.2.2.2.2.2.1 X.1.2.2.2.2.2.2.2.2.2.2.2.2.2.2.2.2.2.1 X.1.2.2.2.2.2.2.2.2.2.2.2.2.2.2.2.2.2.2).flatten) (hS : va_S A s.heap H locs) (hl : lv_has ls 3 [(0, .ref (Am 0)), (1, .int X.2)]), W p l e rm_X7_lockPages s m ([.ref (Am 0)] : List Value).toArray below meth c H locs 0 0 Q (F0 m 84 ls [])), W p l e rm_X7_lockPages s m ([.ref (Am 0)] : List Value).toArray below meth c H locs 0 0 Q (F0 m 44 ls []) := by
    skip
    refine z_loopE (fun rec ih v X hF H locs ls hP hD hS hl K1 => ?_)
    unfold b_X7_lockPages_44 at hF
    refine lv_iload_n hx hb (z_d hX7_lockPages_0 27 rfl) rfl (lv_at hl 2 rfl) ?_
    refine lv_aload_n hx hb (z_d hX7_lockPages_0 28 rfl) rfl (lv_at hl 0 rfl) ?_
    refine va_get (D := Z.1) (ci := 7) (v := .int v.1.2.2.2.2.2.2.2.1) (C := RX7) (T := TX7) (N := 19) hx hb hts zinX7 hown hK.1 (zP_reg hP 0 rfl) 0 rfl rfl 7 (by decide) (hts _ k_f_X7_101) (fun _ h9 => h9) rfl (z_d hX7_lockPages_0 29 rfl) ?_
    refine lv_icmp_ge (tgt := 84) hx hb (z_d hX7_lockPages_0 30 rfl) (by decide) (fun hc49 => ?_) (fun hc49 => ?_)
    · have hF := z_pos hc49 hF
      obtain rfl := Option.some.inj hF
      exact K1 _ _ ls hP hD hS (lv_sub hl [0, 1] rfl)
    · have hF := z_neg hc49 hF
      refine lv_aload_n hx hb (z_d hX7_lockPages_0 31 rfl) rfl (lv_at hl 0 rfl) ?_
      refine va_get (D := Z.1) (ci := 7) (v := .ref (Am 9)) (C := RX7) (T := TX7) (N := 19) hx hb hts zinX7 hown hK.1 (zP_reg hP 0 rfl) 0 rfl rfl 13 (by decide) (hts _ k_f_X7_34) (fun _ h9 => h9) rfl (z_d hX7_lockPages_0 32 rfl) ?_
      refine lv_iload_n hx hb (z_d hX7_lockPages_0 33 rfl) rfl (lv_at hl 2 rfl) ?_
      refine z_ix hF (fun hin hF => ?_)
      refine va_iald (D := Z.1) (f := v.1.2.2.2.2.2.2.2.2.2.2.2.2.2.1) hx hb hK.1 (zP_reg hP 9 rfl) 0 0 rfl rfl hin (z_d hX7_lockPages_0 34 rfl) ?_
      refine z_let hF (fun u8 hu8 hF => ?_)
      refine lv_topE hu8 ?_
      refine lv_iconst (v := (-1)) hx hb (z_d hX7_lockPages_0 35 rfl) (by decide) ?_
      refine lv_icmp_eq (tgt := 78) hx hb (z_d hX7_lockPages_0 36 rfl) (by decide) (fun hc59 => ?_) (fun hc59 => ?_)
      · have hF := z_pos hc59 hF
        refine z_let hF (fun u9 hu9 hF => ?_)
        refine lv_iinc (v := u9) (lv' := [(2, .int u9), (0, .ref (Am 0)), (1, .int v.2.1)]) hx hb (z_d hX7_lockPages_0 46 rfl) hl (k := 2) rfl (z_inc1 hu9) (by decide) rfl (fun ls hl => ?_)
        refine lv_goto (tgt := 44) hx hb (z_d hX7_lockPages_0 47 rfl) (by decide) ?_
        exact ih _ _ hF _ _ ls hP hD hS (lv_sub hl [1, 2, 0] rfl) K1
      · have hF := z_neg hc59 hF
        refine z_let hF (fun u10 hu10 hF => ?_)
        refine lv_iinc (v := u10) (lv' := [(1, .int u10), (0, .ref (Am 0)), (2, .int v.2.2)]) hx hb (z_d hX7_lockPages_0 37 rfl) hl (k := 1) rfl (z_inc1 hu10) (by decide) rfl (fun ls hl => ?_)
        refine lv_aload_n hx hb (z_d hX7_lockPages_0 38 rfl) rfl (lv_at hl 1 rfl) ?_
        refine lv_aload_n hx hb (z_d hX7_lockPages_0 39 rfl) rfl (lv_at hl 1 rfl) ?_
        refine va_get (D := Z.1) (ci := 7) (v := .ref (Am 9)) (C := RX7) (T := TX7) (N := 19) hx hb hts zinX7 hown hK.1 (zP_reg hP 0 rfl) 0 rfl rfl 13 (by decide) (hts _ k_f_X7_34) (fun _ h9 => h9) rfl (z_d hX7_lockPages_0 40 rfl) ?_
        refine lv_iload_n hx hb (z_d hX7_lockPages_0 41 rfl) rfl (lv_at hl 2 rfl) ?_
        refine z_ix hF (fun hin hF => ?_)
        refine va_iald (D := Z.1) (f := v.1.2.2.2.2.2.2.2.2.2.2.2.2.2.1) hx hb hK.1 (zP_reg hP 9 rfl) 0 0 rfl rfl hin (z_d hX7_lockPages_0 42 rfl) ?_
        refine z_let hF (fun u11 hu11 hF => ?_)
        refine lv_topE hu11 ?_
        refine lv_bipush (v := 8) hx hb (z_d hX7_lockPages_0 43 rfl) (by decide) ?_
        refine lv_iload_n hx hb (z_d hX7_lockPages_0 44 rfl) rfl (lv_at hl 0 rfl) ?_
        refine z_bnd hF (fun q12 hq12 hF => ?_)
        refine z_mu0 (z_rV (As := [.int u11, .int 8, .int u10]) (rest := []) hx hb hml hown hts vt_X7_puts (c_X7_puts l Z Am v.1 u11 8 u10 _ hq12) rfl rfl ⟨Nat.le_of_ble_eq_true rfl, Nat.le_of_ble_eq_true rfl⟩ k_m_X7_125 zPmu_blind (z_recv (q := (RX7, TX7, 19)) (ci := 7) (q0 := 0) hK (zP_reg hP 0 rfl) rfl rfl) (z_prem hK hP hD) rfl hl.1 (Nat.le_of_ble_eq_true rfl) (z_d hX7_lockPages_0 45 rfl) ⟨Nat.zero_le _, Nat.zero_le _⟩) hS hD (adr_Model _ _ _ _) (fun H locs hP hD hS => ?_)
        have hP : va_P Z.1 vwCl (l_Model Z.2.1 Am q12.1 q12.2.1 q12.2.2.1 q12.2.2.2.1 q12.2.2.2.2.1 q12.2.2.2.2.2.1 q12.2.2.2.2.2.2.1 q12.2.2.2.2.2.2.2.1 q12.2.2.2.2.2.2.2.2.1 q12.2.2.2.2.2.2.2.2.2.1 q12.2.2.2.2.2.2.2.2.2.2.1 q12.2.2.2.2.2.2.2.2.2.2.2.1 q12.2.2.2.2.2.2.2.2.2.2.2.2.1 q12.2.2.2.2.2.2.2.2.2.2.2.2.2.1 q12.2.2.2.2.2.2.2.2.2.2.2.2.2.2.1 q12.2.2.2.2.2.2.2.2.2.2.2.2.2.2.2.1 q12.2.2.2.2.2.2.2.2.2.2.2.2.2.2.2.2.1 q12.2.2.2.2.2.2.2.2.2.2.2.2.2.2.2.2.2.1 q12.2.2.2.2.2.2.2.2.2.2.2.2.2.2.2.2.2.2).flatten H := hP
        have hD : va_D A (l_Model Z.2.1 Am q12.1 q12.2.1 q12.2.2.1 q12.2.2.2.1 q12.2.2.2.2.1 q12.2.2.2.2.2.1 q12.2.2.2.2.2.2.1 q12.2.2.2.2.2.2.2.1 q12.2.2.2.2.2.2.2.2.1 q12.2.2.2.2.2.2.2.2.2.1 q12.2.2.2.2.2.2.2.2.2.2.1 q12.2.2.2.2.2.2.2.2.2.2.2.1 q12.2.2.2.2.2.2.2.2.2.2.2.2.1 q12.2.2.2.2.2.2.2.2.2.2.2.2.2.1 q12.2.2.2.2.2.2.2.2.2.2.2.2.2.2.1 q12.2.2.2.2.2.2.2.2.2.2.2.2.2.2.2.1 q12.2.2.2.2.2.2.2.2.2.2.2.2.2.2.2.2.1 q12.2.2.2.2.2.2.2.2.2.2.2.2.2.2.2.2.2.1 q12.2.2.2.2.2.2.2.2.2.2.2.2.2.2.2.2.2.2).flatten := hD
        refine W.eq (g2 := F0 m 78 ls []) rfl ?_
        refine z_let hF (fun u13 hu13 hF => ?_)
        refine lv_iinc (v := u13) (lv' := [(2, .int u13), (1, .int u10), (0, .ref (Am 0))]) hx hb (z_d hX7_lockPages_0 46 rfl) hl (k := 2) rfl (z_inc1 hu13) (by decide) rfl (fun ls hl => ?_)
        refine lv_goto (tgt := 44) hx hb (z_d hX7_lockPages_0 47 rfl) (by decide) ?_
        exact ih _ _ hF _ _ ls hP hD hS (lv_sub hl [2, 1, 0] rfl) K1
  refine lv_aload_n hx hb (z_d hX7_lockPages_0 0 rfl) rfl (lv_at hl 0 rfl) ?_
  refine z_bnd hF (fun q1 hq1 hF => ?_)
  refine z_mu0 (z_rV (As := []) (rest := []) hx hb hml hown hts vt_X7_hold (c_X7_hold l Z Am M _ hq1) rfl rfl ⟨Nat.le_of_ble_eq_true rfl, Nat.le_of_ble_eq_true rfl⟩ k_m_X7_135 zPmu_blind (z_recv (q := (RX7, TX7, 19)) (ci := 7) (q0 := 0) hK (zP_reg hP 0 rfl) rfl rfl) (z_prem hK hP hD) rfl hl.1 (Nat.le_of_ble_eq_true rfl) (z_d hX7_lockPages_0 1 rfl) ⟨Nat.zero_le _, Nat.zero_le _⟩) hS hD (adr_Model _ _ _ _) (fun H locs hP hD hS => ?_)
  have hP : va_P Z.1 vwCl (l_Model Z.2.1 Am q1.1 q1.2.1 q1.2.2.1 q1.2.2.2.1 q1.2.2.2.2.1 q1.2.2.2.2.2.1 q1.2.2.2.2.2.2.1 q1.2.2.2.2.2.2.2.1 q1.2.2.2.2.2.2.2.2.1 q1.2.2.2.2.2.2.2.2.2.1 q1.2.2.2.2.2.2.2.2.2.2.1 q1.2.2.2.2.2.2.2.2.2.2.2.1 q1.2.2.2.2.2.2.2.2.2.2.2.2.1 q1.2.2.2.2.2.2.2.2.2.2.2.2.2.1 q1.2.2.2.2.2.2.2.2.2.2.2.2.2.2.1 q1.2.2.2.2.2.2.2.2.2.2.2.2.2.2.2.1 q1.2.2.2.2.2.2.2.2.2.2.2.2.2.2.2.2.1 q1.2.2.2.2.2.2.2.2.2.2.2.2.2.2.2.2.2.1 q1.2.2.2.2.2.2.2.2.2.2.2.2.2.2.2.2.2.2).flatten H := hP
  have hD : va_D A (l_Model Z.2.1 Am q1.1 q1.2.1 q1.2.2.1 q1.2.2.2.1 q1.2.2.2.2.1 q1.2.2.2.2.2.1 q1.2.2.2.2.2.2.1 q1.2.2.2.2.2.2.2.1 q1.2.2.2.2.2.2.2.2.1 q1.2.2.2.2.2.2.2.2.2.1 q1.2.2.2.2.2.2.2.2.2.2.1 q1.2.2.2.2.2.2.2.2.2.2.2.1 q1.2.2.2.2.2.2.2.2.2.2.2.2.1 q1.2.2.2.2.2.2.2.2.2.2.2.2.2.1 q1.2.2.2.2.2.2.2.2.2.2.2.2.2.2.1 q1.2.2.2.2.2.2.2.2.2.2.2.2.2.2.2.1 q1.2.2.2.2.2.2.2.2.2.2.2.2.2.2.2.2.1 q1.2.2.2.2.2.2.2.2.2.2.2.2.2.2.2.2.2.1 q1.2.2.2.2.2.2.2.2.2.2.2.2.2.2.2.2.2.2).flatten := hD
  refine W.eq (g2 := F0 m 4 ls []) rfl ?_
  refine lv_aload_n hx hb (z_d hX7_lockPages_0 2 rfl) rfl (lv_at hl 0 rfl) ?_
  refine lv_aload_n hx hb (z_d hX7_lockPages_0 3 rfl) rfl (lv_at hl 0 rfl) ?_
  refine va_get (D := Z.1) (ci := 7) (v := .ref (Am 1)) (C := RX7) (T := TX7) (N := 19) hx hb hts zinX7 hown hK.1 (zP_reg hP 0 rfl) 0 rfl rfl 0 (by decide) (hts _ k_f_X7_7) (fun _ h9 => h9) rfl (z_d hX7_lockPages_0 4 rfl) ?_
  refine lv_iconst (v := 0) hx hb (z_d hX7_lockPages_0 5 rfl) (by decide) ?_
  refine z_ix hF (fun hin hF => ?_)
  refine va_iald (D := Z.1) (f := q1.1) hx hb hK.1 (zP_reg hP 1 rfl) 0 0 rfl rfl hin (z_d hX7_lockPages_0 6 rfl) ?_
  refine z_let hF (fun u2 hu2 hF => ?_)
  refine lv_topE hu2 ?_
  refine z_bnd hF (fun q3 hq3 hF => ?_)
  refine z_mu0 (z_rV (As := [.int u2]) (rest := []) hx hb hml hown hts vt_X7_setsAll (c_X7_setsAll l Z Am q1 u2 _ hq3) rfl rfl ⟨Nat.le_of_ble_eq_true rfl, Nat.le_of_ble_eq_true rfl⟩ k_m_X7_117 zPmu_blind (z_recv (q := (RX7, TX7, 19)) (ci := 7) (q0 := 0) hK (zP_reg hP 0 rfl) rfl rfl) (z_prem hK hP hD) rfl hl.1 (Nat.le_of_ble_eq_true rfl) (z_d hX7_lockPages_0 7 rfl) ⟨Nat.zero_le _, Nat.zero_le _⟩) hS hD (adr_Model _ _ _ _) (fun H locs hP hD hS => ?_)
  have hP : va_P Z.1 vwCl (l_Model Z.2.1 Am q3.1 q3.2.1 q3.2.2.1 q3.2.2.2.1 q3.2.2.2.2.1 q3.2.2.2.2.2.1 q3.2.2.2.2.2.2.1 q3.2.2.2.2.2.2.2.1 q3.2.2.2.2.2.2.2.2.1 q3.2.2.2.2.2.2.2.2.2.1 q3.2.2.2.2.2.2.2.2.2.2.1 q3.2.2.2.2.2.2.2.2.2.2.2.1 q3.2.2.2.2.2.2.2.2.2.2.2.2.1 q3.2.2.2.2.2.2.2.2.2.2.2.2.2.1 q3.2.2.2.2.2.2.2.2.2.2.2.2.2.2.1 q3.2.2.2.2.2.2.2.2.2.2.2.2.2.2.2.1 q3.2.2.2.2.2.2.2.2.2.2.2.2.2.2.2.2.1 q3.2.2.2.2.2.2.2.2.2.2.2.2.2.2.2.2.2.1 q3.2.2.2.2.2.2.2.2.2.2.2.2.2.2.2.2.2.2).flatten H := hP
  have hD : va_D A (l_Model Z.2.1 Am q3.1 q3.2.1 q3.2.2.1 q3.2.2.2.1 q3.2.2.2.2.1 q3.2.2.2.2.2.1 q3.2.2.2.2.2.2.1 q3.2.2.2.2.2.2.2.1 q3.2.2.2.2.2.2.2.2.1 q3.2.2.2.2.2.2.2.2.2.1 q3.2.2.2.2.2.2.2.2.2.2.1 q3.2.2.2.2.2.2.2.2.2.2.2.1 q3.2.2.2.2.2.2.2.2.2.2.2.2.1 q3.2.2.2.2.2.2.2.2.2.2.2.2.2.1 q3.2.2.2.2.2.2.2.2.2.2.2.2.2.2.1 q3.2.2.2.2.2.2.2.2.2.2.2.2.2.2.2.1 q3.2.2.2.2.2.2.2.2.2.2.2.2.2.2.2.2.1 q3.2.2.2.2.2.2.2.2.2.2.2.2.2.2.2.2.2.1 q3.2.2.2.2.2.2.2.2.2.2.2.2.2.2.2.2.2.2).flatten := hD
  refine W.eq (g2 := F0 m 14 ls []) rfl ?_
  refine lv_iconst (v := 0) hx hb (z_d hX7_lockPages_0 8 rfl) (by decide) ?_
  refine lv_istore_n (lv' := [(1, .int 0), (0, .ref (Am 0))]) hx hb (z_d hX7_lockPages_0 9 rfl) rfl hl (by decide) rfl (fun ls hl => ?_)
  refine z_bnd hF (fun q7 hq7 hF => ?_)
  refine L16  _ _ _ hq7 _ _ ls hP hD hS (lv_sub hl [1, 0] rfl) (fun H locs ls hP hD hS hl => ?_)
  refine lv_iconst (v := 0) hx hb (z_d hX7_lockPages_0 23 rfl) (by decide) ?_
  refine lv_istore_n (lv' := [(1, .int 0), (0, .ref (Am 0))]) hx hb (z_d hX7_lockPages_0 24 rfl) rfl hl (by decide) rfl (fun ls hl => ?_)
  refine lv_iconst (v := 0) hx hb (z_d hX7_lockPages_0 25 rfl) (by decide) ?_
  refine lv_istore_n (lv' := [(2, .int 0), (1, .int 0), (0, .ref (Am 0))]) hx hb (z_d hX7_lockPages_0 26 rfl) rfl hl (by decide) rfl (fun ls hl => ?_)
  refine z_bnd hF (fun q14 hq14 hF => ?_)
  refine L44  _ _ _ hq14 _ _ ls hP hD hS (lv_sub hl [2, 1, 0] rfl) (fun H locs ls hP hD hS hl => ?_)
  refine lv_aload_n hx hb (z_d hX7_lockPages_0 48 rfl) rfl (lv_at hl 0 rfl) ?_
  refine lv_iload_n hx hb (z_d hX7_lockPages_0 49 rfl) rfl (lv_at hl 1 rfl) ?_
  refine z_bnd hF (fun q15 hq15 hF => ?_)
  refine z_mu0 (z_rV (As := [.int q14.2]) (rest := []) hx hb hml hown hts vt_X7_ends (c_X7_ends l Z Am q14.1 q14.2 _ hq15) rfl rfl ⟨Nat.le_of_ble_eq_true rfl, Nat.le_of_ble_eq_true rfl⟩ k_m_X7_146 zPmu_blind (z_recv (q := (RX7, TX7, 19)) (ci := 7) (q0 := 0) hK (zP_reg hP 0 rfl) rfl rfl) (z_prem hK hP hD) rfl hl.1 (Nat.le_of_ble_eq_true rfl) (z_d hX7_lockPages_0 50 rfl) ⟨Nat.zero_le _, Nat.zero_le _⟩) hS hD (adr_Model _ _ _ _) (fun H locs hP hD hS => ?_)
  have hP : va_P Z.1 vwCl (l_Model Z.2.1 Am q15.2.1 q15.2.2.1 q15.2.2.2.1 q15.2.2.2.2.1 q15.2.2.2.2.2.1 q15.2.2.2.2.2.2.1 q15.2.2.2.2.2.2.2.1 q15.2.2.2.2.2.2.2.2.1 q15.2.2.2.2.2.2.2.2.2.1 q15.2.2.2.2.2.2.2.2.2.2.1 q15.2.2.2.2.2.2.2.2.2.2.2.1 q15.2.2.2.2.2.2.2.2.2.2.2.2.1 q15.2.2.2.2.2.2.2.2.2.2.2.2.2.1 q15.2.2.2.2.2.2.2.2.2.2.2.2.2.2.1 q15.2.2.2.2.2.2.2.2.2.2.2.2.2.2.2.1 q15.2.2.2.2.2.2.2.2.2.2.2.2.2.2.2.2.1 q15.2.2.2.2.2.2.2.2.2.2.2.2.2.2.2.2.2.1 q15.2.2.2.2.2.2.2.2.2.2.2.2.2.2.2.2.2.2.1 q15.2.2.2.2.2.2.2.2.2.2.2.2.2.2.2.2.2.2.2).flatten H := hP
  have hD : va_D A (l_Model Z.2.1 Am q15.2.1 q15.2.2.1 q15.2.2.2.1 q15.2.2.2.2.1 q15.2.2.2.2.2.1 q15.2.2.2.2.2.2.1 q15.2.2.2.2.2.2.2.1 q15.2.2.2.2.2.2.2.2.1 q15.2.2.2.2.2.2.2.2.2.1 q15.2.2.2.2.2.2.2.2.2.2.1 q15.2.2.2.2.2.2.2.2.2.2.2.1 q15.2.2.2.2.2.2.2.2.2.2.2.2.1 q15.2.2.2.2.2.2.2.2.2.2.2.2.2.1 q15.2.2.2.2.2.2.2.2.2.2.2.2.2.2.1 q15.2.2.2.2.2.2.2.2.2.2.2.2.2.2.2.1 q15.2.2.2.2.2.2.2.2.2.2.2.2.2.2.2.2.1 q15.2.2.2.2.2.2.2.2.2.2.2.2.2.2.2.2.2.1 q15.2.2.2.2.2.2.2.2.2.2.2.2.2.2.2.2.2.2.1 q15.2.2.2.2.2.2.2.2.2.2.2.2.2.2.2.2.2.2.2).flatten := hD
  refine W.eq (g2 := F0 m 89 ls [.int q15.1]) rfl ?_
  obtain rfl := Option.some.inj hF
  subst hQ
  subst hA
  exact W.iret hx hb hr (fun t ht hW => zq_mu (by rw [ht]; exact hP) (hS.F ht)) hS.2.2 (z_d hX7_lockPages_0 51 rfl)
def rm_X7_lockedMany : Room := { frames := 3, cells := 0, slots := 0, locals := 64 }
set_option maxRecDepth 100000 in
set_option maxHeartbeats 4000000 in
theorem c_X7_lockedMany (l : Launch) (Z : zZ) (Am : Nat → Nat) (M : t_Model) (R : Int32) (hF : X7_lockedMany M = some R) : zRO l yX7_lockedMany (zw yX7_lockedMany cX7_lockedMany 3 (some .int)) rm_X7_lockedMany Z [.ref (Am 0)] (w_Model Z.2.1 Am M) (some (.int R)) := by
  refine zRO_of (by decide) (Nat.le_of_ble_eq_true rfl) (fun p e s m below meth c hx hb hr hml hown hts hlocks hK Q hQ ls hl hP hS => ?_)
  unfold X7_lockedMany at hF
  have hl : lv_has ls 3 [(0, .ref (Am 0))] := hl
  have hown : s.vm.findClass RX7 = some m.cls := hown
  have hP : va_P Z.1 vwCl (l_Model Z.2.1 Am M.1 M.2.1 M.2.2.1 M.2.2.2.1 M.2.2.2.2.1 M.2.2.2.2.2.1 M.2.2.2.2.2.2.1 M.2.2.2.2.2.2.2.1 M.2.2.2.2.2.2.2.2.1 M.2.2.2.2.2.2.2.2.2.1 M.2.2.2.2.2.2.2.2.2.2.1 M.2.2.2.2.2.2.2.2.2.2.2.1 M.2.2.2.2.2.2.2.2.2.2.2.2.1 M.2.2.2.2.2.2.2.2.2.2.2.2.2.1 M.2.2.2.2.2.2.2.2.2.2.2.2.2.2.1 M.2.2.2.2.2.2.2.2.2.2.2.2.2.2.2.1 M.2.2.2.2.2.2.2.2.2.2.2.2.2.2.2.2.1 M.2.2.2.2.2.2.2.2.2.2.2.2.2.2.2.2.2.1 M.2.2.2.2.2.2.2.2.2.2.2.2.2.2.2.2.2.2).flatten s.heap := hP
  have L4 : ∀  (n : Nat) (v : Int32 × Int32) (X : Int32) (hF : zloop (b_X7_lockedMany_4 M ) n v = some X) (H : Heap) (locs : List Loc) (ls : Array Slot) (hP : va_P Z.1 vwCl (l_Model Z.2.1 Am M.1 M.2.1 M.2.2.1 M.2.2.2.1 M.2.2.2.2.1 M.2.2.2.2.2.1 M.2.2.2.2.2.2.1 M.2.2.2.2.2.2.2.1 M.2.2.2.2.2.2.2.2.1 M.2.2.2.2.2.2.2.2.2.1 M.2.2.2.2.2.2.2.2.2.2.1 M.2.2.2.2.2.2.2.2.2.2.2.1 M.2.2.2.2.2.2.2.2.2.2.2.2.1 M.2.2.2.2.2.2.2.2.2.2.2.2.2.1 M.2.2.2.2.2.2.2.2.2.2.2.2.2.2.1 M.2.2.2.2.2.2.2.2.2.2.2.2.2.2.2.1 M.2.2.2.2.2.2.2.2.2.2.2.2.2.2.2.2.1 M.2.2.2.2.2.2.2.2.2.2.2.2.2.2.2.2.2.1 M.2.2.2.2.2.2.2.2.2.2.2.2.2.2.2.2.2.2).flatten H) (hS : va_S (fun _ => False) s.heap H locs) (hl : lv_has ls 3 [(0, .ref (Am 0)), (1, .int v.1), (2, .int v.2)]) (K1 : ∀ (H : Heap) (locs : List Loc) (ls : Array Slot) (hP : va_P Z.1 vwCl (l_Model Z.2.1 Am M.1 M.2.1 M.2.2.1 M.2.2.2.1 M.2.2.2.2.1 M.2.2.2.2.2.1 M.2.2.2.2.2.2.1 M.2.2.2.2.2.2.2.1 M.2.2.2.2.2.2.2.2.1 M.2.2.2.2.2.2.2.2.2.1 M.2.2.2.2.2.2.2.2.2.2.1 M.2.2.2.2.2.2.2.2.2.2.2.1 M.2.2.2.2.2.2.2.2.2.2.2.2.1 M.2.2.2.2.2.2.2.2.2.2.2.2.2.1 M.2.2.2.2.2.2.2.2.2.2.2.2.2.2.1 M.2.2.2.2.2.2.2.2.2.2.2.2.2.2.2.1 M.2.2.2.2.2.2.2.2.2.2.2.2.2.2.2.2.1 M.2.2.2.2.2.2.2.2.2.2.2.2.2.2.2.2.2.1 M.2.2.2.2.2.2.2.2.2.2.2.2.2.2.2.2.2.2).flatten H) (hS : va_S (fun _ => False) s.heap H locs) (hl : lv_has ls 3 [(0, .ref (Am 0)), (1, .int X)]), W p l e rm_X7_lockedMany s m ([.ref (Am 0)] : List Value).toArray below meth c H locs 0 0 Q (F0 m 36 ls [])), W p l e rm_X7_lockedMany s m ([.ref (Am 0)] : List Value).toArray below meth c H locs 0 0 Q (F0 m 4 ls []) := by
    skip
    refine z_loopE (fun rec ih v X hF H locs ls hP hS hl K1 => ?_)
    unfold b_X7_lockedMany_4 at hF
    refine lv_iload_n hx hb (z_d hX7_lockedMany_0 4 rfl) rfl (lv_at hl 2 rfl) ?_
    refine lv_aload_n hx hb (z_d hX7_lockedMany_0 5 rfl) rfl (lv_at hl 0 rfl) ?_
    refine va_get (D := Z.1) (ci := 7) (v := .ref (Am 1)) (C := RX7) (T := TX7) (N := 19) hx hb hts zinX7 hown hK.1 (zP_reg hP 0 rfl) 0 rfl rfl 0 (by decide) (hts _ k_f_X7_7) (fun _ h9 => h9) rfl (z_d hX7_lockedMany_0 6 rfl) ?_
    refine lv_iconst (v := 1) hx hb (z_d hX7_lockedMany_0 7 rfl) (by decide) ?_
    refine z_ix hF (fun hin hF => ?_)
    refine va_iald (D := Z.1) (f := M.1) hx hb hK.1 (zP_reg hP 1 rfl) 0 0 rfl rfl hin (z_d hX7_lockedMany_0 8 rfl) ?_
    refine z_let hF (fun u1 hu1 hF => ?_)
    refine lv_topE hu1 ?_
    refine lv_icmp_ge (tgt := 36) hx hb (z_d hX7_lockedMany_0 9 rfl) (by decide) (fun hc11 => ?_) (fun hc11 => ?_)
    · have hF := z_pos hc11 hF
      obtain rfl := Option.some.inj hF
      exact K1 _ _ ls hP hS (lv_sub hl [0, 1] rfl)
    · have hF := z_neg hc11 hF
      refine lv_iload_n hx hb (z_d hX7_lockedMany_0 10 rfl) rfl (lv_at hl 1 rfl) ?_
      refine lv_aload_n hx hb (z_d hX7_lockedMany_0 11 rfl) rfl (lv_at hl 0 rfl) ?_
      refine lv_iload_n hx hb (z_d hX7_lockedMany_0 12 rfl) rfl (lv_at hl 2 rfl) ?_
      refine z_bnd hF (fun q2 hq2 hF => ?_)
      refine z_ro_i (z_rV (As := [.int v.2]) (rest := [.int v.1]) hx hb hml hown hts vt_X7_isLocked (c_X7_isLocked l Z Am M v.2 _ hq2) rfl rfl ⟨Nat.le_of_ble_eq_true rfl, Nat.le_of_ble_eq_true rfl⟩ k_m_X7_88 zPro_blind (z_recv (q := (RX7, TX7, 19)) (ci := 7) (q0 := 0) hK (zP_reg hP 0 rfl) rfl rfl) (z_prec hK hP) rfl hl.1 (Nat.le_of_ble_eq_true rfl) (z_d hX7_lockedMany_0 13 rfl) ⟨Nat.zero_le _, Nat.zero_le _⟩) hS hP (fun H locs hP hS => ?_)
      refine lv_if_eq (tgt := 27) hx hb (z_d hX7_lockedMany_0 14 rfl) (by decide) (fun hc20 => ?_) (fun hc20 => ?_)
      · have hF := z_pos hc20 hF
        refine lv_iconst (v := 0) hx hb (z_d hX7_lockedMany_0 17 rfl) (by decide) ?_
        refine lv_iadd hx hb (z_d hX7_lockedMany_0 18 rfl) ?_
        refine z_let hF (fun u3 hu3 hF => ?_)
        refine lv_topE hu3 ?_
        refine lv_istore_n (lv' := [(1, .int u3), (0, .ref (Am 0)), (2, .int v.2)]) hx hb (z_d hX7_lockedMany_0 19 rfl) rfl hl (by decide) rfl (fun ls hl => ?_)
        refine z_let hF (fun u4 hu4 hF => ?_)
        refine lv_iinc (v := u4) (lv' := [(2, .int u4), (1, .int u3), (0, .ref (Am 0))]) hx hb (z_d hX7_lockedMany_0 20 rfl) hl (k := 2) rfl (z_inc1 hu4) (by decide) rfl (fun ls hl => ?_)
        refine lv_goto (tgt := 4) hx hb (z_d hX7_lockedMany_0 21 rfl) (by decide) ?_
        exact ih _ _ hF _ _ ls hP hS (lv_sub hl [2, 1, 0] rfl) K1
      · have hF := z_neg hc20 hF
        refine lv_iconst (v := 1) hx hb (z_d hX7_lockedMany_0 15 rfl) (by decide) ?_
        refine lv_goto (tgt := 28) hx hb (z_d hX7_lockedMany_0 16 rfl) (by decide) ?_
        refine lv_iadd hx hb (z_d hX7_lockedMany_0 18 rfl) ?_
        refine z_let hF (fun u5 hu5 hF => ?_)
        refine lv_topE hu5 ?_
        refine lv_istore_n (lv' := [(1, .int u5), (0, .ref (Am 0)), (2, .int v.2)]) hx hb (z_d hX7_lockedMany_0 19 rfl) rfl hl (by decide) rfl (fun ls hl => ?_)
        refine z_let hF (fun u6 hu6 hF => ?_)
        refine lv_iinc (v := u6) (lv' := [(2, .int u6), (1, .int u5), (0, .ref (Am 0))]) hx hb (z_d hX7_lockedMany_0 20 rfl) hl (k := 2) rfl (z_inc1 hu6) (by decide) rfl (fun ls hl => ?_)
        refine lv_goto (tgt := 4) hx hb (z_d hX7_lockedMany_0 21 rfl) (by decide) ?_
        exact ih _ _ hF _ _ ls hP hS (lv_sub hl [2, 1, 0] rfl) K1
  refine lv_iconst (v := 0) hx hb (z_d hX7_lockedMany_0 0 rfl) (by decide) ?_
  refine lv_istore_n (lv' := [(1, .int 0), (0, .ref (Am 0))]) hx hb (z_d hX7_lockedMany_0 1 rfl) rfl hl (by decide) rfl (fun ls hl => ?_)
  refine lv_iconst (v := 0) hx hb (z_d hX7_lockedMany_0 2 rfl) (by decide) ?_
  refine lv_istore_n (lv' := [(2, .int 0), (1, .int 0), (0, .ref (Am 0))]) hx hb (z_d hX7_lockedMany_0 3 rfl) rfl hl (by decide) rfl (fun ls hl => ?_)
  refine z_bnd hF (fun q7 hq7 hF => ?_)
  refine L4  _ _ _ hq7 _ _ ls hP hS (lv_sub hl [2, 1, 0] rfl) (fun H locs ls hP hS hl => ?_)
  refine lv_iload_n hx hb (z_d hX7_lockedMany_0 22 rfl) rfl (lv_at hl 1 rfl) ?_
  obtain rfl := Option.some.inj hF
  subst hQ
  exact W.iret hx hb hr (fun t ht hW => zq_ro (hS.F ht)) hS.2.2 (z_d hX7_lockedMany_0 23 rfl)
def rm_X7_namesOf : Room := { frames := 4, cells := 0, slots := 0, locals := 88 }
set_option maxRecDepth 100000 in
set_option maxHeartbeats 4000000 in
theorem c_X7_namesOf (l : Launch) (Z : zZ) (Am : Nat → Nat) (M : t_Model) (p1 : Int32) (p2 : Int32) (R : Int32) (hF : X7_namesOf M p1 p2 = some R) : zRO l yX7_namesOf (zw yX7_namesOf cX7_namesOf 6 (some .int)) rm_X7_namesOf Z [.ref (Am 0), .int p1, .int p2] (w_Model Z.2.1 Am M) (some (.int R)) := by
  refine zRO_of (by decide) (Nat.le_of_ble_eq_true rfl) (fun p e s m below meth c hx hb hr hml hown hts hlocks hK Q hQ ls hl hP hS => ?_)
  unfold X7_namesOf at hF
  have hl : lv_has ls 6 [(0, .ref (Am 0)), (1, .int p1), (2, .int p2)] := hl
  have hown : s.vm.findClass RX7 = some m.cls := hown
  have hP : va_P Z.1 vwCl (l_Model Z.2.1 Am M.1 M.2.1 M.2.2.1 M.2.2.2.1 M.2.2.2.2.1 M.2.2.2.2.2.1 M.2.2.2.2.2.2.1 M.2.2.2.2.2.2.2.1 M.2.2.2.2.2.2.2.2.1 M.2.2.2.2.2.2.2.2.2.1 M.2.2.2.2.2.2.2.2.2.2.1 M.2.2.2.2.2.2.2.2.2.2.2.1 M.2.2.2.2.2.2.2.2.2.2.2.2.1 M.2.2.2.2.2.2.2.2.2.2.2.2.2.1 M.2.2.2.2.2.2.2.2.2.2.2.2.2.2.1 M.2.2.2.2.2.2.2.2.2.2.2.2.2.2.2.1 M.2.2.2.2.2.2.2.2.2.2.2.2.2.2.2.2.1 M.2.2.2.2.2.2.2.2.2.2.2.2.2.2.2.2.2.1 M.2.2.2.2.2.2.2.2.2.2.2.2.2.2.2.2.2.2).flatten s.heap := hP
  have L5 : ∀  (n : Nat) (v : Int32 × Int32) (X : Int32) (hF : zloop (b_X7_namesOf_5 M p1 p2 ) n v = some X) (H : Heap) (locs : List Loc) (ls : Array Slot) (hP : va_P Z.1 vwCl (l_Model Z.2.1 Am M.1 M.2.1 M.2.2.1 M.2.2.2.1 M.2.2.2.2.1 M.2.2.2.2.2.1 M.2.2.2.2.2.2.1 M.2.2.2.2.2.2.2.1 M.2.2.2.2.2.2.2.2.1 M.2.2.2.2.2.2.2.2.2.1 M.2.2.2.2.2.2.2.2.2.2.1 M.2.2.2.2.2.2.2.2.2.2.2.1 M.2.2.2.2.2.2.2.2.2.2.2.2.1 M.2.2.2.2.2.2.2.2.2.2.2.2.2.1 M.2.2.2.2.2.2.2.2.2.2.2.2.2.2.1 M.2.2.2.2.2.2.2.2.2.2.2.2.2.2.2.1 M.2.2.2.2.2.2.2.2.2.2.2.2.2.2.2.2.1 M.2.2.2.2.2.2.2.2.2.2.2.2.2.2.2.2.2.1 M.2.2.2.2.2.2.2.2.2.2.2.2.2.2.2.2.2.2).flatten H) (hS : va_S (fun _ => False) s.heap H locs) (hl : lv_has ls 6 [(0, .ref (Am 0)), (1, .int p1), (2, .int p2), (3, .int v.1), (4, .int v.2)]) (K1 : ∀ (H : Heap) (locs : List Loc) (ls : Array Slot) (hP : va_P Z.1 vwCl (l_Model Z.2.1 Am M.1 M.2.1 M.2.2.1 M.2.2.2.1 M.2.2.2.2.1 M.2.2.2.2.2.1 M.2.2.2.2.2.2.1 M.2.2.2.2.2.2.2.1 M.2.2.2.2.2.2.2.2.1 M.2.2.2.2.2.2.2.2.2.1 M.2.2.2.2.2.2.2.2.2.2.1 M.2.2.2.2.2.2.2.2.2.2.2.1 M.2.2.2.2.2.2.2.2.2.2.2.2.1 M.2.2.2.2.2.2.2.2.2.2.2.2.2.1 M.2.2.2.2.2.2.2.2.2.2.2.2.2.2.1 M.2.2.2.2.2.2.2.2.2.2.2.2.2.2.2.1 M.2.2.2.2.2.2.2.2.2.2.2.2.2.2.2.2.1 M.2.2.2.2.2.2.2.2.2.2.2.2.2.2.2.2.2.1 M.2.2.2.2.2.2.2.2.2.2.2.2.2.2.2.2.2.2).flatten H) (hS : va_S (fun _ => False) s.heap H locs) (hl : lv_has ls 6 [(0, .ref (Am 0)), (1, .int p1), (2, .int p2), (3, .int X)]), W p l e rm_X7_namesOf s m ([.ref (Am 0), .int p1, .int p2] : List Value).toArray below meth c H locs 0 0 Q (F0 m 82 ls [])), W p l e rm_X7_namesOf s m ([.ref (Am 0), .int p1, .int p2] : List Value).toArray below meth c H locs 0 0 Q (F0 m 5 ls []) := by
    skip
    refine z_loopE (fun rec ih v X hF H locs ls hP hS hl K1 => ?_)
    unfold b_X7_namesOf_5 at hF
    have J48 : ∀ (x3 : Int32) (x4 : Int32) (z0 : Int32) (hF : j_X7_namesOf_48 M p1 p2 rec x3 x4 z0 = some X) (H : Heap) (locs : List Loc) (ls : Array Slot) (hP : va_P Z.1 vwCl (l_Model Z.2.1 Am M.1 M.2.1 M.2.2.1 M.2.2.2.1 M.2.2.2.2.1 M.2.2.2.2.2.1 M.2.2.2.2.2.2.1 M.2.2.2.2.2.2.2.1 M.2.2.2.2.2.2.2.2.1 M.2.2.2.2.2.2.2.2.2.1 M.2.2.2.2.2.2.2.2.2.2.1 M.2.2.2.2.2.2.2.2.2.2.2.1 M.2.2.2.2.2.2.2.2.2.2.2.2.1 M.2.2.2.2.2.2.2.2.2.2.2.2.2.1 M.2.2.2.2.2.2.2.2.2.2.2.2.2.2.1 M.2.2.2.2.2.2.2.2.2.2.2.2.2.2.2.1 M.2.2.2.2.2.2.2.2.2.2.2.2.2.2.2.2.1 M.2.2.2.2.2.2.2.2.2.2.2.2.2.2.2.2.2.1 M.2.2.2.2.2.2.2.2.2.2.2.2.2.2.2.2.2.2).flatten H) (hS : va_S (fun _ => False) s.heap H locs) (hl : lv_has ls 6 [(0, .ref (Am 0)), (1, .int p1), (2, .int p2), (3, .int x3), (4, .int x4)]), W p l e rm_X7_namesOf s m ([.ref (Am 0), .int p1, .int p2] : List Value).toArray below meth c H locs 0 0 Q (F0 m 48 ls [.int z0]) := by
      intro x3 x4 z0 hF H locs ls hP hS hl
      unfold j_X7_namesOf_48 at hF
      refine lv_istore (lv' := [(5, .int z0), (0, .ref (Am 0)), (1, .int p1), (2, .int p2), (3, .int x3), (4, .int x4)]) hx hb (z_d hX7_namesOf_0 28 rfl) hl (by decide) rfl (fun ls hl => ?_)
      refine lv_iload_n hx hb (z_d hX7_namesOf_0 29 rfl) rfl (lv_at hl 4 rfl) ?_
      refine lv_iload hx hb (z_d hX7_namesOf_0 30 rfl) (lv_at hl 0 rfl) ?_
      refine lv_if_eq (tgt := 73) hx hb (z_d hX7_namesOf_0 31 rfl) (by decide) (fun hc53 => ?_) (fun hc53 => ?_)
      · have hF := z_pos hc53 hF
        refine lv_iconst (v := 0) hx hb (z_d hX7_namesOf_0 40 rfl) (by decide) ?_
        refine lv_iadd hx hb (z_d hX7_namesOf_0 41 rfl) ?_
        refine z_let hF (fun u3 hu3 hF => ?_)
        refine lv_topE hu3 ?_
        refine lv_istore_n (lv' := [(3, .int u3), (5, .int z0), (0, .ref (Am 0)), (1, .int p1), (2, .int p2), (4, .int x4)]) hx hb (z_d hX7_namesOf_0 42 rfl) rfl hl (by decide) rfl (fun ls hl => ?_)
        refine z_let hF (fun u4 hu4 hF => ?_)
        refine lv_iinc (v := u4) (lv' := [(4, .int u4), (3, .int u3), (5, .int z0), (0, .ref (Am 0)), (1, .int p1), (2, .int p2)]) hx hb (z_d hX7_namesOf_0 43 rfl) hl (k := 5) rfl (z_inc1 hu4) (by decide) rfl (fun ls hl => ?_)
        refine lv_goto (tgt := 5) hx hb (z_d hX7_namesOf_0 44 rfl) (by decide) ?_
        exact ih _ _ hF _ _ ls hP hS (lv_sub hl [3, 4, 5, 1, 0] rfl) K1
      · have hF := z_neg hc53 hF
        refine lv_iload_n hx hb (z_d hX7_namesOf_0 32 rfl) rfl (lv_at hl 3 rfl) ?_
        refine lv_if_eq (tgt := 69) hx hb (z_d hX7_namesOf_0 33 rfl) (by decide) (fun hc57 => ?_) (fun hc57 => ?_)
        · have hF := z_pos hc57 hF
          refine lv_iconst (v := 1) hx hb (z_d hX7_namesOf_0 38 rfl) (by decide) ?_
          refine lv_goto (tgt := 74) hx hb (z_d hX7_namesOf_0 39 rfl) (by decide) ?_
          refine lv_iadd hx hb (z_d hX7_namesOf_0 41 rfl) ?_
          refine z_let hF (fun u5 hu5 hF => ?_)
          refine lv_topE hu5 ?_
          refine lv_istore_n (lv' := [(3, .int u5), (5, .int z0), (0, .ref (Am 0)), (1, .int p1), (2, .int p2), (4, .int x4)]) hx hb (z_d hX7_namesOf_0 42 rfl) rfl hl (by decide) rfl (fun ls hl => ?_)
          refine z_let hF (fun u6 hu6 hF => ?_)
          refine lv_iinc (v := u6) (lv' := [(4, .int u6), (3, .int u5), (5, .int z0), (0, .ref (Am 0)), (1, .int p1), (2, .int p2)]) hx hb (z_d hX7_namesOf_0 43 rfl) hl (k := 5) rfl (z_inc1 hu6) (by decide) rfl (fun ls hl => ?_)
          refine lv_goto (tgt := 5) hx hb (z_d hX7_namesOf_0 44 rfl) (by decide) ?_
          exact ih _ _ hF _ _ ls hP hS (lv_sub hl [3, 4, 5, 1, 0] rfl) K1
        · have hF := z_neg hc57 hF
          refine lv_aload_n hx hb (z_d hX7_namesOf_0 34 rfl) rfl (lv_at hl 1 rfl) ?_
          refine lv_iload hx hb (z_d hX7_namesOf_0 35 rfl) (lv_at hl 5 rfl) ?_
          refine z_bnd hF (fun q7 hq7 hF => ?_)
          refine z_ro_i (z_rV (As := [.int x4]) (rest := [.int x3]) hx hb hml hown hts vt_X7_isCarried (c_X7_isCarried l Z Am M x4 _ hq7) rfl rfl ⟨Nat.le_of_ble_eq_true rfl, Nat.le_of_ble_eq_true rfl⟩ k_m_X7_164 zPro_blind (z_recv (q := (RX7, TX7, 19)) (ci := 7) (q0 := 0) hK (zP_reg hP 0 rfl) rfl rfl) (z_prec hK hP) rfl hl.1 (Nat.le_of_ble_eq_true rfl) (z_d hX7_namesOf_0 36 rfl) ⟨Nat.zero_le _, Nat.zero_le _⟩) hS hP (fun H locs hP hS => ?_)
          refine lv_if_eq (tgt := 73) hx hb (z_d hX7_namesOf_0 37 rfl) (by decide) (fun hc66 => ?_) (fun hc66 => ?_)
          · have hF := z_pos hc66 hF
            refine lv_iconst (v := 0) hx hb (z_d hX7_namesOf_0 40 rfl) (by decide) ?_
            refine lv_iadd hx hb (z_d hX7_namesOf_0 41 rfl) ?_
            refine z_let hF (fun u8 hu8 hF => ?_)
            refine lv_topE hu8 ?_
            refine lv_istore_n (lv' := [(3, .int u8), (5, .int z0), (0, .ref (Am 0)), (1, .int p1), (2, .int p2), (4, .int x4)]) hx hb (z_d hX7_namesOf_0 42 rfl) rfl hl (by decide) rfl (fun ls hl => ?_)
            refine z_let hF (fun u9 hu9 hF => ?_)
            refine lv_iinc (v := u9) (lv' := [(4, .int u9), (3, .int u8), (5, .int z0), (0, .ref (Am 0)), (1, .int p1), (2, .int p2)]) hx hb (z_d hX7_namesOf_0 43 rfl) hl (k := 5) rfl (z_inc1 hu9) (by decide) rfl (fun ls hl => ?_)
            refine lv_goto (tgt := 5) hx hb (z_d hX7_namesOf_0 44 rfl) (by decide) ?_
            exact ih _ _ hF _ _ ls hP hS (lv_sub hl [3, 4, 5, 1, 0] rfl) K1
          · have hF := z_neg hc66 hF
            refine lv_iconst (v := 1) hx hb (z_d hX7_namesOf_0 38 rfl) (by decide) ?_
            refine lv_goto (tgt := 74) hx hb (z_d hX7_namesOf_0 39 rfl) (by decide) ?_
            refine lv_iadd hx hb (z_d hX7_namesOf_0 41 rfl) ?_
            refine z_let hF (fun u10 hu10 hF => ?_)
            refine lv_topE hu10 ?_
            refine lv_istore_n (lv' := [(3, .int u10), (5, .int z0), (0, .ref (Am 0)), (1, .int p1), (2, .int p2), (4, .int x4)]) hx hb (z_d hX7_namesOf_0 42 rfl) rfl hl (by decide) rfl (fun ls hl => ?_)
            refine z_let hF (fun u11 hu11 hF => ?_)
            refine lv_iinc (v := u11) (lv' := [(4, .int u11), (3, .int u10), (5, .int z0), (0, .ref (Am 0)), (1, .int p1), (2, .int p2)]) hx hb (z_d hX7_namesOf_0 43 rfl) hl (k := 5) rfl (z_inc1 hu11) (by decide) rfl (fun ls hl => ?_)
            refine lv_goto (tgt := 5) hx hb (z_d hX7_namesOf_0 44 rfl) (by decide) ?_
            exact ih _ _ hF _ _ ls hP hS (lv_sub hl [3, 4, 5, 1, 0] rfl) K1
    have J47 : ∀ (x3 : Int32) (x4 : Int32) (hF : j_X7_namesOf_47 M p1 p2 rec x3 x4 = some X) (H : Heap) (locs : List Loc) (ls : Array Slot) (hP : va_P Z.1 vwCl (l_Model Z.2.1 Am M.1 M.2.1 M.2.2.1 M.2.2.2.1 M.2.2.2.2.1 M.2.2.2.2.2.1 M.2.2.2.2.2.2.1 M.2.2.2.2.2.2.2.1 M.2.2.2.2.2.2.2.2.1 M.2.2.2.2.2.2.2.2.2.1 M.2.2.2.2.2.2.2.2.2.2.1 M.2.2.2.2.2.2.2.2.2.2.2.1 M.2.2.2.2.2.2.2.2.2.2.2.2.1 M.2.2.2.2.2.2.2.2.2.2.2.2.2.1 M.2.2.2.2.2.2.2.2.2.2.2.2.2.2.1 M.2.2.2.2.2.2.2.2.2.2.2.2.2.2.2.1 M.2.2.2.2.2.2.2.2.2.2.2.2.2.2.2.2.1 M.2.2.2.2.2.2.2.2.2.2.2.2.2.2.2.2.2.1 M.2.2.2.2.2.2.2.2.2.2.2.2.2.2.2.2.2.2).flatten H) (hS : va_S (fun _ => False) s.heap H locs) (hl : lv_has ls 6 [(0, .ref (Am 0)), (1, .int p1), (2, .int p2), (3, .int x3), (4, .int x4)]), W p l e rm_X7_namesOf s m ([.ref (Am 0), .int p1, .int p2] : List Value).toArray below meth c H locs 0 0 Q (F0 m 47 ls []) := by
      intro x3 x4 hF H locs ls hP hS hl
      unfold j_X7_namesOf_47 at hF
      refine lv_iconst (v := 0) hx hb (z_d hX7_namesOf_0 27 rfl) (by decide) ?_
      exact J48 x3 x4 0 hF _ _ ls hP hS (lv_sub hl [0, 1, 2, 3, 4] rfl)
    have J43 : ∀ (x3 : Int32) (x4 : Int32) (hF : j_X7_namesOf_43 M p1 p2 rec x3 x4 = some X) (H : Heap) (locs : List Loc) (ls : Array Slot) (hP : va_P Z.1 vwCl (l_Model Z.2.1 Am M.1 M.2.1 M.2.2.1 M.2.2.2.1 M.2.2.2.2.1 M.2.2.2.2.2.1 M.2.2.2.2.2.2.1 M.2.2.2.2.2.2.2.1 M.2.2.2.2.2.2.2.2.1 M.2.2.2.2.2.2.2.2.2.1 M.2.2.2.2.2.2.2.2.2.2.1 M.2.2.2.2.2.2.2.2.2.2.2.1 M.2.2.2.2.2.2.2.2.2.2.2.2.1 M.2.2.2.2.2.2.2.2.2.2.2.2.2.1 M.2.2.2.2.2.2.2.2.2.2.2.2.2.2.1 M.2.2.2.2.2.2.2.2.2.2.2.2.2.2.2.1 M.2.2.2.2.2.2.2.2.2.2.2.2.2.2.2.2.1 M.2.2.2.2.2.2.2.2.2.2.2.2.2.2.2.2.2.1 M.2.2.2.2.2.2.2.2.2.2.2.2.2.2.2.2.2.2).flatten H) (hS : va_S (fun _ => False) s.heap H locs) (hl : lv_has ls 6 [(0, .ref (Am 0)), (1, .int p1), (2, .int p2), (3, .int x3), (4, .int x4)]), W p l e rm_X7_namesOf s m ([.ref (Am 0), .int p1, .int p2] : List Value).toArray below meth c H locs 0 0 Q (F0 m 43 ls []) := by
      intro x3 x4 hF H locs ls hP hS hl
      unfold j_X7_namesOf_43 at hF
      refine lv_iconst (v := 1) hx hb (z_d hX7_namesOf_0 25 rfl) (by decide) ?_
      refine lv_goto (tgt := 48) hx hb (z_d hX7_namesOf_0 26 rfl) (by decide) ?_
      exact J48 x3 x4 1 hF _ _ ls hP hS (lv_sub hl [0, 1, 2, 3, 4] rfl)
    refine lv_iload hx hb (z_d hX7_namesOf_0 4 rfl) (lv_at hl 4 rfl) ?_
    refine lv_aload_n hx hb (z_d hX7_namesOf_0 5 rfl) rfl (lv_at hl 0 rfl) ?_
    refine va_get (D := Z.1) (ci := 7) (v := .ref (Am 1)) (C := RX7) (T := TX7) (N := 19) hx hb hts zinX7 hown hK.1 (zP_reg hP 0 rfl) 0 rfl rfl 0 (by decide) (hts _ k_f_X7_7) (fun _ h9 => h9) rfl (z_d hX7_namesOf_0 6 rfl) ?_
    refine lv_iconst (v := 1) hx hb (z_d hX7_namesOf_0 7 rfl) (by decide) ?_
    refine z_ix hF (fun hin hF => ?_)
    refine va_iald (D := Z.1) (f := M.1) hx hb hK.1 (zP_reg hP 1 rfl) 0 0 rfl rfl hin (z_d hX7_namesOf_0 8 rfl) ?_
    refine z_let hF (fun u1 hu1 hF => ?_)
    refine lv_topE hu1 ?_
    refine lv_icmp_ge (tgt := 82) hx hb (z_d hX7_namesOf_0 9 rfl) (by decide) (fun hc13 => ?_) (fun hc13 => ?_)
    · have hF := z_pos hc13 hF
      obtain rfl := Option.some.inj hF
      exact K1 _ _ ls hP hS (lv_sub hl [0, 1, 2, 3] rfl)
    · have hF := z_neg hc13 hF
      refine lv_aload_n hx hb (z_d hX7_namesOf_0 10 rfl) rfl (lv_at hl 0 rfl) ?_
      refine lv_iload hx hb (z_d hX7_namesOf_0 11 rfl) (lv_at hl 4 rfl) ?_
      refine lv_iconst (v := 0) hx hb (z_d hX7_namesOf_0 12 rfl) (by decide) ?_
      refine z_bnd hF (fun q2 hq2 hF => ?_)
      refine z_ro_i (z_rV (As := [.int v.2, .int 0]) (rest := []) hx hb hml hown hts vt_X7_of (c_X7_of l Z Am M v.2 0 _ hq2) rfl rfl ⟨Nat.le_of_ble_eq_true rfl, Nat.le_of_ble_eq_true rfl⟩ k_m_X7_62 zPro_blind (z_recv (q := (RX7, TX7, 19)) (ci := 7) (q0 := 0) hK (zP_reg hP 0 rfl) rfl rfl) (z_prec hK hP) rfl hl.1 (Nat.le_of_ble_eq_true rfl) (z_d hX7_namesOf_0 13 rfl) ⟨Nat.zero_le _, Nat.zero_le _⟩) hS hP (fun H locs hP hS => ?_)
      refine lv_iconst (v := 2) hx hb (z_d hX7_namesOf_0 14 rfl) (by decide) ?_
      refine lv_icmp_ne (tgt := 47) hx hb (z_d hX7_namesOf_0 15 rfl) (by decide) (fun hc24 => ?_) (fun hc24 => ?_)
      · have hF := z_neg hc24 hF
        exact J47 v.1 v.2 hF _ _ ls hP hS (lv_sub hl [0, 1, 2, 3, 4] rfl)
      · have hF := z_pos hc24 hF
        refine lv_iload_n hx hb (z_d hX7_namesOf_0 16 rfl) rfl (lv_at hl 1 rfl) ?_
        refine lv_iconst (v := (-1)) hx hb (z_d hX7_namesOf_0 17 rfl) (by decide) ?_
        refine lv_icmp_eq (tgt := 43) hx hb (z_d hX7_namesOf_0 18 rfl) (by decide) (fun hc29 => ?_) (fun hc29 => ?_)
        · have hF := z_pos hc29 hF
          exact J43 v.1 v.2 hF _ _ ls hP hS (lv_sub hl [0, 1, 2, 3, 4] rfl)
        · have hF := z_neg hc29 hF
          refine lv_aload_n hx hb (z_d hX7_namesOf_0 19 rfl) rfl (lv_at hl 0 rfl) ?_
          refine lv_iload hx hb (z_d hX7_namesOf_0 20 rfl) (lv_at hl 4 rfl) ?_
          refine lv_iconst (v := 2) hx hb (z_d hX7_namesOf_0 21 rfl) (by decide) ?_
          refine z_bnd hF (fun q12 hq12 hF => ?_)
          refine z_ro_i (z_rV (As := [.int v.2, .int 2]) (rest := []) hx hb hml hown hts vt_X7_of (c_X7_of l Z Am M v.2 2 _ hq12) rfl rfl ⟨Nat.le_of_ble_eq_true rfl, Nat.le_of_ble_eq_true rfl⟩ k_m_X7_62 zPro_blind (z_recv (q := (RX7, TX7, 19)) (ci := 7) (q0 := 0) hK (zP_reg hP 0 rfl) rfl rfl) (z_prec hK hP) rfl hl.1 (Nat.le_of_ble_eq_true rfl) (z_d hX7_namesOf_0 22 rfl) ⟨Nat.zero_le _, Nat.zero_le _⟩) hS hP (fun H locs hP hS => ?_)
          refine lv_iload_n hx hb (z_d hX7_namesOf_0 23 rfl) rfl (lv_at hl 1 rfl) ?_
          refine lv_icmp_ne (tgt := 47) hx hb (z_d hX7_namesOf_0 24 rfl) (by decide) (fun hc40 => ?_) (fun hc40 => ?_)
          · have hF := z_neg hc40 hF
            exact J47 v.1 v.2 hF _ _ ls hP hS (lv_sub hl [0, 1, 2, 3, 4] rfl)
          · have hF := z_pos hc40 hF
            exact J43 v.1 v.2 hF _ _ ls hP hS (lv_sub hl [0, 1, 2, 3, 4] rfl)
  refine lv_iconst (v := 0) hx hb (z_d hX7_namesOf_0 0 rfl) (by decide) ?_
  refine lv_istore_n (lv' := [(3, .int 0), (0, .ref (Am 0)), (1, .int p1), (2, .int p2)]) hx hb (z_d hX7_namesOf_0 1 rfl) rfl hl (by decide) rfl (fun ls hl => ?_)
  refine lv_iconst (v := 0) hx hb (z_d hX7_namesOf_0 2 rfl) (by decide) ?_
  refine lv_istore (lv' := [(4, .int 0), (3, .int 0), (0, .ref (Am 0)), (1, .int p1), (2, .int p2)]) hx hb (z_d hX7_namesOf_0 3 rfl) hl (by decide) rfl (fun ls hl => ?_)
  refine z_bnd hF (fun q13 hq13 hF => ?_)
  refine L5  _ _ _ hq13 _ _ ls hP hS (lv_sub hl [2, 3, 4, 1, 0] rfl) (fun H locs ls hP hS hl => ?_)
  refine lv_iload_n hx hb (z_d hX7_namesOf_0 45 rfl) rfl (lv_at hl 3 rfl) ?_
  obtain rfl := Option.some.inj hF
  subst hQ
  exact W.iret hx hb hr (fun t ht hW => zq_ro (hS.F ht)) hS.2.2 (z_d hX7_namesOf_0 46 rfl)
def rm_X7_valueOf : Room := { frames := 5, cells := 0, slots := 0, locals := 113 }
set_option maxRecDepth 100000 in
set_option maxHeartbeats 4000000 in
theorem c_X7_valueOf (l : Launch) (Z : zZ) (Am : Nat → Nat) (M : t_Model) (p1 : Int32) (R : Int32) (hF : X7_valueOf M p1 = some R) : zRO l yX7_valueOf (zw yX7_valueOf cX7_valueOf 2 (some .int)) rm_X7_valueOf Z [.ref (Am 0), .int p1] (w_Model Z.2.1 Am M) (some (.int R)) := by
  refine zRO_of (by decide) (Nat.le_of_ble_eq_true rfl) (fun p e s m below meth c hx hb hr hml hown hts hlocks hK Q hQ ls hl hP hS => ?_)
  unfold X7_valueOf at hF
  have hl : lv_has ls 2 [(0, .ref (Am 0)), (1, .int p1)] := hl
  have hown : s.vm.findClass RX7 = some m.cls := hown
  have hP : va_P Z.1 vwCl (l_Model Z.2.1 Am M.1 M.2.1 M.2.2.1 M.2.2.2.1 M.2.2.2.2.1 M.2.2.2.2.2.1 M.2.2.2.2.2.2.1 M.2.2.2.2.2.2.2.1 M.2.2.2.2.2.2.2.2.1 M.2.2.2.2.2.2.2.2.2.1 M.2.2.2.2.2.2.2.2.2.2.1 M.2.2.2.2.2.2.2.2.2.2.2.1 M.2.2.2.2.2.2.2.2.2.2.2.2.1 M.2.2.2.2.2.2.2.2.2.2.2.2.2.1 M.2.2.2.2.2.2.2.2.2.2.2.2.2.2.1 M.2.2.2.2.2.2.2.2.2.2.2.2.2.2.2.1 M.2.2.2.2.2.2.2.2.2.2.2.2.2.2.2.2.1 M.2.2.2.2.2.2.2.2.2.2.2.2.2.2.2.2.2.1 M.2.2.2.2.2.2.2.2.2.2.2.2.2.2.2.2.2.2).flatten s.heap := hP
  refine lv_iload_n hx hb (z_d hX7_valueOf_0 0 rfl) rfl (lv_at hl 1 rfl) ?_
  by_cases hs1_0 : p1 = 0
  · have hF := z_pos hs1_0 hF
    refine lv_tableIn (off := 43) (tgt := 44) hx hb (z_d hX7_valueOf_0 1 rfl) (by rw [hs1_0]; decide) (by rw [hs1_0]; decide) (by rw [hs1_0]; first | done | rfl) (by decide) ?_
    refine lv_aload_n hx hb (z_d hX7_valueOf_0 2 rfl) rfl (lv_at hl 0 rfl) ?_
    refine va_get (D := Z.1) (ci := 7) (v := .ref (Am 1)) (C := RX7) (T := TX7) (N := 19) hx hb hts zinX7 hown hK.1 (zP_reg hP 0 rfl) 0 rfl rfl 0 (by decide) (hts _ k_f_X7_7) (fun _ h9 => h9) rfl (z_d hX7_valueOf_0 3 rfl) ?_
    refine lv_iconst (v := 1) hx hb (z_d hX7_valueOf_0 4 rfl) (by decide) ?_
    refine z_ix hF (fun hin hF => ?_)
    refine va_iald (D := Z.1) (f := M.1) hx hb hK.1 (zP_reg hP 1 rfl) 0 0 rfl rfl hin (z_d hX7_valueOf_0 5 rfl) ?_
    refine z_let hF (fun u1 hu1 hF => ?_)
    refine lv_topE hu1 ?_
    obtain rfl := Option.some.inj hF
    subst hQ
    exact W.iret hx hb hr (fun t ht hW => zq_ro (hS.F ht)) hS.2.2 (z_d hX7_valueOf_0 6 rfl)
  have hF := z_neg hs1_0 hF
  by_cases hs1_1 : p1 = 1
  · have hF := z_pos hs1_1 hF
    refine lv_tableIn (off := 50) (tgt := 51) hx hb (z_d hX7_valueOf_0 1 rfl) (by rw [hs1_1]; decide) (by rw [hs1_1]; decide) (by rw [hs1_1]; first | done | rfl) (by decide) ?_
    refine lv_aload_n hx hb (z_d hX7_valueOf_0 7 rfl) rfl (lv_at hl 0 rfl) ?_
    refine z_bnd hF (fun q2 hq2 hF => ?_)
    refine z_ro_i (z_rV (As := []) (rest := []) hx hb hml hown hts vt_X7_sceneMany (c_X7_sceneMany l Z Am M _ hq2) rfl rfl ⟨Nat.le_of_ble_eq_true rfl, Nat.le_of_ble_eq_true rfl⟩ k_m_X7_158 zPro_blind (z_recv (q := (RX7, TX7, 19)) (ci := 7) (q0 := 0) hK (zP_reg hP 0 rfl) rfl rfl) (z_prec hK hP) rfl hl.1 (Nat.le_of_ble_eq_true rfl) (z_d hX7_valueOf_0 8 rfl) ⟨Nat.zero_le _, Nat.zero_le _⟩) hS hP (fun H locs hP hS => ?_)
    obtain rfl := Option.some.inj hF
    subst hQ
    exact W.iret hx hb hr (fun t ht hW => zq_ro (hS.F ht)) hS.2.2 (z_d hX7_valueOf_0 9 rfl)
  have hF := z_neg hs1_1 hF
  by_cases hs1_2 : p1 = 2
  · have hF := z_pos hs1_2 hF
    refine lv_tableIn (off := 55) (tgt := 56) hx hb (z_d hX7_valueOf_0 1 rfl) (by rw [hs1_2]; decide) (by rw [hs1_2]; decide) (by rw [hs1_2]; first | done | rfl) (by decide) ?_
    refine lv_aload_n hx hb (z_d hX7_valueOf_0 10 rfl) rfl (lv_at hl 0 rfl) ?_
    refine va_get (D := Z.1) (ci := 7) (v := .int M.2.2.2.2.2.2.2.1) (C := RX7) (T := TX7) (N := 19) hx hb hts zinX7 hown hK.1 (zP_reg hP 0 rfl) 0 rfl rfl 7 (by decide) (hts _ k_f_X7_101) (fun _ h9 => h9) rfl (z_d hX7_valueOf_0 11 rfl) ?_
    obtain rfl := Option.some.inj hF
    subst hQ
    exact W.iret hx hb hr (fun t ht hW => zq_ro (hS.F ht)) hS.2.2 (z_d hX7_valueOf_0 12 rfl)
  have hF := z_neg hs1_2 hF
  by_cases hs1_3 : p1 = 3
  · have hF := z_pos hs1_3 hF
    refine lv_tableIn (off := 60) (tgt := 61) hx hb (z_d hX7_valueOf_0 1 rfl) (by rw [hs1_3]; decide) (by rw [hs1_3]; decide) (by rw [hs1_3]; first | done | rfl) (by decide) ?_
    refine lv_aload_n hx hb (z_d hX7_valueOf_0 13 rfl) rfl (lv_at hl 0 rfl) ?_
    refine va_get (D := Z.1) (ci := 7) (v := .ref (Am 1)) (C := RX7) (T := TX7) (N := 19) hx hb hts zinX7 hown hK.1 (zP_reg hP 0 rfl) 0 rfl rfl 0 (by decide) (hts _ k_f_X7_7) (fun _ h9 => h9) rfl (z_d hX7_valueOf_0 14 rfl) ?_
    refine lv_iconst (v := 0) hx hb (z_d hX7_valueOf_0 15 rfl) (by decide) ?_
    refine z_ix hF (fun hin hF => ?_)
    refine va_iald (D := Z.1) (f := M.1) hx hb hK.1 (zP_reg hP 1 rfl) 0 0 rfl rfl hin (z_d hX7_valueOf_0 16 rfl) ?_
    refine z_let hF (fun u3 hu3 hF => ?_)
    refine lv_topE hu3 ?_
    obtain rfl := Option.some.inj hF
    subst hQ
    exact W.iret hx hb hr (fun t ht hW => zq_ro (hS.F ht)) hS.2.2 (z_d hX7_valueOf_0 17 rfl)
  have hF := z_neg hs1_3 hF
  by_cases hs1_4 : p1 = 4
  · have hF := z_pos hs1_4 hF
    refine lv_tableIn (off := 67) (tgt := 68) hx hb (z_d hX7_valueOf_0 1 rfl) (by rw [hs1_4]; decide) (by rw [hs1_4]; decide) (by rw [hs1_4]; first | done | rfl) (by decide) ?_
    refine lv_aload_n hx hb (z_d hX7_valueOf_0 18 rfl) rfl (lv_at hl 0 rfl) ?_
    refine z_bnd hF (fun q4 hq4 hF => ?_)
    refine z_ro_i (z_rV (As := []) (rest := []) hx hb hml hown hts vt_X7_lockedMany (c_X7_lockedMany l Z Am M _ hq4) rfl rfl ⟨Nat.le_of_ble_eq_true rfl, Nat.le_of_ble_eq_true rfl⟩ k_m_X7_167 zPro_blind (z_recv (q := (RX7, TX7, 19)) (ci := 7) (q0 := 0) hK (zP_reg hP 0 rfl) rfl rfl) (z_prec hK hP) rfl hl.1 (Nat.le_of_ble_eq_true rfl) (z_d hX7_valueOf_0 19 rfl) ⟨Nat.zero_le _, Nat.zero_le _⟩) hS hP (fun H locs hP hS => ?_)
    obtain rfl := Option.some.inj hF
    subst hQ
    exact W.iret hx hb hr (fun t ht hW => zq_ro (hS.F ht)) hS.2.2 (z_d hX7_valueOf_0 20 rfl)
  have hF := z_neg hs1_4 hF
  by_cases hs1_5 : p1 = 5
  · have hF := z_pos hs1_5 hF
    refine lv_tableIn (off := 72) (tgt := 73) hx hb (z_d hX7_valueOf_0 1 rfl) (by rw [hs1_5]; decide) (by rw [hs1_5]; decide) (by rw [hs1_5]; first | done | rfl) (by decide) ?_
    refine lv_aload_n hx hb (z_d hX7_valueOf_0 21 rfl) rfl (lv_at hl 0 rfl) ?_
    refine z_bnd hF (fun q5 hq5 hF => ?_)
    refine z_ro_i (z_rV (As := []) (rest := []) hx hb hml hown hts vt_X7_marks (c_X7_marks l Z Am M _ hq5) rfl rfl ⟨Nat.le_of_ble_eq_true rfl, Nat.le_of_ble_eq_true rfl⟩ k_m_X7_121 zPro_blind (z_recv (q := (RX7, TX7, 19)) (ci := 7) (q0 := 0) hK (zP_reg hP 0 rfl) rfl rfl) (z_prec hK hP) rfl hl.1 (Nat.le_of_ble_eq_true rfl) (z_d hX7_valueOf_0 22 rfl) ⟨Nat.zero_le _, Nat.zero_le _⟩) hS hP (fun H locs hP hS => ?_)
    obtain rfl := Option.some.inj hF
    subst hQ
    exact W.iret hx hb hr (fun t ht hW => zq_ro (hS.F ht)) hS.2.2 (z_d hX7_valueOf_0 23 rfl)
  have hF := z_neg hs1_5 hF
  by_cases hs1_6 : p1 = 6
  · have hF := z_pos hs1_6 hF
    refine lv_tableIn (off := 77) (tgt := 78) hx hb (z_d hX7_valueOf_0 1 rfl) (by rw [hs1_6]; decide) (by rw [hs1_6]; decide) (by rw [hs1_6]; first | done | rfl) (by decide) ?_
    refine lv_aload_n hx hb (z_d hX7_valueOf_0 24 rfl) rfl (lv_at hl 0 rfl) ?_
    refine lv_iconst (v := (-1)) hx hb (z_d hX7_valueOf_0 25 rfl) (by decide) ?_
    refine lv_iconst (v := 1) hx hb (z_d hX7_valueOf_0 26 rfl) (by decide) ?_
    refine z_bnd hF (fun q6 hq6 hF => ?_)
    refine z_ro_i (z_rV (As := [.int (-1), .int 1]) (rest := []) hx hb hml hown hts vt_X7_namesOf (c_X7_namesOf l Z Am M (-1) 1 _ hq6) rfl rfl ⟨Nat.le_of_ble_eq_true rfl, Nat.le_of_ble_eq_true rfl⟩ k_m_X7_170 zPro_blind (z_recv (q := (RX7, TX7, 19)) (ci := 7) (q0 := 0) hK (zP_reg hP 0 rfl) rfl rfl) (z_prec hK hP) rfl hl.1 (Nat.le_of_ble_eq_true rfl) (z_d hX7_valueOf_0 27 rfl) ⟨Nat.zero_le _, Nat.zero_le _⟩) hS hP (fun H locs hP hS => ?_)
    obtain rfl := Option.some.inj hF
    subst hQ
    exact W.iret hx hb hr (fun t ht hW => zq_ro (hS.F ht)) hS.2.2 (z_d hX7_valueOf_0 28 rfl)
  have hF := z_neg hs1_6 hF
  have n0 := lv_neT (a := 0) hs1_0 (by decide)
  have n1 := lv_neT (a := 1) hs1_1 (by decide)
  have n2 := lv_neT (a := 2) hs1_2 (by decide)
  have n3 := lv_neT (a := 3) hs1_3 (by decide)
  have n4 := lv_neT (a := 4) hs1_4 (by decide)
  have n5 := lv_neT (a := 5) hs1_5 (by decide)
  have n6 := lv_neT (a := 6) hs1_6 (by decide)
  refine lv_tableOut (tgt := 85) hx hb (z_d hX7_valueOf_0 1 rfl) (by omega) (by decide) ?_
  refine lv_aload_n hx hb (z_d hX7_valueOf_0 29 rfl) rfl (lv_at hl 0 rfl) ?_
  refine va_get (D := Z.1) (ci := 7) (v := .int M.2.2.2.2.2.2.2.2.1) (C := RX7) (T := TX7) (N := 19) hx hb hts zinX7 hown hK.1 (zP_reg hP 0 rfl) 0 rfl rfl 8 (by decide) (hts _ k_f_X7_110) (fun _ h9 => h9) rfl (z_d hX7_valueOf_0 30 rfl) ?_
  obtain rfl := Option.some.inj hF
  subst hQ
  exact W.iret hx hb hr (fun t ht hW => zq_ro (hS.F ht)) hS.2.2 (z_d hX7_valueOf_0 31 rfl)
def rm_X7_value : Room := { frames := 6, cells := 0, slots := 0, locals := 141 }
set_option maxRecDepth 100000 in
set_option maxHeartbeats 4000000 in
theorem c_X7_value (l : Launch) (Z : zZ) (Am : Nat → Nat) (M : t_Model) (p1 : Int32) (R : Int32 × t_Model) (hF : X7_value M p1 = some R) : zMU l yX7_value (zw yX7_value cX7_value 2 (some .int)) rm_X7_value Z [.ref (Am 0), .int p1] (w_Model Z.2.1 Am M) (w_Model Z.2.1 Am R.2) (some (.int R.1)) := by
  refine zMU_of (by decide) (Nat.le_of_ble_eq_true rfl) (fun p e s m below meth c hx hb hr hml hown hts hlocks hK A hA Q hQ ls hl hP hD hS => ?_)
  unfold X7_value at hF
  have hl : lv_has ls 2 [(0, .ref (Am 0)), (1, .int p1)] := hl
  have hown : s.vm.findClass RX7 = some m.cls := hown
  have hP : va_P Z.1 vwCl (l_Model Z.2.1 Am M.1 M.2.1 M.2.2.1 M.2.2.2.1 M.2.2.2.2.1 M.2.2.2.2.2.1 M.2.2.2.2.2.2.1 M.2.2.2.2.2.2.2.1 M.2.2.2.2.2.2.2.2.1 M.2.2.2.2.2.2.2.2.2.1 M.2.2.2.2.2.2.2.2.2.2.1 M.2.2.2.2.2.2.2.2.2.2.2.1 M.2.2.2.2.2.2.2.2.2.2.2.2.1 M.2.2.2.2.2.2.2.2.2.2.2.2.2.1 M.2.2.2.2.2.2.2.2.2.2.2.2.2.2.1 M.2.2.2.2.2.2.2.2.2.2.2.2.2.2.2.1 M.2.2.2.2.2.2.2.2.2.2.2.2.2.2.2.2.1 M.2.2.2.2.2.2.2.2.2.2.2.2.2.2.2.2.2.1 M.2.2.2.2.2.2.2.2.2.2.2.2.2.2.2.2.2.2).flatten s.heap := hP
  have hD : va_D A (l_Model Z.2.1 Am M.1 M.2.1 M.2.2.1 M.2.2.2.1 M.2.2.2.2.1 M.2.2.2.2.2.1 M.2.2.2.2.2.2.1 M.2.2.2.2.2.2.2.1 M.2.2.2.2.2.2.2.2.1 M.2.2.2.2.2.2.2.2.2.1 M.2.2.2.2.2.2.2.2.2.2.1 M.2.2.2.2.2.2.2.2.2.2.2.1 M.2.2.2.2.2.2.2.2.2.2.2.2.1 M.2.2.2.2.2.2.2.2.2.2.2.2.2.1 M.2.2.2.2.2.2.2.2.2.2.2.2.2.2.1 M.2.2.2.2.2.2.2.2.2.2.2.2.2.2.2.1 M.2.2.2.2.2.2.2.2.2.2.2.2.2.2.2.2.1 M.2.2.2.2.2.2.2.2.2.2.2.2.2.2.2.2.2.1 M.2.2.2.2.2.2.2.2.2.2.2.2.2.2.2.2.2.2).flatten := hD
  refine lv_aload_n hx hb (z_d hX7_value_0 0 rfl) rfl (lv_at hl 0 rfl) ?_
  refine lv_aload_n hx hb (z_d hX7_value_0 1 rfl) rfl (lv_at hl 0 rfl) ?_
  refine va_get (D := Z.1) (ci := 7) (v := .ref (Am 1)) (C := RX7) (T := TX7) (N := 19) hx hb hts zinX7 hown hK.1 (zP_reg hP 0 rfl) 0 rfl rfl 0 (by decide) (hts _ k_f_X7_7) (fun _ h9 => h9) rfl (z_d hX7_value_0 2 rfl) ?_
  refine lv_iconst (v := 0) hx hb (z_d hX7_value_0 3 rfl) (by decide) ?_
  refine z_ix hF (fun hin hF => ?_)
  refine va_iald (D := Z.1) (f := M.1) hx hb hK.1 (zP_reg hP 1 rfl) 0 0 rfl rfl hin (z_d hX7_value_0 4 rfl) ?_
  refine z_let hF (fun u1 hu1 hF => ?_)
  refine lv_topE hu1 ?_
  refine z_bnd hF (fun q2 hq2 hF => ?_)
  refine z_mu0 (z_rV (As := [.int u1]) (rest := []) hx hb hml hown hts vt_X7_setsAll (c_X7_setsAll l Z Am M u1 _ hq2) rfl rfl ⟨Nat.le_of_ble_eq_true rfl, Nat.le_of_ble_eq_true rfl⟩ k_m_X7_117 zPmu_blind (z_recv (q := (RX7, TX7, 19)) (ci := 7) (q0 := 0) hK (zP_reg hP 0 rfl) rfl rfl) (z_prem hK hP hD) rfl hl.1 (Nat.le_of_ble_eq_true rfl) (z_d hX7_value_0 5 rfl) ⟨Nat.zero_le _, Nat.zero_le _⟩) hS hD (adr_Model _ _ _ _) (fun H locs hP hD hS => ?_)
  have hP : va_P Z.1 vwCl (l_Model Z.2.1 Am q2.1 q2.2.1 q2.2.2.1 q2.2.2.2.1 q2.2.2.2.2.1 q2.2.2.2.2.2.1 q2.2.2.2.2.2.2.1 q2.2.2.2.2.2.2.2.1 q2.2.2.2.2.2.2.2.2.1 q2.2.2.2.2.2.2.2.2.2.1 q2.2.2.2.2.2.2.2.2.2.2.1 q2.2.2.2.2.2.2.2.2.2.2.2.1 q2.2.2.2.2.2.2.2.2.2.2.2.2.1 q2.2.2.2.2.2.2.2.2.2.2.2.2.2.1 q2.2.2.2.2.2.2.2.2.2.2.2.2.2.2.1 q2.2.2.2.2.2.2.2.2.2.2.2.2.2.2.2.1 q2.2.2.2.2.2.2.2.2.2.2.2.2.2.2.2.2.1 q2.2.2.2.2.2.2.2.2.2.2.2.2.2.2.2.2.2.1 q2.2.2.2.2.2.2.2.2.2.2.2.2.2.2.2.2.2.2).flatten H := hP
  have hD : va_D A (l_Model Z.2.1 Am q2.1 q2.2.1 q2.2.2.1 q2.2.2.2.1 q2.2.2.2.2.1 q2.2.2.2.2.2.1 q2.2.2.2.2.2.2.1 q2.2.2.2.2.2.2.2.1 q2.2.2.2.2.2.2.2.2.1 q2.2.2.2.2.2.2.2.2.2.1 q2.2.2.2.2.2.2.2.2.2.2.1 q2.2.2.2.2.2.2.2.2.2.2.2.1 q2.2.2.2.2.2.2.2.2.2.2.2.2.1 q2.2.2.2.2.2.2.2.2.2.2.2.2.2.1 q2.2.2.2.2.2.2.2.2.2.2.2.2.2.2.1 q2.2.2.2.2.2.2.2.2.2.2.2.2.2.2.2.1 q2.2.2.2.2.2.2.2.2.2.2.2.2.2.2.2.2.1 q2.2.2.2.2.2.2.2.2.2.2.2.2.2.2.2.2.2.1 q2.2.2.2.2.2.2.2.2.2.2.2.2.2.2.2.2.2.2).flatten := hD
  refine W.eq (g2 := F0 m 10 ls []) rfl ?_
  refine lv_iload_n hx hb (z_d hX7_value_0 6 rfl) rfl (lv_at hl 1 rfl) ?_
  refine lv_iconst (v := 0) hx hb (z_d hX7_value_0 7 rfl) (by decide) ?_
  refine lv_bipush (v := 7) hx hb (z_d hX7_value_0 8 rfl) (by decide) ?_
  refine z_let hF (fun q3 hq3 hF => ?_)
  refine z_ro_i (z_rS (As := [.int p1, .int 0, .int 7]) (rest := []) hx hb hml hown hts vs_X7_in (c_X7_in l Z p1 0 7 _ hq3) rfl rfl ⟨Nat.le_of_ble_eq_true rfl, Nat.le_of_ble_eq_true rfl⟩ k_m_X7_58 zPro_blind (z_prec hK zP_nil) rfl hl.1 (Nat.le_of_ble_eq_true rfl) (z_d hX7_value_0 9 rfl) ⟨Nat.zero_le _, Nat.zero_le _⟩) hS hP (fun H locs hP hS => ?_)
  refine lv_if_eq (tgt := 32) hx hb (z_d hX7_value_0 10 rfl) (by decide) (fun hc17 => ?_) (fun hc17 => ?_)
  · have hF := z_pos hc17 hF
    refine lv_aload_n hx hb (z_d hX7_value_0 17 rfl) rfl (lv_at hl 0 rfl) ?_
    refine lv_iconst (v := 1) hx hb (z_d hX7_value_0 18 rfl) (by decide) ?_
    refine z_let hF (fun q4 hq4 hF => ?_)
    refine z_mu0 (z_rV (As := [.int 1]) (rest := []) hx hb hml hown hts vt_X7_fails (c_X7_fails l Z Am q2 1 _ hq4) rfl rfl ⟨Nat.le_of_ble_eq_true rfl, Nat.le_of_ble_eq_true rfl⟩ k_m_X7_129 zPmu_blind (z_recv (q := (RX7, TX7, 19)) (ci := 7) (q0 := 0) hK (zP_reg hP 0 rfl) rfl rfl) (z_prem hK hP hD) rfl hl.1 (Nat.le_of_ble_eq_true rfl) (z_d hX7_value_0 19 rfl) ⟨Nat.zero_le _, Nat.zero_le _⟩) hS hD (adr_Model _ _ _ _) (fun H locs hP hD hS => ?_)
    have hP : va_P Z.1 vwCl (l_Model Z.2.1 Am q4.2.1 q4.2.2.1 q4.2.2.2.1 q4.2.2.2.2.1 q4.2.2.2.2.2.1 q4.2.2.2.2.2.2.1 q4.2.2.2.2.2.2.2.1 q4.2.2.2.2.2.2.2.2.1 q4.2.2.2.2.2.2.2.2.2.1 q4.2.2.2.2.2.2.2.2.2.2.1 q4.2.2.2.2.2.2.2.2.2.2.2.1 q4.2.2.2.2.2.2.2.2.2.2.2.2.1 q4.2.2.2.2.2.2.2.2.2.2.2.2.2.1 q4.2.2.2.2.2.2.2.2.2.2.2.2.2.2.1 q4.2.2.2.2.2.2.2.2.2.2.2.2.2.2.2.1 q4.2.2.2.2.2.2.2.2.2.2.2.2.2.2.2.2.1 q4.2.2.2.2.2.2.2.2.2.2.2.2.2.2.2.2.2.1 q4.2.2.2.2.2.2.2.2.2.2.2.2.2.2.2.2.2.2.1 q4.2.2.2.2.2.2.2.2.2.2.2.2.2.2.2.2.2.2.2).flatten H := hP
    have hD : va_D A (l_Model Z.2.1 Am q4.2.1 q4.2.2.1 q4.2.2.2.1 q4.2.2.2.2.1 q4.2.2.2.2.2.1 q4.2.2.2.2.2.2.1 q4.2.2.2.2.2.2.2.1 q4.2.2.2.2.2.2.2.2.1 q4.2.2.2.2.2.2.2.2.2.1 q4.2.2.2.2.2.2.2.2.2.2.1 q4.2.2.2.2.2.2.2.2.2.2.2.1 q4.2.2.2.2.2.2.2.2.2.2.2.2.1 q4.2.2.2.2.2.2.2.2.2.2.2.2.2.1 q4.2.2.2.2.2.2.2.2.2.2.2.2.2.2.1 q4.2.2.2.2.2.2.2.2.2.2.2.2.2.2.2.1 q4.2.2.2.2.2.2.2.2.2.2.2.2.2.2.2.2.1 q4.2.2.2.2.2.2.2.2.2.2.2.2.2.2.2.2.2.1 q4.2.2.2.2.2.2.2.2.2.2.2.2.2.2.2.2.2.2.1 q4.2.2.2.2.2.2.2.2.2.2.2.2.2.2.2.2.2.2.2).flatten := hD
    refine W.eq (g2 := F0 m 37 ls [.int q4.1]) rfl ?_
    obtain rfl := Option.some.inj hF
    subst hQ
    subst hA
    exact W.iret hx hb hr (fun t ht hW => zq_mu (by rw [ht]; exact hP) (hS.F ht)) hS.2.2 (z_d hX7_value_0 20 rfl)
  · have hF := z_neg hc17 hF
    refine lv_aload_n hx hb (z_d hX7_value_0 11 rfl) rfl (lv_at hl 0 rfl) ?_
    refine lv_aload_n hx hb (z_d hX7_value_0 12 rfl) rfl (lv_at hl 0 rfl) ?_
    refine lv_iload_n hx hb (z_d hX7_value_0 13 rfl) rfl (lv_at hl 1 rfl) ?_
    refine z_bnd hF (fun q5 hq5 hF => ?_)
    refine z_ro_i (z_rV (As := [.int p1]) (rest := [.ref (Am 0)]) hx hb hml hown hts vt_X7_valueOf (c_X7_valueOf l Z Am q2 p1 _ hq5) rfl rfl ⟨Nat.le_of_ble_eq_true rfl, Nat.le_of_ble_eq_true rfl⟩ k_m_X7_174 zPro_blind (z_recv (q := (RX7, TX7, 19)) (ci := 7) (q0 := 0) hK (zP_reg hP 0 rfl) rfl rfl) (z_prec hK hP) rfl hl.1 (Nat.le_of_ble_eq_true rfl) (z_d hX7_value_0 14 rfl) ⟨Nat.zero_le _, Nat.zero_le _⟩) hS hP (fun H locs hP hS => ?_)
    refine z_let hF (fun q6 hq6 hF => ?_)
    refine z_mu0 (z_rV (As := [.int q5]) (rest := []) hx hb hml hown hts vt_X7_tells (c_X7_tells l Z Am q2 q5 _ hq6) rfl rfl ⟨Nat.le_of_ble_eq_true rfl, Nat.le_of_ble_eq_true rfl⟩ k_m_X7_54 zPmu_blind (z_recv (q := (RX7, TX7, 19)) (ci := 7) (q0 := 0) hK (zP_reg hP 0 rfl) rfl rfl) (z_prem hK hP hD) rfl hl.1 (Nat.le_of_ble_eq_true rfl) (z_d hX7_value_0 15 rfl) ⟨Nat.zero_le _, Nat.zero_le _⟩) hS hD (adr_Model _ _ _ _) (fun H locs hP hD hS => ?_)
    have hP : va_P Z.1 vwCl (l_Model Z.2.1 Am q6.2.1 q6.2.2.1 q6.2.2.2.1 q6.2.2.2.2.1 q6.2.2.2.2.2.1 q6.2.2.2.2.2.2.1 q6.2.2.2.2.2.2.2.1 q6.2.2.2.2.2.2.2.2.1 q6.2.2.2.2.2.2.2.2.2.1 q6.2.2.2.2.2.2.2.2.2.2.1 q6.2.2.2.2.2.2.2.2.2.2.2.1 q6.2.2.2.2.2.2.2.2.2.2.2.2.1 q6.2.2.2.2.2.2.2.2.2.2.2.2.2.1 q6.2.2.2.2.2.2.2.2.2.2.2.2.2.2.1 q6.2.2.2.2.2.2.2.2.2.2.2.2.2.2.2.1 q6.2.2.2.2.2.2.2.2.2.2.2.2.2.2.2.2.1 q6.2.2.2.2.2.2.2.2.2.2.2.2.2.2.2.2.2.1 q6.2.2.2.2.2.2.2.2.2.2.2.2.2.2.2.2.2.2.1 q6.2.2.2.2.2.2.2.2.2.2.2.2.2.2.2.2.2.2.2).flatten H := hP
    have hD : va_D A (l_Model Z.2.1 Am q6.2.1 q6.2.2.1 q6.2.2.2.1 q6.2.2.2.2.1 q6.2.2.2.2.2.1 q6.2.2.2.2.2.2.1 q6.2.2.2.2.2.2.2.1 q6.2.2.2.2.2.2.2.2.1 q6.2.2.2.2.2.2.2.2.2.1 q6.2.2.2.2.2.2.2.2.2.2.1 q6.2.2.2.2.2.2.2.2.2.2.2.1 q6.2.2.2.2.2.2.2.2.2.2.2.2.1 q6.2.2.2.2.2.2.2.2.2.2.2.2.2.1 q6.2.2.2.2.2.2.2.2.2.2.2.2.2.2.1 q6.2.2.2.2.2.2.2.2.2.2.2.2.2.2.2.1 q6.2.2.2.2.2.2.2.2.2.2.2.2.2.2.2.2.1 q6.2.2.2.2.2.2.2.2.2.2.2.2.2.2.2.2.2.1 q6.2.2.2.2.2.2.2.2.2.2.2.2.2.2.2.2.2.2.1 q6.2.2.2.2.2.2.2.2.2.2.2.2.2.2.2.2.2.2.2).flatten := hD
    refine W.eq (g2 := F0 m 29 ls [.int q6.1]) rfl ?_
    refine lv_goto (tgt := 37) hx hb (z_d hX7_value_0 16 rfl) (by decide) ?_
    obtain rfl := Option.some.inj hF
    subst hQ
    subst hA
    exact W.iret hx hb hr (fun t ht hW => zq_mu (by rw [ht]; exact hP) (hS.F ht)) hS.2.2 (z_d hX7_value_0 20 rfl)
def rm_X7_elementOf : Room := { frames := 4, cells := 0, slots := 0, locals := 88 }
set_option maxRecDepth 100000 in
set_option maxHeartbeats 4000000 in
theorem c_X7_elementOf (l : Launch) (Z : zZ) (Am : Nat → Nat) (M : t_Model) (p1 : Int32) (p2 : Int32) (R : Int32) (hF : X7_elementOf M p1 p2 = some R) : zRO l yX7_elementOf (zw yX7_elementOf cX7_elementOf 3 (some .int)) rm_X7_elementOf Z [.ref (Am 0), .int p1, .int p2] (w_Model Z.2.1 Am M) (some (.int R)) := by
  refine zRO_of (by decide) (Nat.le_of_ble_eq_true rfl) (fun p e s m below meth c hx hb hr hml hown hts hlocks hK Q hQ ls hl hP hS => ?_)
  unfold X7_elementOf at hF
  have hl : lv_has ls 3 [(0, .ref (Am 0)), (1, .int p1), (2, .int p2)] := hl
  have hown : s.vm.findClass RX7 = some m.cls := hown
  have hP : va_P Z.1 vwCl (l_Model Z.2.1 Am M.1 M.2.1 M.2.2.1 M.2.2.2.1 M.2.2.2.2.1 M.2.2.2.2.2.1 M.2.2.2.2.2.2.1 M.2.2.2.2.2.2.2.1 M.2.2.2.2.2.2.2.2.1 M.2.2.2.2.2.2.2.2.2.1 M.2.2.2.2.2.2.2.2.2.2.1 M.2.2.2.2.2.2.2.2.2.2.2.1 M.2.2.2.2.2.2.2.2.2.2.2.2.1 M.2.2.2.2.2.2.2.2.2.2.2.2.2.1 M.2.2.2.2.2.2.2.2.2.2.2.2.2.2.1 M.2.2.2.2.2.2.2.2.2.2.2.2.2.2.2.1 M.2.2.2.2.2.2.2.2.2.2.2.2.2.2.2.2.1 M.2.2.2.2.2.2.2.2.2.2.2.2.2.2.2.2.2.1 M.2.2.2.2.2.2.2.2.2.2.2.2.2.2.2.2.2.2).flatten s.heap := hP
  refine lv_iload_n hx hb (z_d hX7_elementOf_0 0 rfl) rfl (lv_at hl 2 rfl) ?_
  by_cases hs1_3 : p2 = 3
  · have hF := z_pos hs1_3 hF
    refine lv_tableIn (off := 43) (tgt := 44) hx hb (z_d hX7_elementOf_0 1 rfl) (by rw [hs1_3]; decide) (by rw [hs1_3]; decide) (by rw [hs1_3]; first | done | rfl) (by decide) ?_
    refine lv_aload_n hx hb (z_d hX7_elementOf_0 2 rfl) rfl (lv_at hl 0 rfl) ?_
    refine lv_iload_n hx hb (z_d hX7_elementOf_0 3 rfl) rfl (lv_at hl 1 rfl) ?_
    refine z_bnd hF (fun q1 hq1 hF => ?_)
    refine z_ro_i (z_rV (As := [.int p1]) (rest := []) hx hb hml hown hts vt_X7_lines (c_X7_lines l Z Am M p1 _ hq1) rfl rfl ⟨Nat.le_of_ble_eq_true rfl, Nat.le_of_ble_eq_true rfl⟩ k_m_X7_69 zPro_blind (z_recv (q := (RX7, TX7, 19)) (ci := 7) (q0 := 0) hK (zP_reg hP 0 rfl) rfl rfl) (z_prec hK hP) rfl hl.1 (Nat.le_of_ble_eq_true rfl) (z_d hX7_elementOf_0 4 rfl) ⟨Nat.zero_le _, Nat.zero_le _⟩) hS hP (fun H locs hP hS => ?_)
    obtain rfl := Option.some.inj hF
    subst hQ
    exact W.iret hx hb hr (fun t ht hW => zq_ro (hS.F ht)) hS.2.2 (z_d hX7_elementOf_0 5 rfl)
  have hF := z_neg hs1_3 hF
  by_cases hs1_4 : p2 = 4
  · have hF := z_pos hs1_4 hF
    refine lv_tableIn (off := 49) (tgt := 50) hx hb (z_d hX7_elementOf_0 1 rfl) (by rw [hs1_4]; decide) (by rw [hs1_4]; decide) (by rw [hs1_4]; first | done | rfl) (by decide) ?_
    refine lv_aload_n hx hb (z_d hX7_elementOf_0 6 rfl) rfl (lv_at hl 0 rfl) ?_
    refine lv_iload_n hx hb (z_d hX7_elementOf_0 7 rfl) rfl (lv_at hl 1 rfl) ?_
    refine z_bnd hF (fun q2 hq2 hF => ?_)
    refine z_ro_i (z_rV (As := [.int p1]) (rest := []) hx hb hml hown hts vt_X7_sceneOf (c_X7_sceneOf l Z Am M p1 _ hq2) rfl rfl ⟨Nat.le_of_ble_eq_true rfl, Nat.le_of_ble_eq_true rfl⟩ k_m_X7_98 zPro_blind (z_recv (q := (RX7, TX7, 19)) (ci := 7) (q0 := 0) hK (zP_reg hP 0 rfl) rfl rfl) (z_prec hK hP) rfl hl.1 (Nat.le_of_ble_eq_true rfl) (z_d hX7_elementOf_0 8 rfl) ⟨Nat.zero_le _, Nat.zero_le _⟩) hS hP (fun H locs hP hS => ?_)
    obtain rfl := Option.some.inj hF
    subst hQ
    exact W.iret hx hb hr (fun t ht hW => zq_ro (hS.F ht)) hS.2.2 (z_d hX7_elementOf_0 9 rfl)
  have hF := z_neg hs1_4 hF
  by_cases hs1_5 : p2 = 5
  · have hF := z_pos hs1_5 hF
    refine lv_tableIn (off := 55) (tgt := 56) hx hb (z_d hX7_elementOf_0 1 rfl) (by rw [hs1_5]; decide) (by rw [hs1_5]; decide) (by rw [hs1_5]; first | done | rfl) (by decide) ?_
    refine lv_aload_n hx hb (z_d hX7_elementOf_0 10 rfl) rfl (lv_at hl 0 rfl) ?_
    refine lv_iload_n hx hb (z_d hX7_elementOf_0 11 rfl) rfl (lv_at hl 1 rfl) ?_
    refine lv_bipush (v := 8) hx hb (z_d hX7_elementOf_0 12 rfl) (by decide) ?_
    refine z_bnd hF (fun q3 hq3 hF => ?_)
    refine z_ro_i (z_rV (As := [.int p1, .int 8]) (rest := []) hx hb hml hown hts vt_X7_of (c_X7_of l Z Am M p1 8 _ hq3) rfl rfl ⟨Nat.le_of_ble_eq_true rfl, Nat.le_of_ble_eq_true rfl⟩ k_m_X7_62 zPro_blind (z_recv (q := (RX7, TX7, 19)) (ci := 7) (q0 := 0) hK (zP_reg hP 0 rfl) rfl rfl) (z_prec hK hP) rfl hl.1 (Nat.le_of_ble_eq_true rfl) (z_d hX7_elementOf_0 13 rfl) ⟨Nat.zero_le _, Nat.zero_le _⟩) hS hP (fun H locs hP hS => ?_)
    obtain rfl := Option.some.inj hF
    subst hQ
    exact W.iret hx hb hr (fun t ht hW => zq_ro (hS.F ht)) hS.2.2 (z_d hX7_elementOf_0 14 rfl)
  have hF := z_neg hs1_5 hF
  by_cases hs1_6 : p2 = 6
  · have hF := z_pos hs1_6 hF
    refine lv_tableIn (off := 63) (tgt := 64) hx hb (z_d hX7_elementOf_0 1 rfl) (by rw [hs1_6]; decide) (by rw [hs1_6]; decide) (by rw [hs1_6]; first | done | rfl) (by decide) ?_
    refine lv_aload_n hx hb (z_d hX7_elementOf_0 15 rfl) rfl (lv_at hl 0 rfl) ?_
    refine va_get (D := Z.1) (ci := 7) (v := .ref (Am 5)) (C := RX7) (T := TX7) (N := 19) hx hb hts zinX7 hown hK.1 (zP_reg hP 0 rfl) 0 rfl rfl 9 (by decide) (hts _ k_f_X7_22) (fun _ h9 => h9) rfl (z_d hX7_elementOf_0 16 rfl) ?_
    refine lv_iload_n hx hb (z_d hX7_elementOf_0 17 rfl) rfl (lv_at hl 1 rfl) ?_
    refine z_ix hF (fun hin hF => ?_)
    refine va_iald (D := Z.1) (f := M.2.2.2.2.2.2.2.2.2.1) hx hb hK.1 (zP_reg hP 5 rfl) 0 0 rfl rfl hin (z_d hX7_elementOf_0 18 rfl) ?_
    refine z_let hF (fun u4 hu4 hF => ?_)
    refine lv_topE hu4 ?_
    obtain rfl := Option.some.inj hF
    subst hQ
    exact W.iret hx hb hr (fun t ht hW => zq_ro (hS.F ht)) hS.2.2 (z_d hX7_elementOf_0 19 rfl)
  have hF := z_neg hs1_6 hF
  by_cases hs1_7 : p2 = 7
  · have hF := z_pos hs1_7 hF
    refine lv_tableIn (off := 70) (tgt := 71) hx hb (z_d hX7_elementOf_0 1 rfl) (by rw [hs1_7]; decide) (by rw [hs1_7]; decide) (by rw [hs1_7]; first | done | rfl) (by decide) ?_
    refine lv_aload_n hx hb (z_d hX7_elementOf_0 20 rfl) rfl (lv_at hl 0 rfl) ?_
    refine va_get (D := Z.1) (ci := 7) (v := .ref (Am 6)) (C := RX7) (T := TX7) (N := 19) hx hb hts zinX7 hown hK.1 (zP_reg hP 0 rfl) 0 rfl rfl 10 (by decide) (hts _ k_f_X7_25) (fun _ h9 => h9) rfl (z_d hX7_elementOf_0 21 rfl) ?_
    refine lv_iload_n hx hb (z_d hX7_elementOf_0 22 rfl) rfl (lv_at hl 1 rfl) ?_
    refine z_ix hF (fun hin hF => ?_)
    refine va_iald (D := Z.1) (f := M.2.2.2.2.2.2.2.2.2.2.1) hx hb hK.1 (zP_reg hP 6 rfl) 0 0 rfl rfl hin (z_d hX7_elementOf_0 23 rfl) ?_
    refine z_let hF (fun u5 hu5 hF => ?_)
    refine lv_topE hu5 ?_
    obtain rfl := Option.some.inj hF
    subst hQ
    exact W.iret hx hb hr (fun t ht hW => zq_ro (hS.F ht)) hS.2.2 (z_d hX7_elementOf_0 24 rfl)
  have hF := z_neg hs1_7 hF
  by_cases hs1_8 : p2 = 8
  · have hF := z_pos hs1_8 hF
    refine lv_tableIn (off := 77) (tgt := 78) hx hb (z_d hX7_elementOf_0 1 rfl) (by rw [hs1_8]; decide) (by rw [hs1_8]; decide) (by rw [hs1_8]; first | done | rfl) (by decide) ?_
    refine lv_aload_n hx hb (z_d hX7_elementOf_0 25 rfl) rfl (lv_at hl 0 rfl) ?_
    refine va_get (D := Z.1) (ci := 7) (v := .ref (Am 7)) (C := RX7) (T := TX7) (N := 19) hx hb hts zinX7 hown hK.1 (zP_reg hP 0 rfl) 0 rfl rfl 11 (by decide) (hts _ k_f_X7_28) (fun _ h9 => h9) rfl (z_d hX7_elementOf_0 26 rfl) ?_
    refine lv_iload_n hx hb (z_d hX7_elementOf_0 27 rfl) rfl (lv_at hl 1 rfl) ?_
    refine z_ix hF (fun hin hF => ?_)
    refine va_iald (D := Z.1) (f := M.2.2.2.2.2.2.2.2.2.2.2.1) hx hb hK.1 (zP_reg hP 7 rfl) 0 0 rfl rfl hin (z_d hX7_elementOf_0 28 rfl) ?_
    refine z_let hF (fun u6 hu6 hF => ?_)
    refine lv_topE hu6 ?_
    obtain rfl := Option.some.inj hF
    subst hQ
    exact W.iret hx hb hr (fun t ht hW => zq_ro (hS.F ht)) hS.2.2 (z_d hX7_elementOf_0 29 rfl)
  have hF := z_neg hs1_8 hF
  by_cases hs1_9 : p2 = 9
  · have hF := z_pos hs1_9 hF
    refine lv_tableIn (off := 84) (tgt := 85) hx hb (z_d hX7_elementOf_0 1 rfl) (by rw [hs1_9]; decide) (by rw [hs1_9]; decide) (by rw [hs1_9]; first | done | rfl) (by decide) ?_
    refine lv_aload_n hx hb (z_d hX7_elementOf_0 30 rfl) rfl (lv_at hl 0 rfl) ?_
    refine lv_iload_n hx hb (z_d hX7_elementOf_0 31 rfl) rfl (lv_at hl 1 rfl) ?_
    refine z_bnd hF (fun q7 hq7 hF => ?_)
    refine z_ro_i (z_rV (As := [.int p1]) (rest := []) hx hb hml hown hts vt_X7_isCarried (c_X7_isCarried l Z Am M p1 _ hq7) rfl rfl ⟨Nat.le_of_ble_eq_true rfl, Nat.le_of_ble_eq_true rfl⟩ k_m_X7_164 zPro_blind (z_recv (q := (RX7, TX7, 19)) (ci := 7) (q0 := 0) hK (zP_reg hP 0 rfl) rfl rfl) (z_prec hK hP) rfl hl.1 (Nat.le_of_ble_eq_true rfl) (z_d hX7_elementOf_0 32 rfl) ⟨Nat.zero_le _, Nat.zero_le _⟩) hS hP (fun H locs hP hS => ?_)
    refine lv_if_eq (tgt := 97) hx hb (z_d hX7_elementOf_0 33 rfl) (by decide) (fun hc90 => ?_) (fun hc90 => ?_)
    · have hF := z_pos hc90 hF
      refine lv_iconst (v := 0) hx hb (z_d hX7_elementOf_0 36 rfl) (by decide) ?_
      obtain rfl := Option.some.inj hF
      subst hQ
      exact W.iret hx hb hr (fun t ht hW => zq_ro (hS.F ht)) hS.2.2 (z_d hX7_elementOf_0 37 rfl)
    · have hF := z_neg hc90 hF
      refine lv_iconst (v := 1) hx hb (z_d hX7_elementOf_0 34 rfl) (by decide) ?_
      refine lv_goto (tgt := 98) hx hb (z_d hX7_elementOf_0 35 rfl) (by decide) ?_
      obtain rfl := Option.some.inj hF
      subst hQ
      exact W.iret hx hb hr (fun t ht hW => zq_ro (hS.F ht)) hS.2.2 (z_d hX7_elementOf_0 37 rfl)
  have hF := z_neg hs1_9 hF
  have n3 := lv_neT (a := 3) hs1_3 (by decide)
  have n4 := lv_neT (a := 4) hs1_4 (by decide)
  have n5 := lv_neT (a := 5) hs1_5 (by decide)
  have n6 := lv_neT (a := 6) hs1_6 (by decide)
  have n7 := lv_neT (a := 7) hs1_7 (by decide)
  have n8 := lv_neT (a := 8) hs1_8 (by decide)
  have n9 := lv_neT (a := 9) hs1_9 (by decide)
  refine lv_tableOut (tgt := 99) hx hb (z_d hX7_elementOf_0 1 rfl) (by omega) (by decide) ?_
  refine lv_aload_n hx hb (z_d hX7_elementOf_0 38 rfl) rfl (lv_at hl 0 rfl) ?_
  refine lv_iload_n hx hb (z_d hX7_elementOf_0 39 rfl) rfl (lv_at hl 1 rfl) ?_
  refine lv_iload_n hx hb (z_d hX7_elementOf_0 40 rfl) rfl (lv_at hl 2 rfl) ?_
  refine z_bnd hF (fun q8 hq8 hF => ?_)
  refine z_ro_i (z_rV (As := [.int p1, .int p2]) (rest := []) hx hb hml hown hts vt_X7_of (c_X7_of l Z Am M p1 p2 _ hq8) rfl rfl ⟨Nat.le_of_ble_eq_true rfl, Nat.le_of_ble_eq_true rfl⟩ k_m_X7_62 zPro_blind (z_recv (q := (RX7, TX7, 19)) (ci := 7) (q0 := 0) hK (zP_reg hP 0 rfl) rfl rfl) (z_prec hK hP) rfl hl.1 (Nat.le_of_ble_eq_true rfl) (z_d hX7_elementOf_0 41 rfl) ⟨Nat.zero_le _, Nat.zero_le _⟩) hS hP (fun H locs hP hS => ?_)
  obtain rfl := Option.some.inj hF
  subst hQ
  exact W.iret hx hb hr (fun t ht hW => zq_ro (hS.F ht)) hS.2.2 (z_d hX7_elementOf_0 42 rfl)
def rm_X7_element : Room := { frames := 6, cells := 0, slots := 0, locals := 141 }
set_option maxRecDepth 100000 in
set_option maxHeartbeats 4000000 in
theorem c_X7_element (l : Launch) (Z : zZ) (Am : Nat → Nat) (M : t_Model) (p1 : Int32) (p2 : Int32) (R : Int32 × t_Model) (hF : X7_element M p1 p2 = some R) : zMU l yX7_element (zw yX7_element cX7_element 3 (some .int)) rm_X7_element Z [.ref (Am 0), .int p1, .int p2] (w_Model Z.2.1 Am M) (w_Model Z.2.1 Am R.2) (some (.int R.1)) := by
  refine zMU_of (by decide) (Nat.le_of_ble_eq_true rfl) (fun p e s m below meth c hx hb hr hml hown hts hlocks hK A hA Q hQ ls hl hP hD hS => ?_)
  unfold X7_element at hF
  have hl : lv_has ls 3 [(0, .ref (Am 0)), (1, .int p1), (2, .int p2)] := hl
  have hown : s.vm.findClass RX7 = some m.cls := hown
  have hP : va_P Z.1 vwCl (l_Model Z.2.1 Am M.1 M.2.1 M.2.2.1 M.2.2.2.1 M.2.2.2.2.1 M.2.2.2.2.2.1 M.2.2.2.2.2.2.1 M.2.2.2.2.2.2.2.1 M.2.2.2.2.2.2.2.2.1 M.2.2.2.2.2.2.2.2.2.1 M.2.2.2.2.2.2.2.2.2.2.1 M.2.2.2.2.2.2.2.2.2.2.2.1 M.2.2.2.2.2.2.2.2.2.2.2.2.1 M.2.2.2.2.2.2.2.2.2.2.2.2.2.1 M.2.2.2.2.2.2.2.2.2.2.2.2.2.2.1 M.2.2.2.2.2.2.2.2.2.2.2.2.2.2.2.1 M.2.2.2.2.2.2.2.2.2.2.2.2.2.2.2.2.1 M.2.2.2.2.2.2.2.2.2.2.2.2.2.2.2.2.2.1 M.2.2.2.2.2.2.2.2.2.2.2.2.2.2.2.2.2.2).flatten s.heap := hP
  have hD : va_D A (l_Model Z.2.1 Am M.1 M.2.1 M.2.2.1 M.2.2.2.1 M.2.2.2.2.1 M.2.2.2.2.2.1 M.2.2.2.2.2.2.1 M.2.2.2.2.2.2.2.1 M.2.2.2.2.2.2.2.2.1 M.2.2.2.2.2.2.2.2.2.1 M.2.2.2.2.2.2.2.2.2.2.1 M.2.2.2.2.2.2.2.2.2.2.2.1 M.2.2.2.2.2.2.2.2.2.2.2.2.1 M.2.2.2.2.2.2.2.2.2.2.2.2.2.1 M.2.2.2.2.2.2.2.2.2.2.2.2.2.2.1 M.2.2.2.2.2.2.2.2.2.2.2.2.2.2.2.1 M.2.2.2.2.2.2.2.2.2.2.2.2.2.2.2.2.1 M.2.2.2.2.2.2.2.2.2.2.2.2.2.2.2.2.2.1 M.2.2.2.2.2.2.2.2.2.2.2.2.2.2.2.2.2.2).flatten := hD
  refine lv_aload_n hx hb (z_d hX7_element_0 0 rfl) rfl (lv_at hl 0 rfl) ?_
  refine lv_iload_n hx hb (z_d hX7_element_0 1 rfl) rfl (lv_at hl 1 rfl) ?_
  refine z_bnd hF (fun q1 hq1 hF => ?_)
  refine z_ro_i (z_rV (As := [.int p1]) (rest := []) hx hb hml hown hts vt_X7_isElement (c_X7_isElement l Z Am M p1 _ hq1) rfl rfl ⟨Nat.le_of_ble_eq_true rfl, Nat.le_of_ble_eq_true rfl⟩ k_m_X7_149 zPro_blind (z_recv (q := (RX7, TX7, 19)) (ci := 7) (q0 := 0) hK (zP_reg hP 0 rfl) rfl rfl) (z_prec hK hP) rfl hl.1 (Nat.le_of_ble_eq_true rfl) (z_d hX7_element_0 2 rfl) ⟨Nat.zero_le _, Nat.zero_le _⟩) hS hP (fun H locs hP hS => ?_)
  refine lv_if_ne (tgt := 14) hx hb (z_d hX7_element_0 3 rfl) (by decide) (fun hc5 => ?_) (fun hc5 => ?_)
  · have hF := z_neg hc5 hF
    refine lv_aload_n hx hb (z_d hX7_element_0 8 rfl) rfl (lv_at hl 0 rfl) ?_
    refine lv_aload_n hx hb (z_d hX7_element_0 9 rfl) rfl (lv_at hl 0 rfl) ?_
    refine va_get (D := Z.1) (ci := 7) (v := .ref (Am 1)) (C := RX7) (T := TX7) (N := 19) hx hb hts zinX7 hown hK.1 (zP_reg hP 0 rfl) 0 rfl rfl 0 (by decide) (hts _ k_f_X7_7) (fun _ h9 => h9) rfl (z_d hX7_element_0 10 rfl) ?_
    refine lv_iconst (v := 0) hx hb (z_d hX7_element_0 11 rfl) (by decide) ?_
    refine z_ix hF (fun hin hF => ?_)
    refine va_iald (D := Z.1) (f := M.1) hx hb hK.1 (zP_reg hP 1 rfl) 0 0 rfl rfl hin (z_d hX7_element_0 12 rfl) ?_
    refine z_let hF (fun u2 hu2 hF => ?_)
    refine lv_topE hu2 ?_
    refine z_bnd hF (fun q3 hq3 hF => ?_)
    refine z_mu0 (z_rV (As := [.int u2]) (rest := []) hx hb hml hown hts vt_X7_setsAll (c_X7_setsAll l Z Am M u2 _ hq3) rfl rfl ⟨Nat.le_of_ble_eq_true rfl, Nat.le_of_ble_eq_true rfl⟩ k_m_X7_117 zPmu_blind (z_recv (q := (RX7, TX7, 19)) (ci := 7) (q0 := 0) hK (zP_reg hP 0 rfl) rfl rfl) (z_prem hK hP hD) rfl hl.1 (Nat.le_of_ble_eq_true rfl) (z_d hX7_element_0 13 rfl) ⟨Nat.zero_le _, Nat.zero_le _⟩) hS hD (adr_Model _ _ _ _) (fun H locs hP hD hS => ?_)
    have hP : va_P Z.1 vwCl (l_Model Z.2.1 Am q3.1 q3.2.1 q3.2.2.1 q3.2.2.2.1 q3.2.2.2.2.1 q3.2.2.2.2.2.1 q3.2.2.2.2.2.2.1 q3.2.2.2.2.2.2.2.1 q3.2.2.2.2.2.2.2.2.1 q3.2.2.2.2.2.2.2.2.2.1 q3.2.2.2.2.2.2.2.2.2.2.1 q3.2.2.2.2.2.2.2.2.2.2.2.1 q3.2.2.2.2.2.2.2.2.2.2.2.2.1 q3.2.2.2.2.2.2.2.2.2.2.2.2.2.1 q3.2.2.2.2.2.2.2.2.2.2.2.2.2.2.1 q3.2.2.2.2.2.2.2.2.2.2.2.2.2.2.2.1 q3.2.2.2.2.2.2.2.2.2.2.2.2.2.2.2.2.1 q3.2.2.2.2.2.2.2.2.2.2.2.2.2.2.2.2.2.1 q3.2.2.2.2.2.2.2.2.2.2.2.2.2.2.2.2.2.2).flatten H := hP
    have hD : va_D A (l_Model Z.2.1 Am q3.1 q3.2.1 q3.2.2.1 q3.2.2.2.1 q3.2.2.2.2.1 q3.2.2.2.2.2.1 q3.2.2.2.2.2.2.1 q3.2.2.2.2.2.2.2.1 q3.2.2.2.2.2.2.2.2.1 q3.2.2.2.2.2.2.2.2.2.1 q3.2.2.2.2.2.2.2.2.2.2.1 q3.2.2.2.2.2.2.2.2.2.2.2.1 q3.2.2.2.2.2.2.2.2.2.2.2.2.1 q3.2.2.2.2.2.2.2.2.2.2.2.2.2.1 q3.2.2.2.2.2.2.2.2.2.2.2.2.2.2.1 q3.2.2.2.2.2.2.2.2.2.2.2.2.2.2.2.1 q3.2.2.2.2.2.2.2.2.2.2.2.2.2.2.2.2.1 q3.2.2.2.2.2.2.2.2.2.2.2.2.2.2.2.2.2.1 q3.2.2.2.2.2.2.2.2.2.2.2.2.2.2.2.2.2.2).flatten := hD
    refine W.eq (g2 := F0 m 24 ls []) rfl ?_
    refine lv_iload_n hx hb (z_d hX7_element_0 14 rfl) rfl (lv_at hl 2 rfl) ?_
    refine lv_iconst (v := 0) hx hb (z_d hX7_element_0 15 rfl) (by decide) ?_
    refine lv_bipush (v := 9) hx hb (z_d hX7_element_0 16 rfl) (by decide) ?_
    refine z_let hF (fun q4 hq4 hF => ?_)
    refine z_ro_i (z_rS (As := [.int p2, .int 0, .int 9]) (rest := []) hx hb hml hown hts vs_X7_in (c_X7_in l Z p2 0 9 _ hq4) rfl rfl ⟨Nat.le_of_ble_eq_true rfl, Nat.le_of_ble_eq_true rfl⟩ k_m_X7_58 zPro_blind (z_prec hK zP_nil) rfl hl.1 (Nat.le_of_ble_eq_true rfl) (z_d hX7_element_0 17 rfl) ⟨Nat.zero_le _, Nat.zero_le _⟩) hS hP (fun H locs hP hS => ?_)
    refine lv_if_eq (tgt := 47) hx hb (z_d hX7_element_0 18 rfl) (by decide) (fun hc31 => ?_) (fun hc31 => ?_)
    · have hF := z_pos hc31 hF
      refine lv_aload_n hx hb (z_d hX7_element_0 26 rfl) rfl (lv_at hl 0 rfl) ?_
      refine lv_iconst (v := 2) hx hb (z_d hX7_element_0 27 rfl) (by decide) ?_
      refine z_let hF (fun q5 hq5 hF => ?_)
      refine z_mu0 (z_rV (As := [.int 2]) (rest := []) hx hb hml hown hts vt_X7_fails (c_X7_fails l Z Am q3 2 _ hq5) rfl rfl ⟨Nat.le_of_ble_eq_true rfl, Nat.le_of_ble_eq_true rfl⟩ k_m_X7_129 zPmu_blind (z_recv (q := (RX7, TX7, 19)) (ci := 7) (q0 := 0) hK (zP_reg hP 0 rfl) rfl rfl) (z_prem hK hP hD) rfl hl.1 (Nat.le_of_ble_eq_true rfl) (z_d hX7_element_0 28 rfl) ⟨Nat.zero_le _, Nat.zero_le _⟩) hS hD (adr_Model _ _ _ _) (fun H locs hP hD hS => ?_)
      have hP : va_P Z.1 vwCl (l_Model Z.2.1 Am q5.2.1 q5.2.2.1 q5.2.2.2.1 q5.2.2.2.2.1 q5.2.2.2.2.2.1 q5.2.2.2.2.2.2.1 q5.2.2.2.2.2.2.2.1 q5.2.2.2.2.2.2.2.2.1 q5.2.2.2.2.2.2.2.2.2.1 q5.2.2.2.2.2.2.2.2.2.2.1 q5.2.2.2.2.2.2.2.2.2.2.2.1 q5.2.2.2.2.2.2.2.2.2.2.2.2.1 q5.2.2.2.2.2.2.2.2.2.2.2.2.2.1 q5.2.2.2.2.2.2.2.2.2.2.2.2.2.2.1 q5.2.2.2.2.2.2.2.2.2.2.2.2.2.2.2.1 q5.2.2.2.2.2.2.2.2.2.2.2.2.2.2.2.2.1 q5.2.2.2.2.2.2.2.2.2.2.2.2.2.2.2.2.2.1 q5.2.2.2.2.2.2.2.2.2.2.2.2.2.2.2.2.2.2.1 q5.2.2.2.2.2.2.2.2.2.2.2.2.2.2.2.2.2.2.2).flatten H := hP
      have hD : va_D A (l_Model Z.2.1 Am q5.2.1 q5.2.2.1 q5.2.2.2.1 q5.2.2.2.2.1 q5.2.2.2.2.2.1 q5.2.2.2.2.2.2.1 q5.2.2.2.2.2.2.2.1 q5.2.2.2.2.2.2.2.2.1 q5.2.2.2.2.2.2.2.2.2.1 q5.2.2.2.2.2.2.2.2.2.2.1 q5.2.2.2.2.2.2.2.2.2.2.2.1 q5.2.2.2.2.2.2.2.2.2.2.2.2.1 q5.2.2.2.2.2.2.2.2.2.2.2.2.2.1 q5.2.2.2.2.2.2.2.2.2.2.2.2.2.2.1 q5.2.2.2.2.2.2.2.2.2.2.2.2.2.2.2.1 q5.2.2.2.2.2.2.2.2.2.2.2.2.2.2.2.2.1 q5.2.2.2.2.2.2.2.2.2.2.2.2.2.2.2.2.2.1 q5.2.2.2.2.2.2.2.2.2.2.2.2.2.2.2.2.2.2.1 q5.2.2.2.2.2.2.2.2.2.2.2.2.2.2.2.2.2.2.2).flatten := hD
      refine W.eq (g2 := F0 m 52 ls [.int q5.1]) rfl ?_
      obtain rfl := Option.some.inj hF
      subst hQ
      subst hA
      exact W.iret hx hb hr (fun t ht hW => zq_mu (by rw [ht]; exact hP) (hS.F ht)) hS.2.2 (z_d hX7_element_0 29 rfl)
    · have hF := z_neg hc31 hF
      refine lv_aload_n hx hb (z_d hX7_element_0 19 rfl) rfl (lv_at hl 0 rfl) ?_
      refine lv_aload_n hx hb (z_d hX7_element_0 20 rfl) rfl (lv_at hl 0 rfl) ?_
      refine lv_iload_n hx hb (z_d hX7_element_0 21 rfl) rfl (lv_at hl 1 rfl) ?_
      refine lv_iload_n hx hb (z_d hX7_element_0 22 rfl) rfl (lv_at hl 2 rfl) ?_
      refine z_bnd hF (fun q6 hq6 hF => ?_)
      refine z_ro_i (z_rV (As := [.int p1, .int p2]) (rest := [.ref (Am 0)]) hx hb hml hown hts vt_X7_elementOf (c_X7_elementOf l Z Am q3 p1 p2 _ hq6) rfl rfl ⟨Nat.le_of_ble_eq_true rfl, Nat.le_of_ble_eq_true rfl⟩ k_m_X7_177 zPro_blind (z_recv (q := (RX7, TX7, 19)) (ci := 7) (q0 := 0) hK (zP_reg hP 0 rfl) rfl rfl) (z_prec hK hP) rfl hl.1 (Nat.le_of_ble_eq_true rfl) (z_d hX7_element_0 23 rfl) ⟨Nat.zero_le _, Nat.zero_le _⟩) hS hP (fun H locs hP hS => ?_)
      refine z_let hF (fun q7 hq7 hF => ?_)
      refine z_mu0 (z_rV (As := [.int q6]) (rest := []) hx hb hml hown hts vt_X7_tells (c_X7_tells l Z Am q3 q6 _ hq7) rfl rfl ⟨Nat.le_of_ble_eq_true rfl, Nat.le_of_ble_eq_true rfl⟩ k_m_X7_54 zPmu_blind (z_recv (q := (RX7, TX7, 19)) (ci := 7) (q0 := 0) hK (zP_reg hP 0 rfl) rfl rfl) (z_prem hK hP hD) rfl hl.1 (Nat.le_of_ble_eq_true rfl) (z_d hX7_element_0 24 rfl) ⟨Nat.zero_le _, Nat.zero_le _⟩) hS hD (adr_Model _ _ _ _) (fun H locs hP hD hS => ?_)
      have hP : va_P Z.1 vwCl (l_Model Z.2.1 Am q7.2.1 q7.2.2.1 q7.2.2.2.1 q7.2.2.2.2.1 q7.2.2.2.2.2.1 q7.2.2.2.2.2.2.1 q7.2.2.2.2.2.2.2.1 q7.2.2.2.2.2.2.2.2.1 q7.2.2.2.2.2.2.2.2.2.1 q7.2.2.2.2.2.2.2.2.2.2.1 q7.2.2.2.2.2.2.2.2.2.2.2.1 q7.2.2.2.2.2.2.2.2.2.2.2.2.1 q7.2.2.2.2.2.2.2.2.2.2.2.2.2.1 q7.2.2.2.2.2.2.2.2.2.2.2.2.2.2.1 q7.2.2.2.2.2.2.2.2.2.2.2.2.2.2.2.1 q7.2.2.2.2.2.2.2.2.2.2.2.2.2.2.2.2.1 q7.2.2.2.2.2.2.2.2.2.2.2.2.2.2.2.2.2.1 q7.2.2.2.2.2.2.2.2.2.2.2.2.2.2.2.2.2.2.1 q7.2.2.2.2.2.2.2.2.2.2.2.2.2.2.2.2.2.2.2).flatten H := hP
      have hD : va_D A (l_Model Z.2.1 Am q7.2.1 q7.2.2.1 q7.2.2.2.1 q7.2.2.2.2.1 q7.2.2.2.2.2.1 q7.2.2.2.2.2.2.1 q7.2.2.2.2.2.2.2.1 q7.2.2.2.2.2.2.2.2.1 q7.2.2.2.2.2.2.2.2.2.1 q7.2.2.2.2.2.2.2.2.2.2.1 q7.2.2.2.2.2.2.2.2.2.2.2.1 q7.2.2.2.2.2.2.2.2.2.2.2.2.1 q7.2.2.2.2.2.2.2.2.2.2.2.2.2.1 q7.2.2.2.2.2.2.2.2.2.2.2.2.2.2.1 q7.2.2.2.2.2.2.2.2.2.2.2.2.2.2.2.1 q7.2.2.2.2.2.2.2.2.2.2.2.2.2.2.2.2.1 q7.2.2.2.2.2.2.2.2.2.2.2.2.2.2.2.2.2.1 q7.2.2.2.2.2.2.2.2.2.2.2.2.2.2.2.2.2.2.1 q7.2.2.2.2.2.2.2.2.2.2.2.2.2.2.2.2.2.2.2).flatten := hD
      refine W.eq (g2 := F0 m 44 ls [.int q7.1]) rfl ?_
      refine lv_goto (tgt := 52) hx hb (z_d hX7_element_0 25 rfl) (by decide) ?_
      obtain rfl := Option.some.inj hF
      subst hQ
      subst hA
      exact W.iret hx hb hr (fun t ht hW => zq_mu (by rw [ht]; exact hP) (hS.F ht)) hS.2.2 (z_d hX7_element_0 29 rfl)
  · have hF := z_pos hc5 hF
    refine lv_aload_n hx hb (z_d hX7_element_0 4 rfl) rfl (lv_at hl 0 rfl) ?_
    refine lv_iconst (v := 1) hx hb (z_d hX7_element_0 5 rfl) (by decide) ?_
    refine z_let hF (fun q8 hq8 hF => ?_)
    refine z_mu0 (z_rV (As := [.int 1]) (rest := []) hx hb hml hown hts vt_X7_fails (c_X7_fails l Z Am M 1 _ hq8) rfl rfl ⟨Nat.le_of_ble_eq_true rfl, Nat.le_of_ble_eq_true rfl⟩ k_m_X7_129 zPmu_blind (z_recv (q := (RX7, TX7, 19)) (ci := 7) (q0 := 0) hK (zP_reg hP 0 rfl) rfl rfl) (z_prem hK hP hD) rfl hl.1 (Nat.le_of_ble_eq_true rfl) (z_d hX7_element_0 6 rfl) ⟨Nat.zero_le _, Nat.zero_le _⟩) hS hD (adr_Model _ _ _ _) (fun H locs hP hD hS => ?_)
    have hP : va_P Z.1 vwCl (l_Model Z.2.1 Am q8.2.1 q8.2.2.1 q8.2.2.2.1 q8.2.2.2.2.1 q8.2.2.2.2.2.1 q8.2.2.2.2.2.2.1 q8.2.2.2.2.2.2.2.1 q8.2.2.2.2.2.2.2.2.1 q8.2.2.2.2.2.2.2.2.2.1 q8.2.2.2.2.2.2.2.2.2.2.1 q8.2.2.2.2.2.2.2.2.2.2.2.1 q8.2.2.2.2.2.2.2.2.2.2.2.2.1 q8.2.2.2.2.2.2.2.2.2.2.2.2.2.1 q8.2.2.2.2.2.2.2.2.2.2.2.2.2.2.1 q8.2.2.2.2.2.2.2.2.2.2.2.2.2.2.2.1 q8.2.2.2.2.2.2.2.2.2.2.2.2.2.2.2.2.1 q8.2.2.2.2.2.2.2.2.2.2.2.2.2.2.2.2.2.1 q8.2.2.2.2.2.2.2.2.2.2.2.2.2.2.2.2.2.2.1 q8.2.2.2.2.2.2.2.2.2.2.2.2.2.2.2.2.2.2.2).flatten H := hP
    have hD : va_D A (l_Model Z.2.1 Am q8.2.1 q8.2.2.1 q8.2.2.2.1 q8.2.2.2.2.1 q8.2.2.2.2.2.1 q8.2.2.2.2.2.2.1 q8.2.2.2.2.2.2.2.1 q8.2.2.2.2.2.2.2.2.1 q8.2.2.2.2.2.2.2.2.2.1 q8.2.2.2.2.2.2.2.2.2.2.1 q8.2.2.2.2.2.2.2.2.2.2.2.1 q8.2.2.2.2.2.2.2.2.2.2.2.2.1 q8.2.2.2.2.2.2.2.2.2.2.2.2.2.1 q8.2.2.2.2.2.2.2.2.2.2.2.2.2.2.1 q8.2.2.2.2.2.2.2.2.2.2.2.2.2.2.2.1 q8.2.2.2.2.2.2.2.2.2.2.2.2.2.2.2.2.1 q8.2.2.2.2.2.2.2.2.2.2.2.2.2.2.2.2.2.1 q8.2.2.2.2.2.2.2.2.2.2.2.2.2.2.2.2.2.2.1 q8.2.2.2.2.2.2.2.2.2.2.2.2.2.2.2.2.2.2.2).flatten := hD
    refine W.eq (g2 := F0 m 13 ls [.int q8.1]) rfl ?_
    obtain rfl := Option.some.inj hF
    subst hQ
    subst hA
    exact W.iret hx hb hr (fun t ht hW => zq_mu (by rw [ht]; exact hP) (hS.F ht)) hS.2.2 (z_d hX7_element_0 7 rfl)
def rm_X7_sceneTold : Room := { frames := 4, cells := 0, slots := 0, locals := 94 }
set_option maxRecDepth 100000 in
set_option maxHeartbeats 4000000 in
theorem c_X7_sceneTold (l : Launch) (Z : zZ) (Am : Nat → Nat) (M : t_Model) (p1 : Int32) (p2 : Int32) (R : Int32) (hF : X7_sceneTold M p1 p2 = some R) : zRO l yX7_sceneTold (zw yX7_sceneTold cX7_sceneTold 7 (some .int)) rm_X7_sceneTold Z [.ref (Am 0), .int p1, .int p2] (w_Model Z.2.1 Am M) (some (.int R)) := by
  refine zRO_of (by decide) (Nat.le_of_ble_eq_true rfl) (fun p e s m below meth c hx hb hr hml hown hts hlocks hK Q hQ ls hl hP hS => ?_)
  unfold X7_sceneTold at hF
  have hl : lv_has ls 7 [(0, .ref (Am 0)), (1, .int p1), (2, .int p2)] := hl
  have hown : s.vm.findClass RX7 = some m.cls := hown
  have hP : va_P Z.1 vwCl (l_Model Z.2.1 Am M.1 M.2.1 M.2.2.1 M.2.2.2.1 M.2.2.2.2.1 M.2.2.2.2.2.1 M.2.2.2.2.2.2.1 M.2.2.2.2.2.2.2.1 M.2.2.2.2.2.2.2.2.1 M.2.2.2.2.2.2.2.2.2.1 M.2.2.2.2.2.2.2.2.2.2.1 M.2.2.2.2.2.2.2.2.2.2.2.1 M.2.2.2.2.2.2.2.2.2.2.2.2.1 M.2.2.2.2.2.2.2.2.2.2.2.2.2.1 M.2.2.2.2.2.2.2.2.2.2.2.2.2.2.1 M.2.2.2.2.2.2.2.2.2.2.2.2.2.2.2.1 M.2.2.2.2.2.2.2.2.2.2.2.2.2.2.2.2.1 M.2.2.2.2.2.2.2.2.2.2.2.2.2.2.2.2.2.1 M.2.2.2.2.2.2.2.2.2.2.2.2.2.2.2.2.2.2).flatten s.heap := hP
  have L21 : ∀ (x3 : Int32) (x4 : Int32) (n : Nat) (v : Int32 × Int32) (X : Int32) (hF : zloop (b_X7_sceneTold_21 M p1 p2 x3 x4) n v = some X) (H : Heap) (locs : List Loc) (ls : Array Slot) (hP : va_P Z.1 vwCl (l_Model Z.2.1 Am M.1 M.2.1 M.2.2.1 M.2.2.2.1 M.2.2.2.2.1 M.2.2.2.2.2.1 M.2.2.2.2.2.2.1 M.2.2.2.2.2.2.2.1 M.2.2.2.2.2.2.2.2.1 M.2.2.2.2.2.2.2.2.2.1 M.2.2.2.2.2.2.2.2.2.2.1 M.2.2.2.2.2.2.2.2.2.2.2.1 M.2.2.2.2.2.2.2.2.2.2.2.2.1 M.2.2.2.2.2.2.2.2.2.2.2.2.2.1 M.2.2.2.2.2.2.2.2.2.2.2.2.2.2.1 M.2.2.2.2.2.2.2.2.2.2.2.2.2.2.2.1 M.2.2.2.2.2.2.2.2.2.2.2.2.2.2.2.2.1 M.2.2.2.2.2.2.2.2.2.2.2.2.2.2.2.2.2.1 M.2.2.2.2.2.2.2.2.2.2.2.2.2.2.2.2.2.2).flatten H) (hS : va_S (fun _ => False) s.heap H locs) (hl : lv_has ls 7 [(0, .ref (Am 0)), (1, .int p1), (2, .int p2), (3, .int x3), (4, .int x4), (5, .int v.1), (6, .int v.2)]) (K1 : ∀ (H : Heap) (locs : List Loc) (ls : Array Slot) (hP : va_P Z.1 vwCl (l_Model Z.2.1 Am M.1 M.2.1 M.2.2.1 M.2.2.2.1 M.2.2.2.2.1 M.2.2.2.2.2.1 M.2.2.2.2.2.2.1 M.2.2.2.2.2.2.2.1 M.2.2.2.2.2.2.2.2.1 M.2.2.2.2.2.2.2.2.2.1 M.2.2.2.2.2.2.2.2.2.2.1 M.2.2.2.2.2.2.2.2.2.2.2.1 M.2.2.2.2.2.2.2.2.2.2.2.2.1 M.2.2.2.2.2.2.2.2.2.2.2.2.2.1 M.2.2.2.2.2.2.2.2.2.2.2.2.2.2.1 M.2.2.2.2.2.2.2.2.2.2.2.2.2.2.2.1 M.2.2.2.2.2.2.2.2.2.2.2.2.2.2.2.2.1 M.2.2.2.2.2.2.2.2.2.2.2.2.2.2.2.2.2.1 M.2.2.2.2.2.2.2.2.2.2.2.2.2.2.2.2.2.2).flatten H) (hS : va_S (fun _ => False) s.heap H locs) (hl : lv_has ls 7 [(0, .ref (Am 0)), (1, .int p1), (2, .int p2), (3, .int x3), (4, .int x4), (5, .int X)]), W p l e rm_X7_sceneTold s m ([.ref (Am 0), .int p1, .int p2] : List Value).toArray below meth c H locs 0 0 Q (F0 m 45 ls [])), W p l e rm_X7_sceneTold s m ([.ref (Am 0), .int p1, .int p2] : List Value).toArray below meth c H locs 0 0 Q (F0 m 21 ls []) := by
    intro x3 x4
    refine z_loopE (fun rec ih v X hF H locs ls hP hS hl K1 => ?_)
    unfold b_X7_sceneTold_21 at hF
    refine lv_iload hx hb (z_d hX7_sceneTold_0 14 rfl) (lv_at hl 6 rfl) ?_
    refine lv_iload hx hb (z_d hX7_sceneTold_0 15 rfl) (lv_at hl 4 rfl) ?_
    refine lv_icmp_ge (tgt := 45) hx hb (z_d hX7_sceneTold_0 16 rfl) (by decide) (fun hc25 => ?_) (fun hc25 => ?_)
    · have hF := z_pos hc25 hF
      obtain rfl := Option.some.inj hF
      exact K1 _ _ ls hP hS (lv_sub hl [0, 1, 2, 3, 4, 5] rfl)
    · have hF := z_neg hc25 hF
      refine lv_iload hx hb (z_d hX7_sceneTold_0 17 rfl) (lv_at hl 5 rfl) ?_
      refine lv_aload_n hx hb (z_d hX7_sceneTold_0 18 rfl) rfl (lv_at hl 0 rfl) ?_
      refine lv_iload hx hb (z_d hX7_sceneTold_0 19 rfl) (lv_at hl 6 rfl) ?_
      refine z_bnd hF (fun q4 hq4 hF => ?_)
      refine z_ro_i (z_rV (As := [.int v.2]) (rest := [.int v.1]) hx hb hml hown hts vt_X7_lines (c_X7_lines l Z Am M v.2 _ hq4) rfl rfl ⟨Nat.le_of_ble_eq_true rfl, Nat.le_of_ble_eq_true rfl⟩ k_m_X7_69 zPro_blind (z_recv (q := (RX7, TX7, 19)) (ci := 7) (q0 := 0) hK (zP_reg hP 0 rfl) rfl rfl) (z_prec hK hP) rfl hl.1 (Nat.le_of_ble_eq_true rfl) (z_d hX7_sceneTold_0 20 rfl) ⟨Nat.zero_le _, Nat.zero_le _⟩) hS hP (fun H locs hP hS => ?_)
      refine lv_iadd hx hb (z_d hX7_sceneTold_0 21 rfl) ?_
      refine z_let hF (fun u5 hu5 hF => ?_)
      refine lv_topE hu5 ?_
      refine lv_istore (lv' := [(5, .int u5), (0, .ref (Am 0)), (1, .int p1), (2, .int p2), (3, .int x3), (4, .int x4), (6, .int v.2)]) hx hb (z_d hX7_sceneTold_0 22 rfl) hl (by decide) rfl (fun ls hl => ?_)
      refine z_let hF (fun u6 hu6 hF => ?_)
      refine lv_iinc (v := u6) (lv' := [(6, .int u6), (5, .int u5), (0, .ref (Am 0)), (1, .int p1), (2, .int p2), (3, .int x3), (4, .int x4)]) hx hb (z_d hX7_sceneTold_0 23 rfl) hl (k := 6) rfl (z_inc1 hu6) (by decide) rfl (fun ls hl => ?_)
      refine lv_goto (tgt := 21) hx hb (z_d hX7_sceneTold_0 24 rfl) (by decide) ?_
      exact ih _ _ hF _ _ ls hP hS (lv_sub hl [2, 3, 4, 5, 6, 1, 0] rfl) K1
  refine lv_aload_n hx hb (z_d hX7_sceneTold_0 0 rfl) rfl (lv_at hl 0 rfl) ?_
  refine lv_iload_n hx hb (z_d hX7_sceneTold_0 1 rfl) rfl (lv_at hl 1 rfl) ?_
  refine z_bnd hF (fun q1 hq1 hF => ?_)
  refine z_ro_i (z_rV (As := [.int p1]) (rest := []) hx hb hml hown hts vt_X7_headingOf (c_X7_headingOf l Z Am M p1 _ hq1) rfl rfl ⟨Nat.le_of_ble_eq_true rfl, Nat.le_of_ble_eq_true rfl⟩ k_m_X7_161 zPro_blind (z_recv (q := (RX7, TX7, 19)) (ci := 7) (q0 := 0) hK (zP_reg hP 0 rfl) rfl rfl) (z_prec hK hP) rfl hl.1 (Nat.le_of_ble_eq_true rfl) (z_d hX7_sceneTold_0 2 rfl) ⟨Nat.zero_le _, Nat.zero_le _⟩) hS hP (fun H locs hP hS => ?_)
  refine lv_istore_n (lv' := [(3, .int q1), (0, .ref (Am 0)), (1, .int p1), (2, .int p2)]) hx hb (z_d hX7_sceneTold_0 3 rfl) rfl hl (by decide) rfl (fun ls hl => ?_)
  refine lv_aload_n hx hb (z_d hX7_sceneTold_0 4 rfl) rfl (lv_at hl 1 rfl) ?_
  refine lv_iload_n hx hb (z_d hX7_sceneTold_0 5 rfl) rfl (lv_at hl 2 rfl) ?_
  refine lv_iconst (v := 1) hx hb (z_d hX7_sceneTold_0 6 rfl) (by decide) ?_
  refine lv_iadd hx hb (z_d hX7_sceneTold_0 7 rfl) ?_
  refine z_let hF (fun u2 hu2 hF => ?_)
  refine lv_topE hu2 ?_
  refine z_bnd hF (fun q3 hq3 hF => ?_)
  refine z_ro_i (z_rV (As := [.int u2]) (rest := []) hx hb hml hown hts vt_X7_headingOf (c_X7_headingOf l Z Am M u2 _ hq3) rfl rfl ⟨Nat.le_of_ble_eq_true rfl, Nat.le_of_ble_eq_true rfl⟩ k_m_X7_161 zPro_blind (z_recv (q := (RX7, TX7, 19)) (ci := 7) (q0 := 0) hK (zP_reg hP 0 rfl) rfl rfl) (z_prec hK hP) rfl hl.1 (Nat.le_of_ble_eq_true rfl) (z_d hX7_sceneTold_0 8 rfl) ⟨Nat.zero_le _, Nat.zero_le _⟩) hS hP (fun H locs hP hS => ?_)
  refine lv_istore (lv' := [(4, .int q3), (3, .int q1), (0, .ref (Am 0)), (1, .int p1), (2, .int p2)]) hx hb (z_d hX7_sceneTold_0 9 rfl) hl (by decide) rfl (fun ls hl => ?_)
  refine lv_iconst (v := 0) hx hb (z_d hX7_sceneTold_0 10 rfl) (by decide) ?_
  refine lv_istore (lv' := [(5, .int 0), (4, .int q3), (3, .int q1), (0, .ref (Am 0)), (1, .int p1), (2, .int p2)]) hx hb (z_d hX7_sceneTold_0 11 rfl) hl (by decide) rfl (fun ls hl => ?_)
  refine lv_iload_n hx hb (z_d hX7_sceneTold_0 12 rfl) rfl (lv_at hl 2 rfl) ?_
  refine lv_istore (lv' := [(6, .int q1), (5, .int 0), (4, .int q3), (3, .int q1), (0, .ref (Am 0)), (1, .int p1), (2, .int p2)]) hx hb (z_d hX7_sceneTold_0 13 rfl) hl (by decide) rfl (fun ls hl => ?_)
  refine z_bnd hF (fun q7 hq7 hF => ?_)
  refine L21 q1 q3 _ _ _ hq7 _ _ ls hP hS (lv_sub hl [4, 5, 6, 3, 2, 1, 0] rfl) (fun H locs ls hP hS hl => ?_)
  refine lv_iload_n hx hb (z_d hX7_sceneTold_0 25 rfl) rfl (lv_at hl 2 rfl) ?_
  by_cases hs46_3 : p2 = 3
  · have hF := z_pos hs46_3 hF
    refine lv_tableIn (off := 42) (tgt := 88) hx hb (z_d hX7_sceneTold_0 26 rfl) (by rw [hs46_3]; decide) (by rw [hs46_3]; decide) (by rw [hs46_3]; first | done | rfl) (by decide) ?_
    refine lv_aload_n hx hb (z_d hX7_sceneTold_0 27 rfl) rfl (lv_at hl 0 rfl) ?_
    refine lv_iload_n hx hb (z_d hX7_sceneTold_0 28 rfl) rfl (lv_at hl 3 rfl) ?_
    refine lv_iconst (v := 4) hx hb (z_d hX7_sceneTold_0 29 rfl) (by decide) ?_
    refine z_bnd hF (fun q8 hq8 hF => ?_)
    refine z_ro_i (z_rV (As := [.int q1, .int 4]) (rest := []) hx hb hml hown hts vt_X7_of (c_X7_of l Z Am M q1 4 _ hq8) rfl rfl ⟨Nat.le_of_ble_eq_true rfl, Nat.le_of_ble_eq_true rfl⟩ k_m_X7_62 zPro_blind (z_recv (q := (RX7, TX7, 19)) (ci := 7) (q0 := 0) hK (zP_reg hP 0 rfl) rfl rfl) (z_prec hK hP) rfl hl.1 (Nat.le_of_ble_eq_true rfl) (z_d hX7_sceneTold_0 30 rfl) ⟨Nat.zero_le _, Nat.zero_le _⟩) hS hP (fun H locs hP hS => ?_)
    obtain rfl := Option.some.inj hF
    subst hQ
    exact W.iret hx hb hr (fun t ht hW => zq_ro (hS.F ht)) hS.2.2 (z_d hX7_sceneTold_0 31 rfl)
  have hF := z_neg hs46_3 hF
  by_cases hs46_4 : p2 = 4
  · have hF := z_pos hs46_4 hF
    refine lv_tableIn (off := 49) (tgt := 95) hx hb (z_d hX7_sceneTold_0 26 rfl) (by rw [hs46_4]; decide) (by rw [hs46_4]; decide) (by rw [hs46_4]; first | done | rfl) (by decide) ?_
    refine lv_aload_n hx hb (z_d hX7_sceneTold_0 32 rfl) rfl (lv_at hl 0 rfl) ?_
    refine lv_iload_n hx hb (z_d hX7_sceneTold_0 33 rfl) rfl (lv_at hl 3 rfl) ?_
    refine lv_iconst (v := 3) hx hb (z_d hX7_sceneTold_0 34 rfl) (by decide) ?_
    refine z_bnd hF (fun q9 hq9 hF => ?_)
    refine z_ro_i (z_rV (As := [.int q1, .int 3]) (rest := []) hx hb hml hown hts vt_X7_of (c_X7_of l Z Am M q1 3 _ hq9) rfl rfl ⟨Nat.le_of_ble_eq_true rfl, Nat.le_of_ble_eq_true rfl⟩ k_m_X7_62 zPro_blind (z_recv (q := (RX7, TX7, 19)) (ci := 7) (q0 := 0) hK (zP_reg hP 0 rfl) rfl rfl) (z_prec hK hP) rfl hl.1 (Nat.le_of_ble_eq_true rfl) (z_d hX7_sceneTold_0 35 rfl) ⟨Nat.zero_le _, Nat.zero_le _⟩) hS hP (fun H locs hP hS => ?_)
    obtain rfl := Option.some.inj hF
    subst hQ
    exact W.iret hx hb hr (fun t ht hW => zq_ro (hS.F ht)) hS.2.2 (z_d hX7_sceneTold_0 36 rfl)
  have hF := z_neg hs46_4 hF
  by_cases hs46_5 : p2 = 5
  · have hF := z_pos hs46_5 hF
    refine lv_tableIn (off := 56) (tgt := 102) hx hb (z_d hX7_sceneTold_0 26 rfl) (by rw [hs46_5]; decide) (by rw [hs46_5]; decide) (by rw [hs46_5]; first | done | rfl) (by decide) ?_
    refine lv_iload_n hx hb (z_d hX7_sceneTold_0 37 rfl) rfl (lv_at hl 3 rfl) ?_
    obtain rfl := Option.some.inj hF
    subst hQ
    exact W.iret hx hb hr (fun t ht hW => zq_ro (hS.F ht)) hS.2.2 (z_d hX7_sceneTold_0 38 rfl)
  have hF := z_neg hs46_5 hF
  by_cases hs46_6 : p2 = 6
  · have hF := z_pos hs46_6 hF
    refine lv_tableIn (off := 58) (tgt := 104) hx hb (z_d hX7_sceneTold_0 26 rfl) (by rw [hs46_6]; decide) (by rw [hs46_6]; decide) (by rw [hs46_6]; first | done | rfl) (by decide) ?_
    refine lv_iload hx hb (z_d hX7_sceneTold_0 39 rfl) (lv_at hl 4 rfl) ?_
    refine lv_iload_n hx hb (z_d hX7_sceneTold_0 40 rfl) rfl (lv_at hl 3 rfl) ?_
    refine lv_isub hx hb (z_d hX7_sceneTold_0 41 rfl) ?_
    refine z_let hF (fun u10 hu10 hF => ?_)
    refine lv_topE hu10 ?_
    obtain rfl := Option.some.inj hF
    subst hQ
    exact W.iret hx hb hr (fun t ht hW => zq_ro (hS.F ht)) hS.2.2 (z_d hX7_sceneTold_0 42 rfl)
  have hF := z_neg hs46_6 hF
  by_cases hs46_7 : p2 = 7
  · have hF := z_pos hs46_7 hF
    refine lv_tableIn (off := 63) (tgt := 109) hx hb (z_d hX7_sceneTold_0 26 rfl) (by rw [hs46_7]; decide) (by rw [hs46_7]; decide) (by rw [hs46_7]; first | done | rfl) (by decide) ?_
    refine lv_iload hx hb (z_d hX7_sceneTold_0 43 rfl) (lv_at hl 5 rfl) ?_
    obtain rfl := Option.some.inj hF
    subst hQ
    exact W.iret hx hb hr (fun t ht hW => zq_ro (hS.F ht)) hS.2.2 (z_d hX7_sceneTold_0 44 rfl)
  have hF := z_neg hs46_7 hF
  by_cases hs46_8 : p2 = 8
  · have hF := z_pos hs46_8 hF
    refine lv_tableIn (off := 66) (tgt := 112) hx hb (z_d hX7_sceneTold_0 26 rfl) (by rw [hs46_8]; decide) (by rw [hs46_8]; decide) (by rw [hs46_8]; first | done | rfl) (by decide) ?_
    refine lv_iload hx hb (z_d hX7_sceneTold_0 45 rfl) (lv_at hl 5 rfl) ?_
    refine lv_bipush (v := 8) hx hb (z_d hX7_sceneTold_0 46 rfl) (by decide) ?_
    refine lv_imul hx hb (z_d hX7_sceneTold_0 47 rfl) ?_
    refine z_let hF (fun u11 hu11 hF => ?_)
    refine lv_topE hu11 ?_
    refine lv_aload_n hx hb (z_d hX7_sceneTold_0 48 rfl) rfl (lv_at hl 0 rfl) ?_
    refine va_get (D := Z.1) (ci := 7) (v := .ref (Am 1)) (C := RX7) (T := TX7) (N := 19) hx hb hts zinX7 hown hK.1 (zP_reg hP 0 rfl) 0 rfl rfl 0 (by decide) (hts _ k_f_X7_7) (fun _ h9 => h9) rfl (z_d hX7_sceneTold_0 49 rfl) ?_
    refine lv_iconst (v := 0) hx hb (z_d hX7_sceneTold_0 50 rfl) (by decide) ?_
    refine z_ix hF (fun hin hF => ?_)
    refine va_iald (D := Z.1) (f := M.1) hx hb hK.1 (zP_reg hP 1 rfl) 0 0 rfl rfl hin (z_d hX7_sceneTold_0 51 rfl) ?_
    refine z_let hF (fun u12 hu12 hF => ?_)
    refine lv_topE hu12 ?_
    refine lv_iadd hx hb (z_d hX7_sceneTold_0 52 rfl) ?_
    refine z_let hF (fun u13 hu13 hF => ?_)
    refine lv_topE hu13 ?_
    refine lv_iconst (v := 1) hx hb (z_d hX7_sceneTold_0 53 rfl) (by decide) ?_
    refine lv_isub hx hb (z_d hX7_sceneTold_0 54 rfl) ?_
    refine z_let hF (fun u14 hu14 hF => ?_)
    refine lv_topE hu14 ?_
    refine lv_aload_n hx hb (z_d hX7_sceneTold_0 55 rfl) rfl (lv_at hl 0 rfl) ?_
    refine va_get (D := Z.1) (ci := 7) (v := .ref (Am 1)) (C := RX7) (T := TX7) (N := 19) hx hb hts zinX7 hown hK.1 (zP_reg hP 0 rfl) 0 rfl rfl 0 (by decide) (hts _ k_f_X7_7) (fun _ h9 => h9) rfl (z_d hX7_sceneTold_0 56 rfl) ?_
    refine lv_iconst (v := 0) hx hb (z_d hX7_sceneTold_0 57 rfl) (by decide) ?_
    refine z_ix hF (fun hin hF => ?_)
    refine va_iald (D := Z.1) (f := M.1) hx hb hK.1 (zP_reg hP 1 rfl) 0 0 rfl rfl hin (z_d hX7_sceneTold_0 58 rfl) ?_
    refine z_let hF (fun u15 hu15 hF => ?_)
    refine lv_topE hu15 ?_
    refine z_dv hF (fun hne hF => ?_)
    refine lv_idiv hx hb (z_d hX7_sceneTold_0 59 rfl) hne ?_
    refine z_let hF (fun u16 hu16 hF => ?_)
    refine lv_topE hu16 ?_
    obtain rfl := Option.some.inj hF
    subst hQ
    exact W.iret hx hb hr (fun t ht hW => zq_ro (hS.F ht)) hS.2.2 (z_d hX7_sceneTold_1 0 rfl)
  have hF := z_neg hs46_8 hF
  by_cases hs46_9 : p2 = 9
  · have hF := z_pos hs46_9 hF
    refine lv_tableIn (off := 88) (tgt := 134) hx hb (z_d hX7_sceneTold_0 26 rfl) (by rw [hs46_9]; decide) (by rw [hs46_9]; decide) (by rw [hs46_9]; first | done | rfl) (by decide) ?_
    refine lv_aload_n hx hb (z_d hX7_sceneTold_1 1 rfl) rfl (lv_at hl 0 rfl) ?_
    refine va_get (D := Z.1) (ci := 7) (v := .ref (Am 5)) (C := RX7) (T := TX7) (N := 19) hx hb hts zinX7 hown hK.1 (zP_reg hP 0 rfl) 0 rfl rfl 9 (by decide) (hts _ k_f_X7_22) (fun _ h9 => h9) rfl (z_d hX7_sceneTold_1 2 rfl) ?_
    refine lv_iload_n hx hb (z_d hX7_sceneTold_1 3 rfl) rfl (lv_at hl 3 rfl) ?_
    refine z_ix hF (fun hin hF => ?_)
    refine va_iald (D := Z.1) (f := M.2.2.2.2.2.2.2.2.2.1) hx hb hK.1 (zP_reg hP 5 rfl) 0 0 rfl rfl hin (z_d hX7_sceneTold_1 4 rfl) ?_
    refine z_let hF (fun u17 hu17 hF => ?_)
    refine lv_topE hu17 ?_
    obtain rfl := Option.some.inj hF
    subst hQ
    exact W.iret hx hb hr (fun t ht hW => zq_ro (hS.F ht)) hS.2.2 (z_d hX7_sceneTold_1 5 rfl)
  have hF := z_neg hs46_9 hF
  have n3 := lv_neT (a := 3) hs46_3 (by decide)
  have n4 := lv_neT (a := 4) hs46_4 (by decide)
  have n5 := lv_neT (a := 5) hs46_5 (by decide)
  have n6 := lv_neT (a := 6) hs46_6 (by decide)
  have n7 := lv_neT (a := 7) hs46_7 (by decide)
  have n8 := lv_neT (a := 8) hs46_8 (by decide)
  have n9 := lv_neT (a := 9) hs46_9 (by decide)
  refine lv_tableOut (tgt := 141) hx hb (z_d hX7_sceneTold_0 26 rfl) (by omega) (by decide) ?_
  refine lv_aload_n hx hb (z_d hX7_sceneTold_1 6 rfl) rfl (lv_at hl 0 rfl) ?_
  refine lv_iload_n hx hb (z_d hX7_sceneTold_1 7 rfl) rfl (lv_at hl 3 rfl) ?_
  refine lv_iload_n hx hb (z_d hX7_sceneTold_1 8 rfl) rfl (lv_at hl 2 rfl) ?_
  refine z_bnd hF (fun q18 hq18 hF => ?_)
  refine z_ro_i (z_rV (As := [.int q1, .int p2]) (rest := []) hx hb hml hown hts vt_X7_label (c_X7_label l Z Am M q1 p2 _ hq18) rfl rfl ⟨Nat.le_of_ble_eq_true rfl, Nat.le_of_ble_eq_true rfl⟩ k_m_X7_91 zPro_blind (z_recv (q := (RX7, TX7, 19)) (ci := 7) (q0 := 0) hK (zP_reg hP 0 rfl) rfl rfl) (z_prec hK hP) rfl hl.1 (Nat.le_of_ble_eq_true rfl) (z_d hX7_sceneTold_1 9 rfl) ⟨Nat.zero_le _, Nat.zero_le _⟩) hS hP (fun H locs hP hS => ?_)
  obtain rfl := Option.some.inj hF
  subst hQ
  exact W.iret hx hb hr (fun t ht hW => zq_ro (hS.F ht)) hS.2.2 (z_d hX7_sceneTold_1 10 rfl)
def rm_X7_scene : Room := { frames := 6, cells := 0, slots := 0, locals := 141 }
set_option maxRecDepth 100000 in
set_option maxHeartbeats 4000000 in
theorem c_X7_scene (l : Launch) (Z : zZ) (Am : Nat → Nat) (M : t_Model) (p1 : Int32) (p2 : Int32) (R : Int32 × t_Model) (hF : X7_scene M p1 p2 = some R) : zMU l yX7_scene (zw yX7_scene cX7_scene 3 (some .int)) rm_X7_scene Z [.ref (Am 0), .int p1, .int p2] (w_Model Z.2.1 Am M) (w_Model Z.2.1 Am R.2) (some (.int R.1)) := by
  refine zMU_of (by decide) (Nat.le_of_ble_eq_true rfl) (fun p e s m below meth c hx hb hr hml hown hts hlocks hK A hA Q hQ ls hl hP hD hS => ?_)
  unfold X7_scene at hF
  have hl : lv_has ls 3 [(0, .ref (Am 0)), (1, .int p1), (2, .int p2)] := hl
  have hown : s.vm.findClass RX7 = some m.cls := hown
  have hP : va_P Z.1 vwCl (l_Model Z.2.1 Am M.1 M.2.1 M.2.2.1 M.2.2.2.1 M.2.2.2.2.1 M.2.2.2.2.2.1 M.2.2.2.2.2.2.1 M.2.2.2.2.2.2.2.1 M.2.2.2.2.2.2.2.2.1 M.2.2.2.2.2.2.2.2.2.1 M.2.2.2.2.2.2.2.2.2.2.1 M.2.2.2.2.2.2.2.2.2.2.2.1 M.2.2.2.2.2.2.2.2.2.2.2.2.1 M.2.2.2.2.2.2.2.2.2.2.2.2.2.1 M.2.2.2.2.2.2.2.2.2.2.2.2.2.2.1 M.2.2.2.2.2.2.2.2.2.2.2.2.2.2.2.1 M.2.2.2.2.2.2.2.2.2.2.2.2.2.2.2.2.1 M.2.2.2.2.2.2.2.2.2.2.2.2.2.2.2.2.2.1 M.2.2.2.2.2.2.2.2.2.2.2.2.2.2.2.2.2.2).flatten s.heap := hP
  have hD : va_D A (l_Model Z.2.1 Am M.1 M.2.1 M.2.2.1 M.2.2.2.1 M.2.2.2.2.1 M.2.2.2.2.2.1 M.2.2.2.2.2.2.1 M.2.2.2.2.2.2.2.1 M.2.2.2.2.2.2.2.2.1 M.2.2.2.2.2.2.2.2.2.1 M.2.2.2.2.2.2.2.2.2.2.1 M.2.2.2.2.2.2.2.2.2.2.2.1 M.2.2.2.2.2.2.2.2.2.2.2.2.1 M.2.2.2.2.2.2.2.2.2.2.2.2.2.1 M.2.2.2.2.2.2.2.2.2.2.2.2.2.2.1 M.2.2.2.2.2.2.2.2.2.2.2.2.2.2.2.1 M.2.2.2.2.2.2.2.2.2.2.2.2.2.2.2.2.1 M.2.2.2.2.2.2.2.2.2.2.2.2.2.2.2.2.2.1 M.2.2.2.2.2.2.2.2.2.2.2.2.2.2.2.2.2.2).flatten := hD
  refine lv_iload_n hx hb (z_d hX7_scene_0 0 rfl) rfl (lv_at hl 1 rfl) ?_
  refine lv_iconst (v := 0) hx hb (z_d hX7_scene_0 1 rfl) (by decide) ?_
  refine lv_aload_n hx hb (z_d hX7_scene_0 2 rfl) rfl (lv_at hl 0 rfl) ?_
  refine z_bnd hF (fun q1 hq1 hF => ?_)
  refine z_ro_i (z_rV (As := []) (rest := [.int 0, .int p1]) hx hb hml hown hts vt_X7_sceneMany (c_X7_sceneMany l Z Am M _ hq1) rfl rfl ⟨Nat.le_of_ble_eq_true rfl, Nat.le_of_ble_eq_true rfl⟩ k_m_X7_158 zPro_blind (z_recv (q := (RX7, TX7, 19)) (ci := 7) (q0 := 0) hK (zP_reg hP 0 rfl) rfl rfl) (z_prec hK hP) rfl hl.1 (Nat.le_of_ble_eq_true rfl) (z_d hX7_scene_0 3 rfl) ⟨Nat.zero_le _, Nat.zero_le _⟩) hS hP (fun H locs hP hS => ?_)
  refine lv_iconst (v := 1) hx hb (z_d hX7_scene_0 4 rfl) (by decide) ?_
  refine lv_isub hx hb (z_d hX7_scene_0 5 rfl) ?_
  refine z_let hF (fun u2 hu2 hF => ?_)
  refine lv_topE hu2 ?_
  refine z_let hF (fun q3 hq3 hF => ?_)
  refine z_ro_i (z_rS (As := [.int p1, .int 0, .int u2]) (rest := []) hx hb hml hown hts vs_X7_in (c_X7_in l Z p1 0 u2 _ hq3) rfl rfl ⟨Nat.le_of_ble_eq_true rfl, Nat.le_of_ble_eq_true rfl⟩ k_m_X7_58 zPro_blind (z_prec hK zP_nil) rfl hl.1 (Nat.le_of_ble_eq_true rfl) (z_d hX7_scene_0 6 rfl) ⟨Nat.zero_le _, Nat.zero_le _⟩) hS hP (fun H locs hP hS => ?_)
  refine lv_if_ne (tgt := 20) hx hb (z_d hX7_scene_0 7 rfl) (by decide) (fun hc11 => ?_) (fun hc11 => ?_)
  · have hF := z_neg hc11 hF
    refine lv_aload_n hx hb (z_d hX7_scene_0 12 rfl) rfl (lv_at hl 0 rfl) ?_
    refine lv_aload_n hx hb (z_d hX7_scene_0 13 rfl) rfl (lv_at hl 0 rfl) ?_
    refine va_get (D := Z.1) (ci := 7) (v := .ref (Am 1)) (C := RX7) (T := TX7) (N := 19) hx hb hts zinX7 hown hK.1 (zP_reg hP 0 rfl) 0 rfl rfl 0 (by decide) (hts _ k_f_X7_7) (fun _ h9 => h9) rfl (z_d hX7_scene_0 14 rfl) ?_
    refine lv_iconst (v := 0) hx hb (z_d hX7_scene_0 15 rfl) (by decide) ?_
    refine z_ix hF (fun hin hF => ?_)
    refine va_iald (D := Z.1) (f := M.1) hx hb hK.1 (zP_reg hP 1 rfl) 0 0 rfl rfl hin (z_d hX7_scene_0 16 rfl) ?_
    refine z_let hF (fun u4 hu4 hF => ?_)
    refine lv_topE hu4 ?_
    refine z_bnd hF (fun q5 hq5 hF => ?_)
    refine z_mu0 (z_rV (As := [.int u4]) (rest := []) hx hb hml hown hts vt_X7_setsAll (c_X7_setsAll l Z Am M u4 _ hq5) rfl rfl ⟨Nat.le_of_ble_eq_true rfl, Nat.le_of_ble_eq_true rfl⟩ k_m_X7_117 zPmu_blind (z_recv (q := (RX7, TX7, 19)) (ci := 7) (q0 := 0) hK (zP_reg hP 0 rfl) rfl rfl) (z_prem hK hP hD) rfl hl.1 (Nat.le_of_ble_eq_true rfl) (z_d hX7_scene_0 17 rfl) ⟨Nat.zero_le _, Nat.zero_le _⟩) hS hD (adr_Model _ _ _ _) (fun H locs hP hD hS => ?_)
    have hP : va_P Z.1 vwCl (l_Model Z.2.1 Am q5.1 q5.2.1 q5.2.2.1 q5.2.2.2.1 q5.2.2.2.2.1 q5.2.2.2.2.2.1 q5.2.2.2.2.2.2.1 q5.2.2.2.2.2.2.2.1 q5.2.2.2.2.2.2.2.2.1 q5.2.2.2.2.2.2.2.2.2.1 q5.2.2.2.2.2.2.2.2.2.2.1 q5.2.2.2.2.2.2.2.2.2.2.2.1 q5.2.2.2.2.2.2.2.2.2.2.2.2.1 q5.2.2.2.2.2.2.2.2.2.2.2.2.2.1 q5.2.2.2.2.2.2.2.2.2.2.2.2.2.2.1 q5.2.2.2.2.2.2.2.2.2.2.2.2.2.2.2.1 q5.2.2.2.2.2.2.2.2.2.2.2.2.2.2.2.2.1 q5.2.2.2.2.2.2.2.2.2.2.2.2.2.2.2.2.2.1 q5.2.2.2.2.2.2.2.2.2.2.2.2.2.2.2.2.2.2).flatten H := hP
    have hD : va_D A (l_Model Z.2.1 Am q5.1 q5.2.1 q5.2.2.1 q5.2.2.2.1 q5.2.2.2.2.1 q5.2.2.2.2.2.1 q5.2.2.2.2.2.2.1 q5.2.2.2.2.2.2.2.1 q5.2.2.2.2.2.2.2.2.1 q5.2.2.2.2.2.2.2.2.2.1 q5.2.2.2.2.2.2.2.2.2.2.1 q5.2.2.2.2.2.2.2.2.2.2.2.1 q5.2.2.2.2.2.2.2.2.2.2.2.2.1 q5.2.2.2.2.2.2.2.2.2.2.2.2.2.1 q5.2.2.2.2.2.2.2.2.2.2.2.2.2.2.1 q5.2.2.2.2.2.2.2.2.2.2.2.2.2.2.2.1 q5.2.2.2.2.2.2.2.2.2.2.2.2.2.2.2.2.1 q5.2.2.2.2.2.2.2.2.2.2.2.2.2.2.2.2.2.1 q5.2.2.2.2.2.2.2.2.2.2.2.2.2.2.2.2.2.2).flatten := hD
    refine W.eq (g2 := F0 m 30 ls []) rfl ?_
    refine lv_iload_n hx hb (z_d hX7_scene_0 18 rfl) rfl (lv_at hl 2 rfl) ?_
    refine lv_iconst (v := 0) hx hb (z_d hX7_scene_0 19 rfl) (by decide) ?_
    refine lv_bipush (v := 9) hx hb (z_d hX7_scene_0 20 rfl) (by decide) ?_
    refine z_let hF (fun q6 hq6 hF => ?_)
    refine z_ro_i (z_rS (As := [.int p2, .int 0, .int 9]) (rest := []) hx hb hml hown hts vs_X7_in (c_X7_in l Z p2 0 9 _ hq6) rfl rfl ⟨Nat.le_of_ble_eq_true rfl, Nat.le_of_ble_eq_true rfl⟩ k_m_X7_58 zPro_blind (z_prec hK zP_nil) rfl hl.1 (Nat.le_of_ble_eq_true rfl) (z_d hX7_scene_0 21 rfl) ⟨Nat.zero_le _, Nat.zero_le _⟩) hS hP (fun H locs hP hS => ?_)
    refine lv_if_eq (tgt := 53) hx hb (z_d hX7_scene_0 22 rfl) (by decide) (fun hc37 => ?_) (fun hc37 => ?_)
    · have hF := z_pos hc37 hF
      refine lv_aload_n hx hb (z_d hX7_scene_0 30 rfl) rfl (lv_at hl 0 rfl) ?_
      refine lv_iconst (v := 2) hx hb (z_d hX7_scene_0 31 rfl) (by decide) ?_
      refine z_let hF (fun q7 hq7 hF => ?_)
      refine z_mu0 (z_rV (As := [.int 2]) (rest := []) hx hb hml hown hts vt_X7_fails (c_X7_fails l Z Am q5 2 _ hq7) rfl rfl ⟨Nat.le_of_ble_eq_true rfl, Nat.le_of_ble_eq_true rfl⟩ k_m_X7_129 zPmu_blind (z_recv (q := (RX7, TX7, 19)) (ci := 7) (q0 := 0) hK (zP_reg hP 0 rfl) rfl rfl) (z_prem hK hP hD) rfl hl.1 (Nat.le_of_ble_eq_true rfl) (z_d hX7_scene_0 32 rfl) ⟨Nat.zero_le _, Nat.zero_le _⟩) hS hD (adr_Model _ _ _ _) (fun H locs hP hD hS => ?_)
      have hP : va_P Z.1 vwCl (l_Model Z.2.1 Am q7.2.1 q7.2.2.1 q7.2.2.2.1 q7.2.2.2.2.1 q7.2.2.2.2.2.1 q7.2.2.2.2.2.2.1 q7.2.2.2.2.2.2.2.1 q7.2.2.2.2.2.2.2.2.1 q7.2.2.2.2.2.2.2.2.2.1 q7.2.2.2.2.2.2.2.2.2.2.1 q7.2.2.2.2.2.2.2.2.2.2.2.1 q7.2.2.2.2.2.2.2.2.2.2.2.2.1 q7.2.2.2.2.2.2.2.2.2.2.2.2.2.1 q7.2.2.2.2.2.2.2.2.2.2.2.2.2.2.1 q7.2.2.2.2.2.2.2.2.2.2.2.2.2.2.2.1 q7.2.2.2.2.2.2.2.2.2.2.2.2.2.2.2.2.1 q7.2.2.2.2.2.2.2.2.2.2.2.2.2.2.2.2.2.1 q7.2.2.2.2.2.2.2.2.2.2.2.2.2.2.2.2.2.2.1 q7.2.2.2.2.2.2.2.2.2.2.2.2.2.2.2.2.2.2.2).flatten H := hP
      have hD : va_D A (l_Model Z.2.1 Am q7.2.1 q7.2.2.1 q7.2.2.2.1 q7.2.2.2.2.1 q7.2.2.2.2.2.1 q7.2.2.2.2.2.2.1 q7.2.2.2.2.2.2.2.1 q7.2.2.2.2.2.2.2.2.1 q7.2.2.2.2.2.2.2.2.2.1 q7.2.2.2.2.2.2.2.2.2.2.1 q7.2.2.2.2.2.2.2.2.2.2.2.1 q7.2.2.2.2.2.2.2.2.2.2.2.2.1 q7.2.2.2.2.2.2.2.2.2.2.2.2.2.1 q7.2.2.2.2.2.2.2.2.2.2.2.2.2.2.1 q7.2.2.2.2.2.2.2.2.2.2.2.2.2.2.2.1 q7.2.2.2.2.2.2.2.2.2.2.2.2.2.2.2.2.1 q7.2.2.2.2.2.2.2.2.2.2.2.2.2.2.2.2.2.1 q7.2.2.2.2.2.2.2.2.2.2.2.2.2.2.2.2.2.2.1 q7.2.2.2.2.2.2.2.2.2.2.2.2.2.2.2.2.2.2.2).flatten := hD
      refine W.eq (g2 := F0 m 58 ls [.int q7.1]) rfl ?_
      obtain rfl := Option.some.inj hF
      subst hQ
      subst hA
      exact W.iret hx hb hr (fun t ht hW => zq_mu (by rw [ht]; exact hP) (hS.F ht)) hS.2.2 (z_d hX7_scene_0 33 rfl)
    · have hF := z_neg hc37 hF
      refine lv_aload_n hx hb (z_d hX7_scene_0 23 rfl) rfl (lv_at hl 0 rfl) ?_
      refine lv_aload_n hx hb (z_d hX7_scene_0 24 rfl) rfl (lv_at hl 0 rfl) ?_
      refine lv_iload_n hx hb (z_d hX7_scene_0 25 rfl) rfl (lv_at hl 1 rfl) ?_
      refine lv_iload_n hx hb (z_d hX7_scene_0 26 rfl) rfl (lv_at hl 2 rfl) ?_
      refine z_bnd hF (fun q8 hq8 hF => ?_)
      refine z_ro_i (z_rV (As := [.int p1, .int p2]) (rest := [.ref (Am 0)]) hx hb hml hown hts vt_X7_sceneTold (c_X7_sceneTold l Z Am q5 p1 p2 _ hq8) rfl rfl ⟨Nat.le_of_ble_eq_true rfl, Nat.le_of_ble_eq_true rfl⟩ k_m_X7_180 zPro_blind (z_recv (q := (RX7, TX7, 19)) (ci := 7) (q0 := 0) hK (zP_reg hP 0 rfl) rfl rfl) (z_prec hK hP) rfl hl.1 (Nat.le_of_ble_eq_true rfl) (z_d hX7_scene_0 27 rfl) ⟨Nat.zero_le _, Nat.zero_le _⟩) hS hP (fun H locs hP hS => ?_)
      refine z_let hF (fun q9 hq9 hF => ?_)
      refine z_mu0 (z_rV (As := [.int q8]) (rest := []) hx hb hml hown hts vt_X7_tells (c_X7_tells l Z Am q5 q8 _ hq9) rfl rfl ⟨Nat.le_of_ble_eq_true rfl, Nat.le_of_ble_eq_true rfl⟩ k_m_X7_54 zPmu_blind (z_recv (q := (RX7, TX7, 19)) (ci := 7) (q0 := 0) hK (zP_reg hP 0 rfl) rfl rfl) (z_prem hK hP hD) rfl hl.1 (Nat.le_of_ble_eq_true rfl) (z_d hX7_scene_0 28 rfl) ⟨Nat.zero_le _, Nat.zero_le _⟩) hS hD (adr_Model _ _ _ _) (fun H locs hP hD hS => ?_)
      have hP : va_P Z.1 vwCl (l_Model Z.2.1 Am q9.2.1 q9.2.2.1 q9.2.2.2.1 q9.2.2.2.2.1 q9.2.2.2.2.2.1 q9.2.2.2.2.2.2.1 q9.2.2.2.2.2.2.2.1 q9.2.2.2.2.2.2.2.2.1 q9.2.2.2.2.2.2.2.2.2.1 q9.2.2.2.2.2.2.2.2.2.2.1 q9.2.2.2.2.2.2.2.2.2.2.2.1 q9.2.2.2.2.2.2.2.2.2.2.2.2.1 q9.2.2.2.2.2.2.2.2.2.2.2.2.2.1 q9.2.2.2.2.2.2.2.2.2.2.2.2.2.2.1 q9.2.2.2.2.2.2.2.2.2.2.2.2.2.2.2.1 q9.2.2.2.2.2.2.2.2.2.2.2.2.2.2.2.2.1 q9.2.2.2.2.2.2.2.2.2.2.2.2.2.2.2.2.2.1 q9.2.2.2.2.2.2.2.2.2.2.2.2.2.2.2.2.2.2.1 q9.2.2.2.2.2.2.2.2.2.2.2.2.2.2.2.2.2.2.2).flatten H := hP
      have hD : va_D A (l_Model Z.2.1 Am q9.2.1 q9.2.2.1 q9.2.2.2.1 q9.2.2.2.2.1 q9.2.2.2.2.2.1 q9.2.2.2.2.2.2.1 q9.2.2.2.2.2.2.2.1 q9.2.2.2.2.2.2.2.2.1 q9.2.2.2.2.2.2.2.2.2.1 q9.2.2.2.2.2.2.2.2.2.2.1 q9.2.2.2.2.2.2.2.2.2.2.2.1 q9.2.2.2.2.2.2.2.2.2.2.2.2.1 q9.2.2.2.2.2.2.2.2.2.2.2.2.2.1 q9.2.2.2.2.2.2.2.2.2.2.2.2.2.2.1 q9.2.2.2.2.2.2.2.2.2.2.2.2.2.2.2.1 q9.2.2.2.2.2.2.2.2.2.2.2.2.2.2.2.2.1 q9.2.2.2.2.2.2.2.2.2.2.2.2.2.2.2.2.2.1 q9.2.2.2.2.2.2.2.2.2.2.2.2.2.2.2.2.2.2.1 q9.2.2.2.2.2.2.2.2.2.2.2.2.2.2.2.2.2.2.2).flatten := hD
      refine W.eq (g2 := F0 m 50 ls [.int q9.1]) rfl ?_
      refine lv_goto (tgt := 58) hx hb (z_d hX7_scene_0 29 rfl) (by decide) ?_
      obtain rfl := Option.some.inj hF
      subst hQ
      subst hA
      exact W.iret hx hb hr (fun t ht hW => zq_mu (by rw [ht]; exact hP) (hS.F ht)) hS.2.2 (z_d hX7_scene_0 33 rfl)
  · have hF := z_pos hc11 hF
    refine lv_aload_n hx hb (z_d hX7_scene_0 8 rfl) rfl (lv_at hl 0 rfl) ?_
    refine lv_iconst (v := 1) hx hb (z_d hX7_scene_0 9 rfl) (by decide) ?_
    refine z_let hF (fun q10 hq10 hF => ?_)
    refine z_mu0 (z_rV (As := [.int 1]) (rest := []) hx hb hml hown hts vt_X7_fails (c_X7_fails l Z Am M 1 _ hq10) rfl rfl ⟨Nat.le_of_ble_eq_true rfl, Nat.le_of_ble_eq_true rfl⟩ k_m_X7_129 zPmu_blind (z_recv (q := (RX7, TX7, 19)) (ci := 7) (q0 := 0) hK (zP_reg hP 0 rfl) rfl rfl) (z_prem hK hP hD) rfl hl.1 (Nat.le_of_ble_eq_true rfl) (z_d hX7_scene_0 10 rfl) ⟨Nat.zero_le _, Nat.zero_le _⟩) hS hD (adr_Model _ _ _ _) (fun H locs hP hD hS => ?_)
    have hP : va_P Z.1 vwCl (l_Model Z.2.1 Am q10.2.1 q10.2.2.1 q10.2.2.2.1 q10.2.2.2.2.1 q10.2.2.2.2.2.1 q10.2.2.2.2.2.2.1 q10.2.2.2.2.2.2.2.1 q10.2.2.2.2.2.2.2.2.1 q10.2.2.2.2.2.2.2.2.2.1 q10.2.2.2.2.2.2.2.2.2.2.1 q10.2.2.2.2.2.2.2.2.2.2.2.1 q10.2.2.2.2.2.2.2.2.2.2.2.2.1 q10.2.2.2.2.2.2.2.2.2.2.2.2.2.1 q10.2.2.2.2.2.2.2.2.2.2.2.2.2.2.1 q10.2.2.2.2.2.2.2.2.2.2.2.2.2.2.2.1 q10.2.2.2.2.2.2.2.2.2.2.2.2.2.2.2.2.1 q10.2.2.2.2.2.2.2.2.2.2.2.2.2.2.2.2.2.1 q10.2.2.2.2.2.2.2.2.2.2.2.2.2.2.2.2.2.2.1 q10.2.2.2.2.2.2.2.2.2.2.2.2.2.2.2.2.2.2.2).flatten H := hP
    have hD : va_D A (l_Model Z.2.1 Am q10.2.1 q10.2.2.1 q10.2.2.2.1 q10.2.2.2.2.1 q10.2.2.2.2.2.1 q10.2.2.2.2.2.2.1 q10.2.2.2.2.2.2.2.1 q10.2.2.2.2.2.2.2.2.1 q10.2.2.2.2.2.2.2.2.2.1 q10.2.2.2.2.2.2.2.2.2.2.1 q10.2.2.2.2.2.2.2.2.2.2.2.1 q10.2.2.2.2.2.2.2.2.2.2.2.2.1 q10.2.2.2.2.2.2.2.2.2.2.2.2.2.1 q10.2.2.2.2.2.2.2.2.2.2.2.2.2.2.1 q10.2.2.2.2.2.2.2.2.2.2.2.2.2.2.2.1 q10.2.2.2.2.2.2.2.2.2.2.2.2.2.2.2.2.1 q10.2.2.2.2.2.2.2.2.2.2.2.2.2.2.2.2.2.1 q10.2.2.2.2.2.2.2.2.2.2.2.2.2.2.2.2.2.2.1 q10.2.2.2.2.2.2.2.2.2.2.2.2.2.2.2.2.2.2.2).flatten := hD
    refine W.eq (g2 := F0 m 19 ls [.int q10.1]) rfl ?_
    obtain rfl := Option.some.inj hF
    subst hQ
    subst hA
    exact W.iret hx hb hr (fun t ht hW => zq_mu (by rw [ht]; exact hP) (hS.F ht)) hS.2.2 (z_d hX7_scene_0 11 rfl)
def rm_X7_pageTold : Room := { frames := 3, cells := 0, slots := 0, locals := 67 }
set_option maxRecDepth 100000 in
set_option maxHeartbeats 4000000 in
theorem c_X7_pageTold (l : Launch) (Z : zZ) (Am : Nat → Nat) (M : t_Model) (p1 : Int32) (p2 : Int32) (R : Int32) (hF : X7_pageTold M p1 p2 = some R) : zRO l yX7_pageTold (zw yX7_pageTold cX7_pageTold 3 (some .int)) rm_X7_pageTold Z [.ref (Am 0), .int p1, .int p2] (w_Model Z.2.1 Am M) (some (.int R)) := by
  refine zRO_of (by decide) (Nat.le_of_ble_eq_true rfl) (fun p e s m below meth c hx hb hr hml hown hts hlocks hK Q hQ ls hl hP hS => ?_)
  unfold X7_pageTold at hF
  have hl : lv_has ls 3 [(0, .ref (Am 0)), (1, .int p1), (2, .int p2)] := hl
  have hown : s.vm.findClass RX7 = some m.cls := hown
  have hP : va_P Z.1 vwCl (l_Model Z.2.1 Am M.1 M.2.1 M.2.2.1 M.2.2.2.1 M.2.2.2.2.1 M.2.2.2.2.2.1 M.2.2.2.2.2.2.1 M.2.2.2.2.2.2.2.1 M.2.2.2.2.2.2.2.2.1 M.2.2.2.2.2.2.2.2.2.1 M.2.2.2.2.2.2.2.2.2.2.1 M.2.2.2.2.2.2.2.2.2.2.2.1 M.2.2.2.2.2.2.2.2.2.2.2.2.1 M.2.2.2.2.2.2.2.2.2.2.2.2.2.1 M.2.2.2.2.2.2.2.2.2.2.2.2.2.2.1 M.2.2.2.2.2.2.2.2.2.2.2.2.2.2.2.1 M.2.2.2.2.2.2.2.2.2.2.2.2.2.2.2.2.1 M.2.2.2.2.2.2.2.2.2.2.2.2.2.2.2.2.2.1 M.2.2.2.2.2.2.2.2.2.2.2.2.2.2.2.2.2.2).flatten s.heap := hP
  refine lv_iload_n hx hb (z_d hX7_pageTold_0 0 rfl) rfl (lv_at hl 2 rfl) ?_
  by_cases hs1_2 : p2 = 2
  · have hF := z_pos hs1_2 hF
    refine lv_tableIn (off := 27) (tgt := 28) hx hb (z_d hX7_pageTold_0 1 rfl) (by rw [hs1_2]; decide) (by rw [hs1_2]; decide) (by rw [hs1_2]; first | done | rfl) (by decide) ?_
    refine lv_aload_n hx hb (z_d hX7_pageTold_0 2 rfl) rfl (lv_at hl 0 rfl) ?_
    refine va_get (D := Z.1) (ci := 7) (v := .ref (Am 8)) (C := RX7) (T := TX7) (N := 19) hx hb hts zinX7 hown hK.1 (zP_reg hP 0 rfl) 0 rfl rfl 12 (by decide) (hts _ k_f_X7_31) (fun _ h9 => h9) rfl (z_d hX7_pageTold_0 3 rfl) ?_
    refine lv_iload_n hx hb (z_d hX7_pageTold_0 4 rfl) rfl (lv_at hl 1 rfl) ?_
    refine z_ix hF (fun hin hF => ?_)
    refine va_iald (D := Z.1) (f := M.2.2.2.2.2.2.2.2.2.2.2.2.1) hx hb hK.1 (zP_reg hP 8 rfl) 0 0 rfl rfl hin (z_d hX7_pageTold_0 5 rfl) ?_
    refine z_let hF (fun u1 hu1 hF => ?_)
    refine lv_topE hu1 ?_
    obtain rfl := Option.some.inj hF
    subst hQ
    exact W.iret hx hb hr (fun t ht hW => zq_ro (hS.F ht)) hS.2.2 (z_d hX7_pageTold_0 6 rfl)
  have hF := z_neg hs1_2 hF
  by_cases hs1_3 : p2 = 3
  · have hF := z_pos hs1_3 hF
    refine lv_tableIn (off := 34) (tgt := 35) hx hb (z_d hX7_pageTold_0 1 rfl) (by rw [hs1_3]; decide) (by rw [hs1_3]; decide) (by rw [hs1_3]; first | done | rfl) (by decide) ?_
    refine lv_aload_n hx hb (z_d hX7_pageTold_0 7 rfl) rfl (lv_at hl 0 rfl) ?_
    refine va_get (D := Z.1) (ci := 7) (v := .ref (Am 9)) (C := RX7) (T := TX7) (N := 19) hx hb hts zinX7 hown hK.1 (zP_reg hP 0 rfl) 0 rfl rfl 13 (by decide) (hts _ k_f_X7_34) (fun _ h9 => h9) rfl (z_d hX7_pageTold_0 8 rfl) ?_
    refine lv_iload_n hx hb (z_d hX7_pageTold_0 9 rfl) rfl (lv_at hl 1 rfl) ?_
    refine z_ix hF (fun hin hF => ?_)
    refine va_iald (D := Z.1) (f := M.2.2.2.2.2.2.2.2.2.2.2.2.2.1) hx hb hK.1 (zP_reg hP 9 rfl) 0 0 rfl rfl hin (z_d hX7_pageTold_0 10 rfl) ?_
    refine z_let hF (fun u2 hu2 hF => ?_)
    refine lv_topE hu2 ?_
    obtain rfl := Option.some.inj hF
    subst hQ
    exact W.iret hx hb hr (fun t ht hW => zq_ro (hS.F ht)) hS.2.2 (z_d hX7_pageTold_0 11 rfl)
  have hF := z_neg hs1_3 hF
  by_cases hs1_4 : p2 = 4
  · have hF := z_pos hs1_4 hF
    refine lv_tableIn (off := 41) (tgt := 42) hx hb (z_d hX7_pageTold_0 1 rfl) (by rw [hs1_4]; decide) (by rw [hs1_4]; decide) (by rw [hs1_4]; first | done | rfl) (by decide) ?_
    refine lv_aload_n hx hb (z_d hX7_pageTold_0 12 rfl) rfl (lv_at hl 0 rfl) ?_
    refine va_get (D := Z.1) (ci := 7) (v := .ref (Am 10)) (C := RX7) (T := TX7) (N := 19) hx hb hts zinX7 hown hK.1 (zP_reg hP 0 rfl) 0 rfl rfl 14 (by decide) (hts _ k_f_X7_37) (fun _ h9 => h9) rfl (z_d hX7_pageTold_0 13 rfl) ?_
    refine lv_iload_n hx hb (z_d hX7_pageTold_0 14 rfl) rfl (lv_at hl 1 rfl) ?_
    refine z_ix hF (fun hin hF => ?_)
    refine va_iald (D := Z.1) (f := M.2.2.2.2.2.2.2.2.2.2.2.2.2.2.1) hx hb hK.1 (zP_reg hP 10 rfl) 0 0 rfl rfl hin (z_d hX7_pageTold_0 15 rfl) ?_
    refine z_let hF (fun u3 hu3 hF => ?_)
    refine lv_topE hu3 ?_
    obtain rfl := Option.some.inj hF
    subst hQ
    exact W.iret hx hb hr (fun t ht hW => zq_ro (hS.F ht)) hS.2.2 (z_d hX7_pageTold_0 16 rfl)
  have hF := z_neg hs1_4 hF
  have n2 := lv_neT (a := 2) hs1_2 (by decide)
  have n3 := lv_neT (a := 3) hs1_3 (by decide)
  have n4 := lv_neT (a := 4) hs1_4 (by decide)
  refine lv_tableOut (tgt := 49) hx hb (z_d hX7_pageTold_0 1 rfl) (by omega) (by decide) ?_
  refine lv_aload_n hx hb (z_d hX7_pageTold_0 17 rfl) rfl (lv_at hl 0 rfl) ?_
  refine lv_iload_n hx hb (z_d hX7_pageTold_0 18 rfl) rfl (lv_at hl 1 rfl) ?_
  refine lv_iload_n hx hb (z_d hX7_pageTold_0 19 rfl) rfl (lv_at hl 2 rfl) ?_
  refine z_bnd hF (fun q4 hq4 hF => ?_)
  refine z_ro_i (z_rV (As := [.int p1, .int p2]) (rest := []) hx hb hml hown hts vt_X7_pageLabel (c_X7_pageLabel l Z Am M p1 p2 _ hq4) rfl rfl ⟨Nat.le_of_ble_eq_true rfl, Nat.le_of_ble_eq_true rfl⟩ k_m_X7_183 zPro_blind (z_recv (q := (RX7, TX7, 19)) (ci := 7) (q0 := 0) hK (zP_reg hP 0 rfl) rfl rfl) (z_prec hK hP) rfl hl.1 (Nat.le_of_ble_eq_true rfl) (z_d hX7_pageTold_0 20 rfl) ⟨Nat.zero_le _, Nat.zero_le _⟩) hS hP (fun H locs hP hS => ?_)
  obtain rfl := Option.some.inj hF
  subst hQ
  exact W.iret hx hb hr (fun t ht hW => zq_ro (hS.F ht)) hS.2.2 (z_d hX7_pageTold_0 21 rfl)
def rm_X7_page : Room := { frames := 6, cells := 0, slots := 0, locals := 141 }
set_option maxRecDepth 100000 in
set_option maxHeartbeats 4000000 in
theorem c_X7_page (l : Launch) (Z : zZ) (Am : Nat → Nat) (M : t_Model) (p1 : Int32) (p2 : Int32) (R : Int32 × t_Model) (hF : X7_page M p1 p2 = some R) : zMU l yX7_page (zw yX7_page cX7_page 3 (some .int)) rm_X7_page Z [.ref (Am 0), .int p1, .int p2] (w_Model Z.2.1 Am M) (w_Model Z.2.1 Am R.2) (some (.int R.1)) := by
  refine zMU_of (by decide) (Nat.le_of_ble_eq_true rfl) (fun p e s m below meth c hx hb hr hml hown hts hlocks hK A hA Q hQ ls hl hP hD hS => ?_)
  unfold X7_page at hF
  have hl : lv_has ls 3 [(0, .ref (Am 0)), (1, .int p1), (2, .int p2)] := hl
  have hown : s.vm.findClass RX7 = some m.cls := hown
  have hP : va_P Z.1 vwCl (l_Model Z.2.1 Am M.1 M.2.1 M.2.2.1 M.2.2.2.1 M.2.2.2.2.1 M.2.2.2.2.2.1 M.2.2.2.2.2.2.1 M.2.2.2.2.2.2.2.1 M.2.2.2.2.2.2.2.2.1 M.2.2.2.2.2.2.2.2.2.1 M.2.2.2.2.2.2.2.2.2.2.1 M.2.2.2.2.2.2.2.2.2.2.2.1 M.2.2.2.2.2.2.2.2.2.2.2.2.1 M.2.2.2.2.2.2.2.2.2.2.2.2.2.1 M.2.2.2.2.2.2.2.2.2.2.2.2.2.2.1 M.2.2.2.2.2.2.2.2.2.2.2.2.2.2.2.1 M.2.2.2.2.2.2.2.2.2.2.2.2.2.2.2.2.1 M.2.2.2.2.2.2.2.2.2.2.2.2.2.2.2.2.2.1 M.2.2.2.2.2.2.2.2.2.2.2.2.2.2.2.2.2.2).flatten s.heap := hP
  have hD : va_D A (l_Model Z.2.1 Am M.1 M.2.1 M.2.2.1 M.2.2.2.1 M.2.2.2.2.1 M.2.2.2.2.2.1 M.2.2.2.2.2.2.1 M.2.2.2.2.2.2.2.1 M.2.2.2.2.2.2.2.2.1 M.2.2.2.2.2.2.2.2.2.1 M.2.2.2.2.2.2.2.2.2.2.1 M.2.2.2.2.2.2.2.2.2.2.2.1 M.2.2.2.2.2.2.2.2.2.2.2.2.1 M.2.2.2.2.2.2.2.2.2.2.2.2.2.1 M.2.2.2.2.2.2.2.2.2.2.2.2.2.2.1 M.2.2.2.2.2.2.2.2.2.2.2.2.2.2.2.1 M.2.2.2.2.2.2.2.2.2.2.2.2.2.2.2.2.1 M.2.2.2.2.2.2.2.2.2.2.2.2.2.2.2.2.2.1 M.2.2.2.2.2.2.2.2.2.2.2.2.2.2.2.2.2.2).flatten := hD
  refine lv_aload_n hx hb (z_d hX7_page_0 0 rfl) rfl (lv_at hl 0 rfl) ?_
  refine lv_aload_n hx hb (z_d hX7_page_0 1 rfl) rfl (lv_at hl 0 rfl) ?_
  refine va_get (D := Z.1) (ci := 7) (v := .ref (Am 1)) (C := RX7) (T := TX7) (N := 19) hx hb hts zinX7 hown hK.1 (zP_reg hP 0 rfl) 0 rfl rfl 0 (by decide) (hts _ k_f_X7_7) (fun _ h9 => h9) rfl (z_d hX7_page_0 2 rfl) ?_
  refine lv_iconst (v := 0) hx hb (z_d hX7_page_0 3 rfl) (by decide) ?_
  refine z_ix hF (fun hin hF => ?_)
  refine va_iald (D := Z.1) (f := M.1) hx hb hK.1 (zP_reg hP 1 rfl) 0 0 rfl rfl hin (z_d hX7_page_0 4 rfl) ?_
  refine z_let hF (fun u1 hu1 hF => ?_)
  refine lv_topE hu1 ?_
  refine z_bnd hF (fun q2 hq2 hF => ?_)
  refine z_mu0 (z_rV (As := [.int u1]) (rest := []) hx hb hml hown hts vt_X7_setsAll (c_X7_setsAll l Z Am M u1 _ hq2) rfl rfl ⟨Nat.le_of_ble_eq_true rfl, Nat.le_of_ble_eq_true rfl⟩ k_m_X7_117 zPmu_blind (z_recv (q := (RX7, TX7, 19)) (ci := 7) (q0 := 0) hK (zP_reg hP 0 rfl) rfl rfl) (z_prem hK hP hD) rfl hl.1 (Nat.le_of_ble_eq_true rfl) (z_d hX7_page_0 5 rfl) ⟨Nat.zero_le _, Nat.zero_le _⟩) hS hD (adr_Model _ _ _ _) (fun H locs hP hD hS => ?_)
  have hP : va_P Z.1 vwCl (l_Model Z.2.1 Am q2.1 q2.2.1 q2.2.2.1 q2.2.2.2.1 q2.2.2.2.2.1 q2.2.2.2.2.2.1 q2.2.2.2.2.2.2.1 q2.2.2.2.2.2.2.2.1 q2.2.2.2.2.2.2.2.2.1 q2.2.2.2.2.2.2.2.2.2.1 q2.2.2.2.2.2.2.2.2.2.2.1 q2.2.2.2.2.2.2.2.2.2.2.2.1 q2.2.2.2.2.2.2.2.2.2.2.2.2.1 q2.2.2.2.2.2.2.2.2.2.2.2.2.2.1 q2.2.2.2.2.2.2.2.2.2.2.2.2.2.2.1 q2.2.2.2.2.2.2.2.2.2.2.2.2.2.2.2.1 q2.2.2.2.2.2.2.2.2.2.2.2.2.2.2.2.2.1 q2.2.2.2.2.2.2.2.2.2.2.2.2.2.2.2.2.2.1 q2.2.2.2.2.2.2.2.2.2.2.2.2.2.2.2.2.2.2).flatten H := hP
  have hD : va_D A (l_Model Z.2.1 Am q2.1 q2.2.1 q2.2.2.1 q2.2.2.2.1 q2.2.2.2.2.1 q2.2.2.2.2.2.1 q2.2.2.2.2.2.2.1 q2.2.2.2.2.2.2.2.1 q2.2.2.2.2.2.2.2.2.1 q2.2.2.2.2.2.2.2.2.2.1 q2.2.2.2.2.2.2.2.2.2.2.1 q2.2.2.2.2.2.2.2.2.2.2.2.1 q2.2.2.2.2.2.2.2.2.2.2.2.2.1 q2.2.2.2.2.2.2.2.2.2.2.2.2.2.1 q2.2.2.2.2.2.2.2.2.2.2.2.2.2.2.1 q2.2.2.2.2.2.2.2.2.2.2.2.2.2.2.2.1 q2.2.2.2.2.2.2.2.2.2.2.2.2.2.2.2.2.1 q2.2.2.2.2.2.2.2.2.2.2.2.2.2.2.2.2.2.1 q2.2.2.2.2.2.2.2.2.2.2.2.2.2.2.2.2.2.2).flatten := hD
  refine W.eq (g2 := F0 m 10 ls []) rfl ?_
  refine lv_iload_n hx hb (z_d hX7_page_0 6 rfl) rfl (lv_at hl 1 rfl) ?_
  refine lv_iconst (v := 0) hx hb (z_d hX7_page_0 7 rfl) (by decide) ?_
  refine lv_aload_n hx hb (z_d hX7_page_0 8 rfl) rfl (lv_at hl 0 rfl) ?_
  refine va_get (D := Z.1) (ci := 7) (v := .int q2.2.2.2.2.2.2.2.1) (C := RX7) (T := TX7) (N := 19) hx hb hts zinX7 hown hK.1 (zP_reg hP 0 rfl) 0 rfl rfl 7 (by decide) (hts _ k_f_X7_101) (fun _ h9 => h9) rfl (z_d hX7_page_0 9 rfl) ?_
  refine lv_iconst (v := 1) hx hb (z_d hX7_page_0 10 rfl) (by decide) ?_
  refine lv_isub hx hb (z_d hX7_page_0 11 rfl) ?_
  refine z_let hF (fun u3 hu3 hF => ?_)
  refine lv_topE hu3 ?_
  refine z_let hF (fun q4 hq4 hF => ?_)
  refine z_ro_i (z_rS (As := [.int p1, .int 0, .int u3]) (rest := []) hx hb hml hown hts vs_X7_in (c_X7_in l Z p1 0 u3 _ hq4) rfl rfl ⟨Nat.le_of_ble_eq_true rfl, Nat.le_of_ble_eq_true rfl⟩ k_m_X7_58 zPro_blind (z_prec hK zP_nil) rfl hl.1 (Nat.le_of_ble_eq_true rfl) (z_d hX7_page_0 12 rfl) ⟨Nat.zero_le _, Nat.zero_le _⟩) hS hP (fun H locs hP hS => ?_)
  refine lv_if_ne (tgt := 30) hx hb (z_d hX7_page_0 13 rfl) (by decide) (fun hc21 => ?_) (fun hc21 => ?_)
  · have hF := z_neg hc21 hF
    refine lv_iload_n hx hb (z_d hX7_page_0 18 rfl) rfl (lv_at hl 2 rfl) ?_
    refine lv_iconst (v := 0) hx hb (z_d hX7_page_0 19 rfl) (by decide) ?_
    refine lv_iconst (v := 4) hx hb (z_d hX7_page_0 20 rfl) (by decide) ?_
    refine z_let hF (fun q5 hq5 hF => ?_)
    refine z_ro_i (z_rS (As := [.int p2, .int 0, .int 4]) (rest := []) hx hb hml hown hts vs_X7_in (c_X7_in l Z p2 0 4 _ hq5) rfl rfl ⟨Nat.le_of_ble_eq_true rfl, Nat.le_of_ble_eq_true rfl⟩ k_m_X7_58 zPro_blind (z_prec hK zP_nil) rfl hl.1 (Nat.le_of_ble_eq_true rfl) (z_d hX7_page_0 21 rfl) ⟨Nat.zero_le _, Nat.zero_le _⟩) hS hP (fun H locs hP hS => ?_)
    refine lv_if_eq (tgt := 52) hx hb (z_d hX7_page_0 22 rfl) (by decide) (fun hc36 => ?_) (fun hc36 => ?_)
    · have hF := z_pos hc36 hF
      refine lv_aload_n hx hb (z_d hX7_page_0 30 rfl) rfl (lv_at hl 0 rfl) ?_
      refine lv_iconst (v := 2) hx hb (z_d hX7_page_0 31 rfl) (by decide) ?_
      refine z_let hF (fun q6 hq6 hF => ?_)
      refine z_mu0 (z_rV (As := [.int 2]) (rest := []) hx hb hml hown hts vt_X7_fails (c_X7_fails l Z Am q2 2 _ hq6) rfl rfl ⟨Nat.le_of_ble_eq_true rfl, Nat.le_of_ble_eq_true rfl⟩ k_m_X7_129 zPmu_blind (z_recv (q := (RX7, TX7, 19)) (ci := 7) (q0 := 0) hK (zP_reg hP 0 rfl) rfl rfl) (z_prem hK hP hD) rfl hl.1 (Nat.le_of_ble_eq_true rfl) (z_d hX7_page_0 32 rfl) ⟨Nat.zero_le _, Nat.zero_le _⟩) hS hD (adr_Model _ _ _ _) (fun H locs hP hD hS => ?_)
      have hP : va_P Z.1 vwCl (l_Model Z.2.1 Am q6.2.1 q6.2.2.1 q6.2.2.2.1 q6.2.2.2.2.1 q6.2.2.2.2.2.1 q6.2.2.2.2.2.2.1 q6.2.2.2.2.2.2.2.1 q6.2.2.2.2.2.2.2.2.1 q6.2.2.2.2.2.2.2.2.2.1 q6.2.2.2.2.2.2.2.2.2.2.1 q6.2.2.2.2.2.2.2.2.2.2.2.1 q6.2.2.2.2.2.2.2.2.2.2.2.2.1 q6.2.2.2.2.2.2.2.2.2.2.2.2.2.1 q6.2.2.2.2.2.2.2.2.2.2.2.2.2.2.1 q6.2.2.2.2.2.2.2.2.2.2.2.2.2.2.2.1 q6.2.2.2.2.2.2.2.2.2.2.2.2.2.2.2.2.1 q6.2.2.2.2.2.2.2.2.2.2.2.2.2.2.2.2.2.1 q6.2.2.2.2.2.2.2.2.2.2.2.2.2.2.2.2.2.2.1 q6.2.2.2.2.2.2.2.2.2.2.2.2.2.2.2.2.2.2.2).flatten H := hP
      have hD : va_D A (l_Model Z.2.1 Am q6.2.1 q6.2.2.1 q6.2.2.2.1 q6.2.2.2.2.1 q6.2.2.2.2.2.1 q6.2.2.2.2.2.2.1 q6.2.2.2.2.2.2.2.1 q6.2.2.2.2.2.2.2.2.1 q6.2.2.2.2.2.2.2.2.2.1 q6.2.2.2.2.2.2.2.2.2.2.1 q6.2.2.2.2.2.2.2.2.2.2.2.1 q6.2.2.2.2.2.2.2.2.2.2.2.2.1 q6.2.2.2.2.2.2.2.2.2.2.2.2.2.1 q6.2.2.2.2.2.2.2.2.2.2.2.2.2.2.1 q6.2.2.2.2.2.2.2.2.2.2.2.2.2.2.2.1 q6.2.2.2.2.2.2.2.2.2.2.2.2.2.2.2.2.1 q6.2.2.2.2.2.2.2.2.2.2.2.2.2.2.2.2.2.1 q6.2.2.2.2.2.2.2.2.2.2.2.2.2.2.2.2.2.2.1 q6.2.2.2.2.2.2.2.2.2.2.2.2.2.2.2.2.2.2.2).flatten := hD
      refine W.eq (g2 := F0 m 57 ls [.int q6.1]) rfl ?_
      obtain rfl := Option.some.inj hF
      subst hQ
      subst hA
      exact W.iret hx hb hr (fun t ht hW => zq_mu (by rw [ht]; exact hP) (hS.F ht)) hS.2.2 (z_d hX7_page_0 33 rfl)
    · have hF := z_neg hc36 hF
      refine lv_aload_n hx hb (z_d hX7_page_0 23 rfl) rfl (lv_at hl 0 rfl) ?_
      refine lv_aload_n hx hb (z_d hX7_page_0 24 rfl) rfl (lv_at hl 0 rfl) ?_
      refine lv_iload_n hx hb (z_d hX7_page_0 25 rfl) rfl (lv_at hl 1 rfl) ?_
      refine lv_iload_n hx hb (z_d hX7_page_0 26 rfl) rfl (lv_at hl 2 rfl) ?_
      refine z_bnd hF (fun q7 hq7 hF => ?_)
      refine z_ro_i (z_rV (As := [.int p1, .int p2]) (rest := [.ref (Am 0)]) hx hb hml hown hts vt_X7_pageTold (c_X7_pageTold l Z Am q2 p1 p2 _ hq7) rfl rfl ⟨Nat.le_of_ble_eq_true rfl, Nat.le_of_ble_eq_true rfl⟩ k_m_X7_186 zPro_blind (z_recv (q := (RX7, TX7, 19)) (ci := 7) (q0 := 0) hK (zP_reg hP 0 rfl) rfl rfl) (z_prec hK hP) rfl hl.1 (Nat.le_of_ble_eq_true rfl) (z_d hX7_page_0 27 rfl) ⟨Nat.zero_le _, Nat.zero_le _⟩) hS hP (fun H locs hP hS => ?_)
      refine z_let hF (fun q8 hq8 hF => ?_)
      refine z_mu0 (z_rV (As := [.int q7]) (rest := []) hx hb hml hown hts vt_X7_tells (c_X7_tells l Z Am q2 q7 _ hq8) rfl rfl ⟨Nat.le_of_ble_eq_true rfl, Nat.le_of_ble_eq_true rfl⟩ k_m_X7_54 zPmu_blind (z_recv (q := (RX7, TX7, 19)) (ci := 7) (q0 := 0) hK (zP_reg hP 0 rfl) rfl rfl) (z_prem hK hP hD) rfl hl.1 (Nat.le_of_ble_eq_true rfl) (z_d hX7_page_0 28 rfl) ⟨Nat.zero_le _, Nat.zero_le _⟩) hS hD (adr_Model _ _ _ _) (fun H locs hP hD hS => ?_)
      have hP : va_P Z.1 vwCl (l_Model Z.2.1 Am q8.2.1 q8.2.2.1 q8.2.2.2.1 q8.2.2.2.2.1 q8.2.2.2.2.2.1 q8.2.2.2.2.2.2.1 q8.2.2.2.2.2.2.2.1 q8.2.2.2.2.2.2.2.2.1 q8.2.2.2.2.2.2.2.2.2.1 q8.2.2.2.2.2.2.2.2.2.2.1 q8.2.2.2.2.2.2.2.2.2.2.2.1 q8.2.2.2.2.2.2.2.2.2.2.2.2.1 q8.2.2.2.2.2.2.2.2.2.2.2.2.2.1 q8.2.2.2.2.2.2.2.2.2.2.2.2.2.2.1 q8.2.2.2.2.2.2.2.2.2.2.2.2.2.2.2.1 q8.2.2.2.2.2.2.2.2.2.2.2.2.2.2.2.2.1 q8.2.2.2.2.2.2.2.2.2.2.2.2.2.2.2.2.2.1 q8.2.2.2.2.2.2.2.2.2.2.2.2.2.2.2.2.2.2.1 q8.2.2.2.2.2.2.2.2.2.2.2.2.2.2.2.2.2.2.2).flatten H := hP
      have hD : va_D A (l_Model Z.2.1 Am q8.2.1 q8.2.2.1 q8.2.2.2.1 q8.2.2.2.2.1 q8.2.2.2.2.2.1 q8.2.2.2.2.2.2.1 q8.2.2.2.2.2.2.2.1 q8.2.2.2.2.2.2.2.2.1 q8.2.2.2.2.2.2.2.2.2.1 q8.2.2.2.2.2.2.2.2.2.2.1 q8.2.2.2.2.2.2.2.2.2.2.2.1 q8.2.2.2.2.2.2.2.2.2.2.2.2.1 q8.2.2.2.2.2.2.2.2.2.2.2.2.2.1 q8.2.2.2.2.2.2.2.2.2.2.2.2.2.2.1 q8.2.2.2.2.2.2.2.2.2.2.2.2.2.2.2.1 q8.2.2.2.2.2.2.2.2.2.2.2.2.2.2.2.2.1 q8.2.2.2.2.2.2.2.2.2.2.2.2.2.2.2.2.2.1 q8.2.2.2.2.2.2.2.2.2.2.2.2.2.2.2.2.2.2.1 q8.2.2.2.2.2.2.2.2.2.2.2.2.2.2.2.2.2.2.2).flatten := hD
      refine W.eq (g2 := F0 m 49 ls [.int q8.1]) rfl ?_
      refine lv_goto (tgt := 57) hx hb (z_d hX7_page_0 29 rfl) (by decide) ?_
      obtain rfl := Option.some.inj hF
      subst hQ
      subst hA
      exact W.iret hx hb hr (fun t ht hW => zq_mu (by rw [ht]; exact hP) (hS.F ht)) hS.2.2 (z_d hX7_page_0 33 rfl)
  · have hF := z_pos hc21 hF
    refine lv_aload_n hx hb (z_d hX7_page_0 14 rfl) rfl (lv_at hl 0 rfl) ?_
    refine lv_iconst (v := 1) hx hb (z_d hX7_page_0 15 rfl) (by decide) ?_
    refine z_let hF (fun q9 hq9 hF => ?_)
    refine z_mu0 (z_rV (As := [.int 1]) (rest := []) hx hb hml hown hts vt_X7_fails (c_X7_fails l Z Am q2 1 _ hq9) rfl rfl ⟨Nat.le_of_ble_eq_true rfl, Nat.le_of_ble_eq_true rfl⟩ k_m_X7_129 zPmu_blind (z_recv (q := (RX7, TX7, 19)) (ci := 7) (q0 := 0) hK (zP_reg hP 0 rfl) rfl rfl) (z_prem hK hP hD) rfl hl.1 (Nat.le_of_ble_eq_true rfl) (z_d hX7_page_0 16 rfl) ⟨Nat.zero_le _, Nat.zero_le _⟩) hS hD (adr_Model _ _ _ _) (fun H locs hP hD hS => ?_)
    have hP : va_P Z.1 vwCl (l_Model Z.2.1 Am q9.2.1 q9.2.2.1 q9.2.2.2.1 q9.2.2.2.2.1 q9.2.2.2.2.2.1 q9.2.2.2.2.2.2.1 q9.2.2.2.2.2.2.2.1 q9.2.2.2.2.2.2.2.2.1 q9.2.2.2.2.2.2.2.2.2.1 q9.2.2.2.2.2.2.2.2.2.2.1 q9.2.2.2.2.2.2.2.2.2.2.2.1 q9.2.2.2.2.2.2.2.2.2.2.2.2.1 q9.2.2.2.2.2.2.2.2.2.2.2.2.2.1 q9.2.2.2.2.2.2.2.2.2.2.2.2.2.2.1 q9.2.2.2.2.2.2.2.2.2.2.2.2.2.2.2.1 q9.2.2.2.2.2.2.2.2.2.2.2.2.2.2.2.2.1 q9.2.2.2.2.2.2.2.2.2.2.2.2.2.2.2.2.2.1 q9.2.2.2.2.2.2.2.2.2.2.2.2.2.2.2.2.2.2.1 q9.2.2.2.2.2.2.2.2.2.2.2.2.2.2.2.2.2.2.2).flatten H := hP
    have hD : va_D A (l_Model Z.2.1 Am q9.2.1 q9.2.2.1 q9.2.2.2.1 q9.2.2.2.2.1 q9.2.2.2.2.2.1 q9.2.2.2.2.2.2.1 q9.2.2.2.2.2.2.2.1 q9.2.2.2.2.2.2.2.2.1 q9.2.2.2.2.2.2.2.2.2.1 q9.2.2.2.2.2.2.2.2.2.2.1 q9.2.2.2.2.2.2.2.2.2.2.2.1 q9.2.2.2.2.2.2.2.2.2.2.2.2.1 q9.2.2.2.2.2.2.2.2.2.2.2.2.2.1 q9.2.2.2.2.2.2.2.2.2.2.2.2.2.2.1 q9.2.2.2.2.2.2.2.2.2.2.2.2.2.2.2.1 q9.2.2.2.2.2.2.2.2.2.2.2.2.2.2.2.2.1 q9.2.2.2.2.2.2.2.2.2.2.2.2.2.2.2.2.2.1 q9.2.2.2.2.2.2.2.2.2.2.2.2.2.2.2.2.2.2.1 q9.2.2.2.2.2.2.2.2.2.2.2.2.2.2.2.2.2.2.2).flatten := hD
    refine W.eq (g2 := F0 m 29 ls [.int q9.1]) rfl ?_
    obtain rfl := Option.some.inj hF
    subst hQ
    subst hA
    exact W.iret hx hb hr (fun t ht hW => zq_mu (by rw [ht]; exact hP) (hS.F ht)) hS.2.2 (z_d hX7_page_0 17 rfl)
def rm_X7_find : Room := { frames := 4, cells := 0, slots := 0, locals := 94 }
set_option maxRecDepth 100000 in
set_option maxHeartbeats 4000000 in
theorem c_X7_find (l : Launch) (Z : zZ) (Am : Nat → Nat) (M : t_Model) (p1 : Int32) (p2 : Int32) (p3 : Int32) (R : Int32 × t_Model) (hF : X7_find M p1 p2 p3 = some R) : zMU l yX7_find (zw yX7_find cX7_find 7 (some .int)) rm_X7_find Z [.ref (Am 0), .int p1, .int p2, .int p3] (w_Model Z.2.1 Am M) (w_Model Z.2.1 Am R.2) (some (.int R.1)) := by
  refine zMU_of (by decide) (Nat.le_of_ble_eq_true rfl) (fun p e s m below meth c hx hb hr hml hown hts hlocks hK A hA Q hQ ls hl hP hD hS => ?_)
  unfold X7_find at hF
  have hl : lv_has ls 7 [(0, .ref (Am 0)), (1, .int p1), (2, .int p2), (3, .int p3)] := hl
  have hown : s.vm.findClass RX7 = some m.cls := hown
  have hP : va_P Z.1 vwCl (l_Model Z.2.1 Am M.1 M.2.1 M.2.2.1 M.2.2.2.1 M.2.2.2.2.1 M.2.2.2.2.2.1 M.2.2.2.2.2.2.1 M.2.2.2.2.2.2.2.1 M.2.2.2.2.2.2.2.2.1 M.2.2.2.2.2.2.2.2.2.1 M.2.2.2.2.2.2.2.2.2.2.1 M.2.2.2.2.2.2.2.2.2.2.2.1 M.2.2.2.2.2.2.2.2.2.2.2.2.1 M.2.2.2.2.2.2.2.2.2.2.2.2.2.1 M.2.2.2.2.2.2.2.2.2.2.2.2.2.2.1 M.2.2.2.2.2.2.2.2.2.2.2.2.2.2.2.1 M.2.2.2.2.2.2.2.2.2.2.2.2.2.2.2.2.1 M.2.2.2.2.2.2.2.2.2.2.2.2.2.2.2.2.2.1 M.2.2.2.2.2.2.2.2.2.2.2.2.2.2.2.2.2.2).flatten s.heap := hP
  have hD : va_D A (l_Model Z.2.1 Am M.1 M.2.1 M.2.2.1 M.2.2.2.1 M.2.2.2.2.1 M.2.2.2.2.2.1 M.2.2.2.2.2.2.1 M.2.2.2.2.2.2.2.1 M.2.2.2.2.2.2.2.2.1 M.2.2.2.2.2.2.2.2.2.1 M.2.2.2.2.2.2.2.2.2.2.1 M.2.2.2.2.2.2.2.2.2.2.2.1 M.2.2.2.2.2.2.2.2.2.2.2.2.1 M.2.2.2.2.2.2.2.2.2.2.2.2.2.1 M.2.2.2.2.2.2.2.2.2.2.2.2.2.2.1 M.2.2.2.2.2.2.2.2.2.2.2.2.2.2.2.1 M.2.2.2.2.2.2.2.2.2.2.2.2.2.2.2.2.1 M.2.2.2.2.2.2.2.2.2.2.2.2.2.2.2.2.2.1 M.2.2.2.2.2.2.2.2.2.2.2.2.2.2.2.2.2.2).flatten := hD
  have L9 : ∀ (M : t_Model) (x4 : Int32) (n : Nat) (v : Int32) (X : (Unit) ⊕ (Int32 × t_Model)) (hF : zloop (b_X7_find_9 p1 p2 p3 M x4) n v = some X) (H : Heap) (locs : List Loc) (ls : Array Slot) (hP : va_P Z.1 vwCl (l_Model Z.2.1 Am M.1 M.2.1 M.2.2.1 M.2.2.2.1 M.2.2.2.2.1 M.2.2.2.2.2.1 M.2.2.2.2.2.2.1 M.2.2.2.2.2.2.2.1 M.2.2.2.2.2.2.2.2.1 M.2.2.2.2.2.2.2.2.2.1 M.2.2.2.2.2.2.2.2.2.2.1 M.2.2.2.2.2.2.2.2.2.2.2.1 M.2.2.2.2.2.2.2.2.2.2.2.2.1 M.2.2.2.2.2.2.2.2.2.2.2.2.2.1 M.2.2.2.2.2.2.2.2.2.2.2.2.2.2.1 M.2.2.2.2.2.2.2.2.2.2.2.2.2.2.2.1 M.2.2.2.2.2.2.2.2.2.2.2.2.2.2.2.2.1 M.2.2.2.2.2.2.2.2.2.2.2.2.2.2.2.2.2.1 M.2.2.2.2.2.2.2.2.2.2.2.2.2.2.2.2.2.2).flatten H) (hD : va_D A (l_Model Z.2.1 Am M.1 M.2.1 M.2.2.1 M.2.2.2.1 M.2.2.2.2.1 M.2.2.2.2.2.1 M.2.2.2.2.2.2.1 M.2.2.2.2.2.2.2.1 M.2.2.2.2.2.2.2.2.1 M.2.2.2.2.2.2.2.2.2.1 M.2.2.2.2.2.2.2.2.2.2.1 M.2.2.2.2.2.2.2.2.2.2.2.1 M.2.2.2.2.2.2.2.2.2.2.2.2.1 M.2.2.2.2.2.2.2.2.2.2.2.2.2.1 M.2.2.2.2.2.2.2.2.2.2.2.2.2.2.1 M.2.2.2.2.2.2.2.2.2.2.2.2.2.2.2.1 M.2.2.2.2.2.2.2.2.2.2.2.2.2.2.2.2.1 M.2.2.2.2.2.2.2.2.2.2.2.2.2.2.2.2.2.1 M.2.2.2.2.2.2.2.2.2.2.2.2.2.2.2.2.2.2).flatten) (hS : va_S A s.heap H locs) (hl : lv_has ls 7 [(0, .ref (Am 0)), (1, .int p1), (2, .int p2), (3, .int p3), (4, .int x4), (5, .int v)]) (K1 : ∀ Y, X = .inl Y → ∀ (H : Heap) (locs : List Loc) (ls : Array Slot) (hP : va_P Z.1 vwCl (l_Model Z.2.1 Am M.1 M.2.1 M.2.2.1 M.2.2.2.1 M.2.2.2.2.1 M.2.2.2.2.2.1 M.2.2.2.2.2.2.1 M.2.2.2.2.2.2.2.1 M.2.2.2.2.2.2.2.2.1 M.2.2.2.2.2.2.2.2.2.1 M.2.2.2.2.2.2.2.2.2.2.1 M.2.2.2.2.2.2.2.2.2.2.2.1 M.2.2.2.2.2.2.2.2.2.2.2.2.1 M.2.2.2.2.2.2.2.2.2.2.2.2.2.1 M.2.2.2.2.2.2.2.2.2.2.2.2.2.2.1 M.2.2.2.2.2.2.2.2.2.2.2.2.2.2.2.1 M.2.2.2.2.2.2.2.2.2.2.2.2.2.2.2.2.1 M.2.2.2.2.2.2.2.2.2.2.2.2.2.2.2.2.2.1 M.2.2.2.2.2.2.2.2.2.2.2.2.2.2.2.2.2.2).flatten H) (hD : va_D A (l_Model Z.2.1 Am M.1 M.2.1 M.2.2.1 M.2.2.2.1 M.2.2.2.2.1 M.2.2.2.2.2.1 M.2.2.2.2.2.2.1 M.2.2.2.2.2.2.2.1 M.2.2.2.2.2.2.2.2.1 M.2.2.2.2.2.2.2.2.2.1 M.2.2.2.2.2.2.2.2.2.2.1 M.2.2.2.2.2.2.2.2.2.2.2.1 M.2.2.2.2.2.2.2.2.2.2.2.2.1 M.2.2.2.2.2.2.2.2.2.2.2.2.2.1 M.2.2.2.2.2.2.2.2.2.2.2.2.2.2.1 M.2.2.2.2.2.2.2.2.2.2.2.2.2.2.2.1 M.2.2.2.2.2.2.2.2.2.2.2.2.2.2.2.2.1 M.2.2.2.2.2.2.2.2.2.2.2.2.2.2.2.2.2.1 M.2.2.2.2.2.2.2.2.2.2.2.2.2.2.2.2.2.2).flatten) (hS : va_S A s.heap H locs) (hl : lv_has ls 7 [(0, .ref (Am 0)), (1, .int p1), (2, .int p2), (3, .int p3)]), W p l e rm_X7_find s m ([.ref (Am 0), .int p1, .int p2, .int p3] : List Value).toArray below meth c H locs 0 0 Q (F0 m 70 ls [])) (K2 : ∀ Y, X = .inr Y → ∀ (H : Heap) (locs : List Loc) (ls : Array Slot) (hP : va_P Z.1 vwCl (l_Model Z.2.1 Am Y.2.1 Y.2.2.1 Y.2.2.2.1 Y.2.2.2.2.1 Y.2.2.2.2.2.1 Y.2.2.2.2.2.2.1 Y.2.2.2.2.2.2.2.1 Y.2.2.2.2.2.2.2.2.1 Y.2.2.2.2.2.2.2.2.2.1 Y.2.2.2.2.2.2.2.2.2.2.1 Y.2.2.2.2.2.2.2.2.2.2.2.1 Y.2.2.2.2.2.2.2.2.2.2.2.2.1 Y.2.2.2.2.2.2.2.2.2.2.2.2.2.1 Y.2.2.2.2.2.2.2.2.2.2.2.2.2.2.1 Y.2.2.2.2.2.2.2.2.2.2.2.2.2.2.2.1 Y.2.2.2.2.2.2.2.2.2.2.2.2.2.2.2.2.1 Y.2.2.2.2.2.2.2.2.2.2.2.2.2.2.2.2.2.1 Y.2.2.2.2.2.2.2.2.2.2.2.2.2.2.2.2.2.2.1 Y.2.2.2.2.2.2.2.2.2.2.2.2.2.2.2.2.2.2.2).flatten H) (hD : va_D A (l_Model Z.2.1 Am Y.2.1 Y.2.2.1 Y.2.2.2.1 Y.2.2.2.2.1 Y.2.2.2.2.2.1 Y.2.2.2.2.2.2.1 Y.2.2.2.2.2.2.2.1 Y.2.2.2.2.2.2.2.2.1 Y.2.2.2.2.2.2.2.2.2.1 Y.2.2.2.2.2.2.2.2.2.2.1 Y.2.2.2.2.2.2.2.2.2.2.2.1 Y.2.2.2.2.2.2.2.2.2.2.2.2.1 Y.2.2.2.2.2.2.2.2.2.2.2.2.2.1 Y.2.2.2.2.2.2.2.2.2.2.2.2.2.2.1 Y.2.2.2.2.2.2.2.2.2.2.2.2.2.2.2.1 Y.2.2.2.2.2.2.2.2.2.2.2.2.2.2.2.2.1 Y.2.2.2.2.2.2.2.2.2.2.2.2.2.2.2.2.2.1 Y.2.2.2.2.2.2.2.2.2.2.2.2.2.2.2.2.2.2.1 Y.2.2.2.2.2.2.2.2.2.2.2.2.2.2.2.2.2.2.2).flatten) (hS : va_S A s.heap H locs), W p l e rm_X7_find s m ([.ref (Am 0), .int p1, .int p2, .int p3] : List Value).toArray below meth c H locs 0 0 Q (F0 m 63 ls [.int Y.1])), W p l e rm_X7_find s m ([.ref (Am 0), .int p1, .int p2, .int p3] : List Value).toArray below meth c H locs 0 0 Q (F0 m 9 ls []) := by
    intro M x4
    refine z_loopE (fun rec ih v X hF H locs ls hP hD hS hl K1 K2 => ?_)
    unfold b_X7_find_9 at hF
    refine lv_iload hx hb (z_d hX7_find_0 5 rfl) (lv_at hl 5 rfl) ?_
    refine lv_iload hx hb (z_d hX7_find_0 6 rfl) (lv_at hl 4 rfl) ?_
    refine lv_icmp_ge (tgt := 70) hx hb (z_d hX7_find_0 7 rfl) (by decide) (fun hc13 => ?_) (fun hc13 => ?_)
    · have hF := z_pos hc13 hF
      obtain rfl := Option.some.inj hF
      exact K1 _ rfl _ _ ls hP hD hS (lv_sub hl [0, 1, 2, 3] rfl)
    · have hF := z_neg hc13 hF
      refine lv_aload_n hx hb (z_d hX7_find_0 8 rfl) rfl (lv_at hl 0 rfl) ?_
      refine lv_iload hx hb (z_d hX7_find_0 9 rfl) (lv_at hl 5 rfl) ?_
      refine z_bnd hF (fun q2 hq2 hF => ?_)
      refine z_ro_i (z_rV (As := [.int v]) (rest := []) hx hb hml hown hts vt_X7_headingOf (c_X7_headingOf l Z Am M v _ hq2) rfl rfl ⟨Nat.le_of_ble_eq_true rfl, Nat.le_of_ble_eq_true rfl⟩ k_m_X7_161 zPro_blind (z_recv (q := (RX7, TX7, 19)) (ci := 7) (q0 := 0) hK (zP_reg hP 0 rfl) rfl rfl) (z_prec hK hP) rfl hl.1 (Nat.le_of_ble_eq_true rfl) (z_d hX7_find_0 10 rfl) ⟨Nat.zero_le _, Nat.zero_le _⟩) hS hP (fun H locs hP hS => ?_)
      refine lv_istore (lv' := [(6, .int q2), (0, .ref (Am 0)), (1, .int p1), (2, .int p2), (3, .int p3), (4, .int x4), (5, .int v)]) hx hb (z_d hX7_find_0 11 rfl) hl (by decide) rfl (fun ls hl => ?_)
      refine lv_aload_n hx hb (z_d hX7_find_0 12 rfl) rfl (lv_at hl 1 rfl) ?_
      refine lv_iload hx hb (z_d hX7_find_0 13 rfl) (lv_at hl 0 rfl) ?_
      refine lv_iconst (v := 0) hx hb (z_d hX7_find_0 14 rfl) (by decide) ?_
      refine z_bnd hF (fun q3 hq3 hF => ?_)
      refine z_ro_i (z_rV (As := [.int q2, .int 0]) (rest := []) hx hb hml hown hts vt_X7_label (c_X7_label l Z Am M q2 0 _ hq3) rfl rfl ⟨Nat.le_of_ble_eq_true rfl, Nat.le_of_ble_eq_true rfl⟩ k_m_X7_91 zPro_blind (z_recv (q := (RX7, TX7, 19)) (ci := 7) (q0 := 0) hK (zP_reg hP 0 rfl) rfl rfl) (z_prec hK hP) rfl hl.1 (Nat.le_of_ble_eq_true rfl) (z_d hX7_find_0 15 rfl) ⟨Nat.zero_le _, Nat.zero_le _⟩) hS hP (fun H locs hP hS => ?_)
      refine lv_iload_n hx hb (z_d hX7_find_0 16 rfl) rfl (lv_at hl 2 rfl) ?_
      refine lv_icmp_ne (tgt := 64) hx hb (z_d hX7_find_0 17 rfl) (by decide) (fun hc32 => ?_) (fun hc32 => ?_)
      · have hF := z_neg hc32 hF
        refine z_let hF (fun u4 hu4 hF => ?_)
        refine lv_iinc (v := u4) (lv' := [(5, .int u4), (6, .int q2), (0, .ref (Am 0)), (1, .int p1), (2, .int p2), (3, .int p3), (4, .int x4)]) hx hb (z_d hX7_find_0 34 rfl) hl (k := 6) rfl (z_inc1 hu4) (by decide) rfl (fun ls hl => ?_)
        refine lv_goto (tgt := 9) hx hb (z_d hX7_find_0 35 rfl) (by decide) ?_
        exact ih _ _ hF _ _ ls hP hD hS (lv_sub hl [2, 3, 4, 5, 6, 0] rfl) K1 K2
      · have hF := z_pos hc32 hF
        refine lv_aload_n hx hb (z_d hX7_find_0 18 rfl) rfl (lv_at hl 1 rfl) ?_
        refine lv_iload hx hb (z_d hX7_find_0 19 rfl) (lv_at hl 0 rfl) ?_
        refine lv_iconst (v := 1) hx hb (z_d hX7_find_0 20 rfl) (by decide) ?_
        refine z_bnd hF (fun q5 hq5 hF => ?_)
        refine z_ro_i (z_rV (As := [.int q2, .int 1]) (rest := []) hx hb hml hown hts vt_X7_label (c_X7_label l Z Am M q2 1 _ hq5) rfl rfl ⟨Nat.le_of_ble_eq_true rfl, Nat.le_of_ble_eq_true rfl⟩ k_m_X7_91 zPro_blind (z_recv (q := (RX7, TX7, 19)) (ci := 7) (q0 := 0) hK (zP_reg hP 0 rfl) rfl rfl) (z_prec hK hP) rfl hl.1 (Nat.le_of_ble_eq_true rfl) (z_d hX7_find_0 21 rfl) ⟨Nat.zero_le _, Nat.zero_le _⟩) hS hP (fun H locs hP hS => ?_)
        refine lv_iload_n hx hb (z_d hX7_find_0 22 rfl) rfl (lv_at hl 3 rfl) ?_
        refine lv_icmp_ne (tgt := 64) hx hb (z_d hX7_find_0 23 rfl) (by decide) (fun hc43 => ?_) (fun hc43 => ?_)
        · have hF := z_neg hc43 hF
          refine z_let hF (fun u6 hu6 hF => ?_)
          refine lv_iinc (v := u6) (lv' := [(5, .int u6), (6, .int q2), (0, .ref (Am 0)), (1, .int p1), (2, .int p2), (3, .int p3), (4, .int x4)]) hx hb (z_d hX7_find_0 34 rfl) hl (k := 6) rfl (z_inc1 hu6) (by decide) rfl (fun ls hl => ?_)
          refine lv_goto (tgt := 9) hx hb (z_d hX7_find_0 35 rfl) (by decide) ?_
          exact ih _ _ hF _ _ ls hP hD hS (lv_sub hl [2, 3, 4, 5, 6, 0] rfl) K1 K2
        · have hF := z_pos hc43 hF
          refine lv_aload_n hx hb (z_d hX7_find_0 24 rfl) rfl (lv_at hl 1 rfl) ?_
          refine lv_iload hx hb (z_d hX7_find_0 25 rfl) (lv_at hl 0 rfl) ?_
          refine lv_iconst (v := 2) hx hb (z_d hX7_find_0 26 rfl) (by decide) ?_
          refine z_bnd hF (fun q7 hq7 hF => ?_)
          refine z_ro_i (z_rV (As := [.int q2, .int 2]) (rest := []) hx hb hml hown hts vt_X7_label (c_X7_label l Z Am M q2 2 _ hq7) rfl rfl ⟨Nat.le_of_ble_eq_true rfl, Nat.le_of_ble_eq_true rfl⟩ k_m_X7_91 zPro_blind (z_recv (q := (RX7, TX7, 19)) (ci := 7) (q0 := 0) hK (zP_reg hP 0 rfl) rfl rfl) (z_prec hK hP) rfl hl.1 (Nat.le_of_ble_eq_true rfl) (z_d hX7_find_0 27 rfl) ⟨Nat.zero_le _, Nat.zero_le _⟩) hS hP (fun H locs hP hS => ?_)
          refine lv_iload_n hx hb (z_d hX7_find_0 28 rfl) rfl (lv_at hl 4 rfl) ?_
          refine lv_icmp_ne (tgt := 64) hx hb (z_d hX7_find_0 29 rfl) (by decide) (fun hc54 => ?_) (fun hc54 => ?_)
          · have hF := z_neg hc54 hF
            refine z_let hF (fun u8 hu8 hF => ?_)
            refine lv_iinc (v := u8) (lv' := [(5, .int u8), (6, .int q2), (0, .ref (Am 0)), (1, .int p1), (2, .int p2), (3, .int p3), (4, .int x4)]) hx hb (z_d hX7_find_0 34 rfl) hl (k := 6) rfl (z_inc1 hu8) (by decide) rfl (fun ls hl => ?_)
            refine lv_goto (tgt := 9) hx hb (z_d hX7_find_0 35 rfl) (by decide) ?_
            exact ih _ _ hF _ _ ls hP hD hS (lv_sub hl [2, 3, 4, 5, 6, 0] rfl) K1 K2
          · have hF := z_pos hc54 hF
            refine lv_aload_n hx hb (z_d hX7_find_0 30 rfl) rfl (lv_at hl 1 rfl) ?_
            refine lv_iload hx hb (z_d hX7_find_0 31 rfl) (lv_at hl 6 rfl) ?_
            refine z_let hF (fun q9 hq9 hF => ?_)
            refine z_mu0 (z_rV (As := [.int v]) (rest := []) hx hb hml hown hts vt_X7_tells (c_X7_tells l Z Am M v _ hq9) rfl rfl ⟨Nat.le_of_ble_eq_true rfl, Nat.le_of_ble_eq_true rfl⟩ k_m_X7_54 zPmu_blind (z_recv (q := (RX7, TX7, 19)) (ci := 7) (q0 := 0) hK (zP_reg hP 0 rfl) rfl rfl) (z_prem hK hP hD) rfl hl.1 (Nat.le_of_ble_eq_true rfl) (z_d hX7_find_0 32 rfl) ⟨Nat.zero_le _, Nat.zero_le _⟩) hS hD (adr_Model _ _ _ _) (fun H locs hP hD hS => ?_)
            have hP : va_P Z.1 vwCl (l_Model Z.2.1 Am q9.2.1 q9.2.2.1 q9.2.2.2.1 q9.2.2.2.2.1 q9.2.2.2.2.2.1 q9.2.2.2.2.2.2.1 q9.2.2.2.2.2.2.2.1 q9.2.2.2.2.2.2.2.2.1 q9.2.2.2.2.2.2.2.2.2.1 q9.2.2.2.2.2.2.2.2.2.2.1 q9.2.2.2.2.2.2.2.2.2.2.2.1 q9.2.2.2.2.2.2.2.2.2.2.2.2.1 q9.2.2.2.2.2.2.2.2.2.2.2.2.2.1 q9.2.2.2.2.2.2.2.2.2.2.2.2.2.2.1 q9.2.2.2.2.2.2.2.2.2.2.2.2.2.2.2.1 q9.2.2.2.2.2.2.2.2.2.2.2.2.2.2.2.2.1 q9.2.2.2.2.2.2.2.2.2.2.2.2.2.2.2.2.2.1 q9.2.2.2.2.2.2.2.2.2.2.2.2.2.2.2.2.2.2.1 q9.2.2.2.2.2.2.2.2.2.2.2.2.2.2.2.2.2.2.2).flatten H := hP
            have hD : va_D A (l_Model Z.2.1 Am q9.2.1 q9.2.2.1 q9.2.2.2.1 q9.2.2.2.2.1 q9.2.2.2.2.2.1 q9.2.2.2.2.2.2.1 q9.2.2.2.2.2.2.2.1 q9.2.2.2.2.2.2.2.2.1 q9.2.2.2.2.2.2.2.2.2.1 q9.2.2.2.2.2.2.2.2.2.2.1 q9.2.2.2.2.2.2.2.2.2.2.2.1 q9.2.2.2.2.2.2.2.2.2.2.2.2.1 q9.2.2.2.2.2.2.2.2.2.2.2.2.2.1 q9.2.2.2.2.2.2.2.2.2.2.2.2.2.2.1 q9.2.2.2.2.2.2.2.2.2.2.2.2.2.2.2.1 q9.2.2.2.2.2.2.2.2.2.2.2.2.2.2.2.2.1 q9.2.2.2.2.2.2.2.2.2.2.2.2.2.2.2.2.2.1 q9.2.2.2.2.2.2.2.2.2.2.2.2.2.2.2.2.2.2.1 q9.2.2.2.2.2.2.2.2.2.2.2.2.2.2.2.2.2.2.2).flatten := hD
            refine W.eq (g2 := F0 m 63 ls [.int q9.1]) rfl ?_
            obtain rfl := Option.some.inj hF
            exact (K2 _ rfl _ _ ls hP hD hS)
  refine lv_aload_n hx hb (z_d hX7_find_0 0 rfl) rfl (lv_at hl 0 rfl) ?_
  refine z_bnd hF (fun q1 hq1 hF => ?_)
  refine z_ro_i (z_rV (As := []) (rest := []) hx hb hml hown hts vt_X7_sceneMany (c_X7_sceneMany l Z Am M _ hq1) rfl rfl ⟨Nat.le_of_ble_eq_true rfl, Nat.le_of_ble_eq_true rfl⟩ k_m_X7_158 zPro_blind (z_recv (q := (RX7, TX7, 19)) (ci := 7) (q0 := 0) hK (zP_reg hP 0 rfl) rfl rfl) (z_prec hK hP) rfl hl.1 (Nat.le_of_ble_eq_true rfl) (z_d hX7_find_0 1 rfl) ⟨Nat.zero_le _, Nat.zero_le _⟩) hS hP (fun H locs hP hS => ?_)
  refine lv_istore (lv' := [(4, .int q1), (0, .ref (Am 0)), (1, .int p1), (2, .int p2), (3, .int p3)]) hx hb (z_d hX7_find_0 2 rfl) hl (by decide) rfl (fun ls hl => ?_)
  refine lv_iconst (v := 0) hx hb (z_d hX7_find_0 3 rfl) (by decide) ?_
  refine lv_istore (lv' := [(5, .int 0), (4, .int q1), (0, .ref (Am 0)), (1, .int p1), (2, .int p2), (3, .int p3)]) hx hb (z_d hX7_find_0 4 rfl) hl (by decide) rfl (fun ls hl => ?_)
  refine z_bnd hF (fun q10 hq10 hF => ?_)
  refine L9 M q1 _ _ _ hq10 _ _ ls hP hD hS (lv_sub hl [2, 3, 4, 5, 1, 0] rfl) (fun y11 e9 H locs ls hP hD hS hl => ?_) (fun r e9 H locs ls hP hD hS => ?_)
  · subst e9
    have hF := z_inl hF
    refine lv_aload_n hx hb (z_d hX7_find_0 36 rfl) rfl (lv_at hl 0 rfl) ?_
    refine lv_iconst (v := (-1)) hx hb (z_d hX7_find_0 37 rfl) (by decide) ?_
    refine z_let hF (fun q12 hq12 hF => ?_)
    refine z_mu0 (z_rV (As := [.int (-1)]) (rest := []) hx hb hml hown hts vt_X7_tells (c_X7_tells l Z Am M (-1) _ hq12) rfl rfl ⟨Nat.le_of_ble_eq_true rfl, Nat.le_of_ble_eq_true rfl⟩ k_m_X7_54 zPmu_blind (z_recv (q := (RX7, TX7, 19)) (ci := 7) (q0 := 0) hK (zP_reg hP 0 rfl) rfl rfl) (z_prem hK hP hD) rfl hl.1 (Nat.le_of_ble_eq_true rfl) (z_d hX7_find_0 38 rfl) ⟨Nat.zero_le _, Nat.zero_le _⟩) hS hD (adr_Model _ _ _ _) (fun H locs hP hD hS => ?_)
    have hP : va_P Z.1 vwCl (l_Model Z.2.1 Am q12.2.1 q12.2.2.1 q12.2.2.2.1 q12.2.2.2.2.1 q12.2.2.2.2.2.1 q12.2.2.2.2.2.2.1 q12.2.2.2.2.2.2.2.1 q12.2.2.2.2.2.2.2.2.1 q12.2.2.2.2.2.2.2.2.2.1 q12.2.2.2.2.2.2.2.2.2.2.1 q12.2.2.2.2.2.2.2.2.2.2.2.1 q12.2.2.2.2.2.2.2.2.2.2.2.2.1 q12.2.2.2.2.2.2.2.2.2.2.2.2.2.1 q12.2.2.2.2.2.2.2.2.2.2.2.2.2.2.1 q12.2.2.2.2.2.2.2.2.2.2.2.2.2.2.2.1 q12.2.2.2.2.2.2.2.2.2.2.2.2.2.2.2.2.1 q12.2.2.2.2.2.2.2.2.2.2.2.2.2.2.2.2.2.1 q12.2.2.2.2.2.2.2.2.2.2.2.2.2.2.2.2.2.2.1 q12.2.2.2.2.2.2.2.2.2.2.2.2.2.2.2.2.2.2.2).flatten H := hP
    have hD : va_D A (l_Model Z.2.1 Am q12.2.1 q12.2.2.1 q12.2.2.2.1 q12.2.2.2.2.1 q12.2.2.2.2.2.1 q12.2.2.2.2.2.2.1 q12.2.2.2.2.2.2.2.1 q12.2.2.2.2.2.2.2.2.1 q12.2.2.2.2.2.2.2.2.2.1 q12.2.2.2.2.2.2.2.2.2.2.1 q12.2.2.2.2.2.2.2.2.2.2.2.1 q12.2.2.2.2.2.2.2.2.2.2.2.2.1 q12.2.2.2.2.2.2.2.2.2.2.2.2.2.1 q12.2.2.2.2.2.2.2.2.2.2.2.2.2.2.1 q12.2.2.2.2.2.2.2.2.2.2.2.2.2.2.2.1 q12.2.2.2.2.2.2.2.2.2.2.2.2.2.2.2.2.1 q12.2.2.2.2.2.2.2.2.2.2.2.2.2.2.2.2.2.1 q12.2.2.2.2.2.2.2.2.2.2.2.2.2.2.2.2.2.2.1 q12.2.2.2.2.2.2.2.2.2.2.2.2.2.2.2.2.2.2.2).flatten := hD
    refine W.eq (g2 := F0 m 75 ls [.int q12.1]) rfl ?_
    obtain rfl := Option.some.inj hF
    subst hQ
    subst hA
    exact W.iret hx hb hr (fun t ht hW => zq_mu (by rw [ht]; exact hP) (hS.F ht)) hS.2.2 (z_d hX7_find_0 39 rfl)
  · subst e9
    have hF := z_inr hF
    obtain rfl := Option.some.inj hF
    subst hQ
    subst hA
    exact W.iret hx hb hr (fun t ht hW => zq_mu (by rw [ht]; exact hP) (hS.F ht)) hS.2.2 (z_d hX7_find_0 33 rfl)
def rm_X7_names : Room := { frames := 5, cells := 0, slots := 0, locals := 113 }
set_option maxRecDepth 100000 in
set_option maxHeartbeats 4000000 in
theorem c_X7_names (l : Launch) (Z : zZ) (Am : Nat → Nat) (M : t_Model) (p1 : Int32) (p2 : Int32) (R : Int32 × t_Model) (hF : X7_names M p1 p2 = some R) : zMU l yX7_names (zw yX7_names cX7_names 3 (some .int)) rm_X7_names Z [.ref (Am 0), .int p1, .int p2] (w_Model Z.2.1 Am M) (w_Model Z.2.1 Am R.2) (some (.int R.1)) := by
  refine zMU_of (by decide) (Nat.le_of_ble_eq_true rfl) (fun p e s m below meth c hx hb hr hml hown hts hlocks hK A hA Q hQ ls hl hP hD hS => ?_)
  unfold X7_names at hF
  have hl : lv_has ls 3 [(0, .ref (Am 0)), (1, .int p1), (2, .int p2)] := hl
  have hown : s.vm.findClass RX7 = some m.cls := hown
  have hP : va_P Z.1 vwCl (l_Model Z.2.1 Am M.1 M.2.1 M.2.2.1 M.2.2.2.1 M.2.2.2.2.1 M.2.2.2.2.2.1 M.2.2.2.2.2.2.1 M.2.2.2.2.2.2.2.1 M.2.2.2.2.2.2.2.2.1 M.2.2.2.2.2.2.2.2.2.1 M.2.2.2.2.2.2.2.2.2.2.1 M.2.2.2.2.2.2.2.2.2.2.2.1 M.2.2.2.2.2.2.2.2.2.2.2.2.1 M.2.2.2.2.2.2.2.2.2.2.2.2.2.1 M.2.2.2.2.2.2.2.2.2.2.2.2.2.2.1 M.2.2.2.2.2.2.2.2.2.2.2.2.2.2.2.1 M.2.2.2.2.2.2.2.2.2.2.2.2.2.2.2.2.1 M.2.2.2.2.2.2.2.2.2.2.2.2.2.2.2.2.2.1 M.2.2.2.2.2.2.2.2.2.2.2.2.2.2.2.2.2.2).flatten s.heap := hP
  have hD : va_D A (l_Model Z.2.1 Am M.1 M.2.1 M.2.2.1 M.2.2.2.1 M.2.2.2.2.1 M.2.2.2.2.2.1 M.2.2.2.2.2.2.1 M.2.2.2.2.2.2.2.1 M.2.2.2.2.2.2.2.2.1 M.2.2.2.2.2.2.2.2.2.1 M.2.2.2.2.2.2.2.2.2.2.1 M.2.2.2.2.2.2.2.2.2.2.2.1 M.2.2.2.2.2.2.2.2.2.2.2.2.1 M.2.2.2.2.2.2.2.2.2.2.2.2.2.1 M.2.2.2.2.2.2.2.2.2.2.2.2.2.2.1 M.2.2.2.2.2.2.2.2.2.2.2.2.2.2.2.1 M.2.2.2.2.2.2.2.2.2.2.2.2.2.2.2.2.1 M.2.2.2.2.2.2.2.2.2.2.2.2.2.2.2.2.2.1 M.2.2.2.2.2.2.2.2.2.2.2.2.2.2.2.2.2.2).flatten := hD
  refine lv_iload_n hx hb (z_d hX7_names_0 0 rfl) rfl (lv_at hl 1 rfl) ?_
  refine lv_iconst (v := 0) hx hb (z_d hX7_names_0 1 rfl) (by decide) ?_
  refine lv_bipush (v := 9) hx hb (z_d hX7_names_0 2 rfl) (by decide) ?_
  refine z_let hF (fun q1 hq1 hF => ?_)
  refine z_ro_i (z_rS (As := [.int p1, .int 0, .int 9]) (rest := []) hx hb hml hown hts vs_X7_in (c_X7_in l Z p1 0 9 _ hq1) rfl rfl ⟨Nat.le_of_ble_eq_true rfl, Nat.le_of_ble_eq_true rfl⟩ k_m_X7_58 zPro_blind (z_prec hK zP_nil) rfl hl.1 (Nat.le_of_ble_eq_true rfl) (z_d hX7_names_0 3 rfl) ⟨Nat.zero_le _, Nat.zero_le _⟩) hS hP (fun H locs hP hS => ?_)
  refine lv_if_eq (tgt := 23) hx hb (z_d hX7_names_0 4 rfl) (by decide) (fun hc7 => ?_) (fun hc7 => ?_)
  · have hF := z_pos hc7 hF
    refine lv_aload_n hx hb (z_d hX7_names_0 12 rfl) rfl (lv_at hl 0 rfl) ?_
    refine lv_iconst (v := 1) hx hb (z_d hX7_names_0 13 rfl) (by decide) ?_
    refine z_let hF (fun q2 hq2 hF => ?_)
    refine z_mu0 (z_rV (As := [.int 1]) (rest := []) hx hb hml hown hts vt_X7_fails (c_X7_fails l Z Am M 1 _ hq2) rfl rfl ⟨Nat.le_of_ble_eq_true rfl, Nat.le_of_ble_eq_true rfl⟩ k_m_X7_129 zPmu_blind (z_recv (q := (RX7, TX7, 19)) (ci := 7) (q0 := 0) hK (zP_reg hP 0 rfl) rfl rfl) (z_prem hK hP hD) rfl hl.1 (Nat.le_of_ble_eq_true rfl) (z_d hX7_names_0 14 rfl) ⟨Nat.zero_le _, Nat.zero_le _⟩) hS hD (adr_Model _ _ _ _) (fun H locs hP hD hS => ?_)
    have hP : va_P Z.1 vwCl (l_Model Z.2.1 Am q2.2.1 q2.2.2.1 q2.2.2.2.1 q2.2.2.2.2.1 q2.2.2.2.2.2.1 q2.2.2.2.2.2.2.1 q2.2.2.2.2.2.2.2.1 q2.2.2.2.2.2.2.2.2.1 q2.2.2.2.2.2.2.2.2.2.1 q2.2.2.2.2.2.2.2.2.2.2.1 q2.2.2.2.2.2.2.2.2.2.2.2.1 q2.2.2.2.2.2.2.2.2.2.2.2.2.1 q2.2.2.2.2.2.2.2.2.2.2.2.2.2.1 q2.2.2.2.2.2.2.2.2.2.2.2.2.2.2.1 q2.2.2.2.2.2.2.2.2.2.2.2.2.2.2.2.1 q2.2.2.2.2.2.2.2.2.2.2.2.2.2.2.2.2.1 q2.2.2.2.2.2.2.2.2.2.2.2.2.2.2.2.2.2.1 q2.2.2.2.2.2.2.2.2.2.2.2.2.2.2.2.2.2.2.1 q2.2.2.2.2.2.2.2.2.2.2.2.2.2.2.2.2.2.2.2).flatten H := hP
    have hD : va_D A (l_Model Z.2.1 Am q2.2.1 q2.2.2.1 q2.2.2.2.1 q2.2.2.2.2.1 q2.2.2.2.2.2.1 q2.2.2.2.2.2.2.1 q2.2.2.2.2.2.2.2.1 q2.2.2.2.2.2.2.2.2.1 q2.2.2.2.2.2.2.2.2.2.1 q2.2.2.2.2.2.2.2.2.2.2.1 q2.2.2.2.2.2.2.2.2.2.2.2.1 q2.2.2.2.2.2.2.2.2.2.2.2.2.1 q2.2.2.2.2.2.2.2.2.2.2.2.2.2.1 q2.2.2.2.2.2.2.2.2.2.2.2.2.2.2.1 q2.2.2.2.2.2.2.2.2.2.2.2.2.2.2.2.1 q2.2.2.2.2.2.2.2.2.2.2.2.2.2.2.2.2.1 q2.2.2.2.2.2.2.2.2.2.2.2.2.2.2.2.2.2.1 q2.2.2.2.2.2.2.2.2.2.2.2.2.2.2.2.2.2.2.1 q2.2.2.2.2.2.2.2.2.2.2.2.2.2.2.2.2.2.2.2).flatten := hD
    refine W.eq (g2 := F0 m 28 ls [.int q2.1]) rfl ?_
    obtain rfl := Option.some.inj hF
    subst hQ
    subst hA
    exact W.iret hx hb hr (fun t ht hW => zq_mu (by rw [ht]; exact hP) (hS.F ht)) hS.2.2 (z_d hX7_names_0 15 rfl)
  · have hF := z_neg hc7 hF
    refine lv_aload_n hx hb (z_d hX7_names_0 5 rfl) rfl (lv_at hl 0 rfl) ?_
    refine lv_aload_n hx hb (z_d hX7_names_0 6 rfl) rfl (lv_at hl 0 rfl) ?_
    refine lv_iload_n hx hb (z_d hX7_names_0 7 rfl) rfl (lv_at hl 1 rfl) ?_
    refine lv_iload_n hx hb (z_d hX7_names_0 8 rfl) rfl (lv_at hl 2 rfl) ?_
    refine z_bnd hF (fun q3 hq3 hF => ?_)
    refine z_ro_i (z_rV (As := [.int p1, .int p2]) (rest := [.ref (Am 0)]) hx hb hml hown hts vt_X7_namesOf (c_X7_namesOf l Z Am M p1 p2 _ hq3) rfl rfl ⟨Nat.le_of_ble_eq_true rfl, Nat.le_of_ble_eq_true rfl⟩ k_m_X7_170 zPro_blind (z_recv (q := (RX7, TX7, 19)) (ci := 7) (q0 := 0) hK (zP_reg hP 0 rfl) rfl rfl) (z_prec hK hP) rfl hl.1 (Nat.le_of_ble_eq_true rfl) (z_d hX7_names_0 9 rfl) ⟨Nat.zero_le _, Nat.zero_le _⟩) hS hP (fun H locs hP hS => ?_)
    refine z_let hF (fun q4 hq4 hF => ?_)
    refine z_mu0 (z_rV (As := [.int q3]) (rest := []) hx hb hml hown hts vt_X7_tells (c_X7_tells l Z Am M q3 _ hq4) rfl rfl ⟨Nat.le_of_ble_eq_true rfl, Nat.le_of_ble_eq_true rfl⟩ k_m_X7_54 zPmu_blind (z_recv (q := (RX7, TX7, 19)) (ci := 7) (q0 := 0) hK (zP_reg hP 0 rfl) rfl rfl) (z_prem hK hP hD) rfl hl.1 (Nat.le_of_ble_eq_true rfl) (z_d hX7_names_0 10 rfl) ⟨Nat.zero_le _, Nat.zero_le _⟩) hS hD (adr_Model _ _ _ _) (fun H locs hP hD hS => ?_)
    have hP : va_P Z.1 vwCl (l_Model Z.2.1 Am q4.2.1 q4.2.2.1 q4.2.2.2.1 q4.2.2.2.2.1 q4.2.2.2.2.2.1 q4.2.2.2.2.2.2.1 q4.2.2.2.2.2.2.2.1 q4.2.2.2.2.2.2.2.2.1 q4.2.2.2.2.2.2.2.2.2.1 q4.2.2.2.2.2.2.2.2.2.2.1 q4.2.2.2.2.2.2.2.2.2.2.2.1 q4.2.2.2.2.2.2.2.2.2.2.2.2.1 q4.2.2.2.2.2.2.2.2.2.2.2.2.2.1 q4.2.2.2.2.2.2.2.2.2.2.2.2.2.2.1 q4.2.2.2.2.2.2.2.2.2.2.2.2.2.2.2.1 q4.2.2.2.2.2.2.2.2.2.2.2.2.2.2.2.2.1 q4.2.2.2.2.2.2.2.2.2.2.2.2.2.2.2.2.2.1 q4.2.2.2.2.2.2.2.2.2.2.2.2.2.2.2.2.2.2.1 q4.2.2.2.2.2.2.2.2.2.2.2.2.2.2.2.2.2.2.2).flatten H := hP
    have hD : va_D A (l_Model Z.2.1 Am q4.2.1 q4.2.2.1 q4.2.2.2.1 q4.2.2.2.2.1 q4.2.2.2.2.2.1 q4.2.2.2.2.2.2.1 q4.2.2.2.2.2.2.2.1 q4.2.2.2.2.2.2.2.2.1 q4.2.2.2.2.2.2.2.2.2.1 q4.2.2.2.2.2.2.2.2.2.2.1 q4.2.2.2.2.2.2.2.2.2.2.2.1 q4.2.2.2.2.2.2.2.2.2.2.2.2.1 q4.2.2.2.2.2.2.2.2.2.2.2.2.2.1 q4.2.2.2.2.2.2.2.2.2.2.2.2.2.2.1 q4.2.2.2.2.2.2.2.2.2.2.2.2.2.2.2.1 q4.2.2.2.2.2.2.2.2.2.2.2.2.2.2.2.2.1 q4.2.2.2.2.2.2.2.2.2.2.2.2.2.2.2.2.2.1 q4.2.2.2.2.2.2.2.2.2.2.2.2.2.2.2.2.2.2.1 q4.2.2.2.2.2.2.2.2.2.2.2.2.2.2.2.2.2.2.2).flatten := hD
    refine W.eq (g2 := F0 m 20 ls [.int q4.1]) rfl ?_
    refine lv_goto (tgt := 28) hx hb (z_d hX7_names_0 11 rfl) (by decide) ?_
    obtain rfl := Option.some.inj hF
    subst hQ
    subst hA
    exact W.iret hx hb hr (fun t ht hW => zq_mu (by rw [ht]; exact hP) (hS.F ht)) hS.2.2 (z_d hX7_names_0 15 rfl)

theorem vt_X7_pagesIf : zVt yX7_pagesIf cX7_pagesIf 2 (some .int) 1 := ⟨zG_at 1173 (by decide +kernel) (by decide +kernel), zG_at 67 (by decide +kernel) (by decide +kernel), zG_at 81 (by decide +kernel) (by decide +kernel), zG_at 1174 (by decide +kernel) (by decide +kernel), by decide +kernel⟩
theorem vt_X7_pagesBehind : zVt yX7_pagesBehind cX7_pagesBehind 5 (some .int) 2 := ⟨zG_at 1185 (by decide +kernel) (by decide +kernel), zG_at 68 (by decide +kernel) (by decide +kernel), zG_at 81 (by decide +kernel) (by decide +kernel), zG_at 1186 (by decide +kernel) (by decide +kernel), by decide +kernel⟩
theorem vt_X7_isAt : zVt yX7_isAt cX7_isAt 3 (some .boolean) 2 := ⟨zG_at 1212 (by decide +kernel) (by decide +kernel), zG_at 70 (by decide +kernel) (by decide +kernel), zG_at 81 (by decide +kernel) (by decide +kernel), zG_at 1213 (by decide +kernel) (by decide +kernel), by decide +kernel⟩
theorem vs_X7_kindOf : zSt yX7_kindOf cX7_kindOf 1 (some .int) 1 := ⟨zG_at 1208 (by decide +kernel) (by decide +kernel), zG_at 81 (by decide +kernel) (by decide +kernel), zG_at 1209 (by decide +kernel) (by decide +kernel), by decide +kernel⟩
theorem vt_X7_isNumber : zVt yX7_isNumber cX7_isNumber 3 (some .boolean) 0 := ⟨zG_at 1220 (by decide +kernel) (by decide +kernel), zG_at 72 (by decide +kernel) (by decide +kernel), zG_at 81 (by decide +kernel) (by decide +kernel), zG_at 1221 (by decide +kernel) (by decide +kernel), by decide +kernel⟩
theorem vt_X7_takes : zVt yX7_takes cX7_takes 3 (some .boolean) 1 := ⟨zG_at 1216 (by decide +kernel) (by decide +kernel), zG_at 71 (by decide +kernel) (by decide +kernel), zG_at 81 (by decide +kernel) (by decide +kernel), zG_at 1217 (by decide +kernel) (by decide +kernel), by decide +kernel⟩
theorem vt_X7_isItem : zVt yX7_isItem cX7_isItem 3 (some .boolean) 0 := ⟨zG_at 1205 (by decide +kernel) (by decide +kernel), zG_at 69 (by decide +kernel) (by decide +kernel), zG_at 81 (by decide +kernel) (by decide +kernel), zG_at 1206 (by decide +kernel) (by decide +kernel), by decide +kernel⟩
theorem vt_X7_mix : zVt yX7_mix cX7_mix 2 none 1 := ⟨zG_at 1233 (by decide +kernel) (by decide +kernel), zG_at 73 (by decide +kernel) (by decide +kernel), zG_at 81 (by decide +kernel) (by decide +kernel), zG_at 1234 (by decide +kernel) (by decide +kernel), by decide +kernel⟩
theorem k_m_X7_189 : Cond.methodLink RX7 189 yX7_pagesIf ∈ zG := zG_at 1171 (by decide +kernel) (by decide +kernel)
theorem k_m_X7_192 : Cond.methodLink RX7 192 yX7_pagesBehind ∈ zG := zG_at 1183 (by decide +kernel) (by decide +kernel)
theorem k_f_X7_195 : Cond.fieldLink RX7 195 "ScriptPagesModel" "typed" "I" ∈ zG := zG_at 899 (by decide +kernel) (by decide +kernel)
theorem k_f_X7_19 : Cond.fieldLink RX7 19 "ScriptPagesModel" "text" "[I" ∈ zG := zG_at 898 (by decide +kernel) (by decide +kernel)
theorem k_f_X7_198 : Cond.fieldLink RX7 198 "ScriptPagesModel" "at" "I" ∈ zG := zG_at 910 (by decide +kernel) (by decide +kernel)
theorem k_m_X7_201 : Cond.methodLink RX7 201 yX7_isAt ∈ zG := zG_at 1210 (by decide +kernel) (by decide +kernel)
theorem k_f_X7_204 : Cond.fieldLink RX7 204 "ScriptPagesModel" "number" "I" ∈ zG := zG_at 911 (by decide +kernel) (by decide +kernel)
theorem k_m_X7_207 : Cond.methodLink RX7 207 yX7_kindOf ∈ zG := zG_at 1207 (by decide +kernel) (by decide +kernel)
theorem k_m_X7_213 : Cond.methodLink RX7 213 yX7_isNumber ∈ zG := zG_at 1218 (by decide +kernel) (by decide +kernel)
theorem k_m_X7_210 : Cond.methodLink RX7 210 yX7_takes ∈ zG := zG_at 1214 (by decide +kernel) (by decide +kernel)
theorem k_m_X7_216 : Cond.methodLink RX7 216 yX7_isItem ∈ zG := zG_at 1203 (by decide +kernel) (by decide +kernel)
theorem k_l_X7_219 : Cond.constantLong RX7 219 (31) ∈ zG := zG_at 1235 (by decide +kernel) (by decide +kernel)
theorem k_f_X7_221 : Cond.fieldLink RX7 221 "ScriptPagesModel" "h" "J" ∈ zG := zG_at 912 (by decide +kernel) (by decide +kernel)
theorem k_l_X7_225 : Cond.constantLong RX7 225 (3331) ∈ zG := zG_at 1230 (by decide +kernel) (by decide +kernel)
theorem k_m_X7_227 : Cond.methodLink RX7 227 yX7_mix ∈ zG := zG_at 1231 (by decide +kernel) (by decide +kernel)
def rm_X7_pagesWith : Room := { frames := 7, cells := 0, slots := 0, locals := 162 }
set_option maxRecDepth 100000 in
set_option maxHeartbeats 4000000 in
theorem c_X7_pagesWith (l : Launch) (Z : zZ) (Am : Nat → Nat) (M : t_Model) (p1 : Int32) (R : Int32 × t_Model) (hF : X7_pagesWith M p1 = some R) : zMU l yX7_pagesWith (zw yX7_pagesWith cX7_pagesWith 2 (some .int)) rm_X7_pagesWith Z [.ref (Am 0), .int p1] (w_Model Z.2.1 Am M) (w_Model Z.2.1 Am R.2) (some (.int R.1)) := by
  refine zMU_of (by decide) (Nat.le_of_ble_eq_true rfl) (fun p e s m below meth c hx hb hr hml hown hts hlocks hK A hA Q hQ ls hl hP hD hS => ?_)
  unfold X7_pagesWith at hF
  have hl : lv_has ls 2 [(0, .ref (Am 0)), (1, .int p1)] := hl
  have hown : s.vm.findClass RX7 = some m.cls := hown
  have hP : va_P Z.1 vwCl (l_Model Z.2.1 Am M.1 M.2.1 M.2.2.1 M.2.2.2.1 M.2.2.2.2.1 M.2.2.2.2.2.1 M.2.2.2.2.2.2.1 M.2.2.2.2.2.2.2.1 M.2.2.2.2.2.2.2.2.1 M.2.2.2.2.2.2.2.2.2.1 M.2.2.2.2.2.2.2.2.2.2.1 M.2.2.2.2.2.2.2.2.2.2.2.1 M.2.2.2.2.2.2.2.2.2.2.2.2.1 M.2.2.2.2.2.2.2.2.2.2.2.2.2.1 M.2.2.2.2.2.2.2.2.2.2.2.2.2.2.1 M.2.2.2.2.2.2.2.2.2.2.2.2.2.2.2.1 M.2.2.2.2.2.2.2.2.2.2.2.2.2.2.2.2.1 M.2.2.2.2.2.2.2.2.2.2.2.2.2.2.2.2.2.1 M.2.2.2.2.2.2.2.2.2.2.2.2.2.2.2.2.2.2).flatten s.heap := hP
  have hD : va_D A (l_Model Z.2.1 Am M.1 M.2.1 M.2.2.1 M.2.2.2.1 M.2.2.2.2.1 M.2.2.2.2.2.1 M.2.2.2.2.2.2.1 M.2.2.2.2.2.2.2.1 M.2.2.2.2.2.2.2.2.1 M.2.2.2.2.2.2.2.2.2.1 M.2.2.2.2.2.2.2.2.2.2.1 M.2.2.2.2.2.2.2.2.2.2.2.1 M.2.2.2.2.2.2.2.2.2.2.2.2.1 M.2.2.2.2.2.2.2.2.2.2.2.2.2.1 M.2.2.2.2.2.2.2.2.2.2.2.2.2.2.1 M.2.2.2.2.2.2.2.2.2.2.2.2.2.2.2.1 M.2.2.2.2.2.2.2.2.2.2.2.2.2.2.2.2.1 M.2.2.2.2.2.2.2.2.2.2.2.2.2.2.2.2.2.1 M.2.2.2.2.2.2.2.2.2.2.2.2.2.2.2.2.2.2).flatten := hD
  refine lv_iload_n hx hb (z_d hX7_pagesWith_0 0 rfl) rfl (lv_at hl 1 rfl) ?_
  refine z_let hF (fun q1 hq1 hF => ?_)
  refine z_ro_i (z_rS (As := [.int p1]) (rest := []) hx hb hml hown hts vs_X7_isPage (c_X7_isPage l Z p1 _ hq1) rfl rfl ⟨Nat.le_of_ble_eq_true rfl, Nat.le_of_ble_eq_true rfl⟩ k_m_X7_155 zPro_blind (z_prec hK zP_nil) rfl hl.1 (Nat.le_of_ble_eq_true rfl) (z_d hX7_pagesWith_0 1 rfl) ⟨Nat.zero_le _, Nat.zero_le _⟩) hS hP (fun H locs hP hS => ?_)
  refine lv_if_eq (tgt := 19) hx hb (z_d hX7_pagesWith_0 2 rfl) (by decide) (fun hc4 => ?_) (fun hc4 => ?_)
  · have hF := z_pos hc4 hF
    refine lv_aload_n hx hb (z_d hX7_pagesWith_0 9 rfl) rfl (lv_at hl 0 rfl) ?_
    refine lv_iconst (v := 1) hx hb (z_d hX7_pagesWith_0 10 rfl) (by decide) ?_
    refine z_let hF (fun q2 hq2 hF => ?_)
    refine z_mu0 (z_rV (As := [.int 1]) (rest := []) hx hb hml hown hts vt_X7_fails (c_X7_fails l Z Am M 1 _ hq2) rfl rfl ⟨Nat.le_of_ble_eq_true rfl, Nat.le_of_ble_eq_true rfl⟩ k_m_X7_129 zPmu_blind (z_recv (q := (RX7, TX7, 19)) (ci := 7) (q0 := 0) hK (zP_reg hP 0 rfl) rfl rfl) (z_prem hK hP hD) rfl hl.1 (Nat.le_of_ble_eq_true rfl) (z_d hX7_pagesWith_0 11 rfl) ⟨Nat.zero_le _, Nat.zero_le _⟩) hS hD (adr_Model _ _ _ _) (fun H locs hP hD hS => ?_)
    have hP : va_P Z.1 vwCl (l_Model Z.2.1 Am q2.2.1 q2.2.2.1 q2.2.2.2.1 q2.2.2.2.2.1 q2.2.2.2.2.2.1 q2.2.2.2.2.2.2.1 q2.2.2.2.2.2.2.2.1 q2.2.2.2.2.2.2.2.2.1 q2.2.2.2.2.2.2.2.2.2.1 q2.2.2.2.2.2.2.2.2.2.2.1 q2.2.2.2.2.2.2.2.2.2.2.2.1 q2.2.2.2.2.2.2.2.2.2.2.2.2.1 q2.2.2.2.2.2.2.2.2.2.2.2.2.2.1 q2.2.2.2.2.2.2.2.2.2.2.2.2.2.2.1 q2.2.2.2.2.2.2.2.2.2.2.2.2.2.2.2.1 q2.2.2.2.2.2.2.2.2.2.2.2.2.2.2.2.2.1 q2.2.2.2.2.2.2.2.2.2.2.2.2.2.2.2.2.2.1 q2.2.2.2.2.2.2.2.2.2.2.2.2.2.2.2.2.2.2.1 q2.2.2.2.2.2.2.2.2.2.2.2.2.2.2.2.2.2.2.2).flatten H := hP
    have hD : va_D A (l_Model Z.2.1 Am q2.2.1 q2.2.2.1 q2.2.2.2.1 q2.2.2.2.2.1 q2.2.2.2.2.2.1 q2.2.2.2.2.2.2.1 q2.2.2.2.2.2.2.2.1 q2.2.2.2.2.2.2.2.2.1 q2.2.2.2.2.2.2.2.2.2.1 q2.2.2.2.2.2.2.2.2.2.2.1 q2.2.2.2.2.2.2.2.2.2.2.2.1 q2.2.2.2.2.2.2.2.2.2.2.2.2.1 q2.2.2.2.2.2.2.2.2.2.2.2.2.2.1 q2.2.2.2.2.2.2.2.2.2.2.2.2.2.2.1 q2.2.2.2.2.2.2.2.2.2.2.2.2.2.2.2.1 q2.2.2.2.2.2.2.2.2.2.2.2.2.2.2.2.2.1 q2.2.2.2.2.2.2.2.2.2.2.2.2.2.2.2.2.2.1 q2.2.2.2.2.2.2.2.2.2.2.2.2.2.2.2.2.2.2.1 q2.2.2.2.2.2.2.2.2.2.2.2.2.2.2.2.2.2.2.2).flatten := hD
    refine W.eq (g2 := F0 m 24 ls [.int q2.1]) rfl ?_
    obtain rfl := Option.some.inj hF
    subst hQ
    subst hA
    exact W.iret hx hb hr (fun t ht hW => zq_mu (by rw [ht]; exact hP) (hS.F ht)) hS.2.2 (z_d hX7_pagesWith_0 12 rfl)
  · have hF := z_neg hc4 hF
    refine lv_aload_n hx hb (z_d hX7_pagesWith_0 3 rfl) rfl (lv_at hl 0 rfl) ?_
    refine lv_aload_n hx hb (z_d hX7_pagesWith_0 4 rfl) rfl (lv_at hl 0 rfl) ?_
    refine lv_iload_n hx hb (z_d hX7_pagesWith_0 5 rfl) rfl (lv_at hl 1 rfl) ?_
    refine z_bnd hF (fun q3 hq3 hF => ?_)
    refine z_mu0 (z_rV (As := [.int p1]) (rest := [.ref (Am 0)]) hx hb hml hown hts vt_X7_pagesIf (c_X7_pagesIf l Z Am M p1 _ hq3) rfl rfl ⟨Nat.le_of_ble_eq_true rfl, Nat.le_of_ble_eq_true rfl⟩ k_m_X7_189 zPmu_blind (z_recv (q := (RX7, TX7, 19)) (ci := 7) (q0 := 0) hK (zP_reg hP 0 rfl) rfl rfl) (z_prem hK hP hD) rfl hl.1 (Nat.le_of_ble_eq_true rfl) (z_d hX7_pagesWith_0 6 rfl) ⟨Nat.zero_le _, Nat.zero_le _⟩) hS hD (adr_Model _ _ _ _) (fun H locs hP hD hS => ?_)
    have hP : va_P Z.1 vwCl (l_Model Z.2.1 Am q3.2.1 q3.2.2.1 q3.2.2.2.1 q3.2.2.2.2.1 q3.2.2.2.2.2.1 q3.2.2.2.2.2.2.1 q3.2.2.2.2.2.2.2.1 q3.2.2.2.2.2.2.2.2.1 q3.2.2.2.2.2.2.2.2.2.1 q3.2.2.2.2.2.2.2.2.2.2.1 q3.2.2.2.2.2.2.2.2.2.2.2.1 q3.2.2.2.2.2.2.2.2.2.2.2.2.1 q3.2.2.2.2.2.2.2.2.2.2.2.2.2.1 q3.2.2.2.2.2.2.2.2.2.2.2.2.2.2.1 q3.2.2.2.2.2.2.2.2.2.2.2.2.2.2.2.1 q3.2.2.2.2.2.2.2.2.2.2.2.2.2.2.2.2.1 q3.2.2.2.2.2.2.2.2.2.2.2.2.2.2.2.2.2.1 q3.2.2.2.2.2.2.2.2.2.2.2.2.2.2.2.2.2.2.1 q3.2.2.2.2.2.2.2.2.2.2.2.2.2.2.2.2.2.2.2).flatten H := hP
    have hD : va_D A (l_Model Z.2.1 Am q3.2.1 q3.2.2.1 q3.2.2.2.1 q3.2.2.2.2.1 q3.2.2.2.2.2.1 q3.2.2.2.2.2.2.1 q3.2.2.2.2.2.2.2.1 q3.2.2.2.2.2.2.2.2.1 q3.2.2.2.2.2.2.2.2.2.1 q3.2.2.2.2.2.2.2.2.2.2.1 q3.2.2.2.2.2.2.2.2.2.2.2.1 q3.2.2.2.2.2.2.2.2.2.2.2.2.1 q3.2.2.2.2.2.2.2.2.2.2.2.2.2.1 q3.2.2.2.2.2.2.2.2.2.2.2.2.2.2.1 q3.2.2.2.2.2.2.2.2.2.2.2.2.2.2.2.1 q3.2.2.2.2.2.2.2.2.2.2.2.2.2.2.2.2.1 q3.2.2.2.2.2.2.2.2.2.2.2.2.2.2.2.2.2.1 q3.2.2.2.2.2.2.2.2.2.2.2.2.2.2.2.2.2.2.1 q3.2.2.2.2.2.2.2.2.2.2.2.2.2.2.2.2.2.2.2).flatten := hD
    refine W.eq (g2 := F0 m 13 ls [.int q3.1, .ref (Am 0)]) rfl ?_
    refine z_let hF (fun q4 hq4 hF => ?_)
    refine z_mu0 (z_rV (As := [.int q3.1]) (rest := []) hx hb hml hown hts vt_X7_tells (c_X7_tells l Z Am q3.2 q3.1 _ hq4) rfl rfl ⟨Nat.le_of_ble_eq_true rfl, Nat.le_of_ble_eq_true rfl⟩ k_m_X7_54 zPmu_blind (z_recv (q := (RX7, TX7, 19)) (ci := 7) (q0 := 0) hK (zP_reg hP 0 rfl) rfl rfl) (z_prem hK hP hD) rfl hl.1 (Nat.le_of_ble_eq_true rfl) (z_d hX7_pagesWith_0 7 rfl) ⟨Nat.zero_le _, Nat.zero_le _⟩) hS hD (adr_Model _ _ _ _) (fun H locs hP hD hS => ?_)
    have hP : va_P Z.1 vwCl (l_Model Z.2.1 Am q4.2.1 q4.2.2.1 q4.2.2.2.1 q4.2.2.2.2.1 q4.2.2.2.2.2.1 q4.2.2.2.2.2.2.1 q4.2.2.2.2.2.2.2.1 q4.2.2.2.2.2.2.2.2.1 q4.2.2.2.2.2.2.2.2.2.1 q4.2.2.2.2.2.2.2.2.2.2.1 q4.2.2.2.2.2.2.2.2.2.2.2.1 q4.2.2.2.2.2.2.2.2.2.2.2.2.1 q4.2.2.2.2.2.2.2.2.2.2.2.2.2.1 q4.2.2.2.2.2.2.2.2.2.2.2.2.2.2.1 q4.2.2.2.2.2.2.2.2.2.2.2.2.2.2.2.1 q4.2.2.2.2.2.2.2.2.2.2.2.2.2.2.2.2.1 q4.2.2.2.2.2.2.2.2.2.2.2.2.2.2.2.2.2.1 q4.2.2.2.2.2.2.2.2.2.2.2.2.2.2.2.2.2.2.1 q4.2.2.2.2.2.2.2.2.2.2.2.2.2.2.2.2.2.2.2).flatten H := hP
    have hD : va_D A (l_Model Z.2.1 Am q4.2.1 q4.2.2.1 q4.2.2.2.1 q4.2.2.2.2.1 q4.2.2.2.2.2.1 q4.2.2.2.2.2.2.1 q4.2.2.2.2.2.2.2.1 q4.2.2.2.2.2.2.2.2.1 q4.2.2.2.2.2.2.2.2.2.1 q4.2.2.2.2.2.2.2.2.2.2.1 q4.2.2.2.2.2.2.2.2.2.2.2.1 q4.2.2.2.2.2.2.2.2.2.2.2.2.1 q4.2.2.2.2.2.2.2.2.2.2.2.2.2.1 q4.2.2.2.2.2.2.2.2.2.2.2.2.2.2.1 q4.2.2.2.2.2.2.2.2.2.2.2.2.2.2.2.1 q4.2.2.2.2.2.2.2.2.2.2.2.2.2.2.2.2.1 q4.2.2.2.2.2.2.2.2.2.2.2.2.2.2.2.2.2.1 q4.2.2.2.2.2.2.2.2.2.2.2.2.2.2.2.2.2.2.1 q4.2.2.2.2.2.2.2.2.2.2.2.2.2.2.2.2.2.2.2).flatten := hD
    refine W.eq (g2 := F0 m 16 ls [.int q4.1]) rfl ?_
    refine lv_goto (tgt := 24) hx hb (z_d hX7_pagesWith_0 8 rfl) (by decide) ?_
    obtain rfl := Option.some.inj hF
    subst hQ
    subst hA
    exact W.iret hx hb hr (fun t ht hW => zq_mu (by rw [ht]; exact hP) (hS.F ht)) hS.2.2 (z_d hX7_pagesWith_0 12 rfl)
def rm_X7_smallestPage : Room := { frames := 7, cells := 0, slots := 0, locals := 162 }
set_option maxRecDepth 100000 in
set_option maxHeartbeats 4000000 in
theorem c_X7_smallestPage (l : Launch) (Z : zZ) (Am : Nat → Nat) (M : t_Model) (p1 : Int32) (R : Int32 × t_Model) (hF : X7_smallestPage M p1 = some R) : zMU l yX7_smallestPage (zw yX7_smallestPage cX7_smallestPage 3 (some .int)) rm_X7_smallestPage Z [.ref (Am 0), .int p1] (w_Model Z.2.1 Am M) (w_Model Z.2.1 Am R.2) (some (.int R.1)) := by
  refine zMU_of (by decide) (Nat.le_of_ble_eq_true rfl) (fun p e s m below meth c hx hb hr hml hown hts hlocks hK A hA Q hQ ls hl hP hD hS => ?_)
  unfold X7_smallestPage at hF
  have hl : lv_has ls 3 [(0, .ref (Am 0)), (1, .int p1)] := hl
  have hown : s.vm.findClass RX7 = some m.cls := hown
  have hP : va_P Z.1 vwCl (l_Model Z.2.1 Am M.1 M.2.1 M.2.2.1 M.2.2.2.1 M.2.2.2.2.1 M.2.2.2.2.2.1 M.2.2.2.2.2.2.1 M.2.2.2.2.2.2.2.1 M.2.2.2.2.2.2.2.2.1 M.2.2.2.2.2.2.2.2.2.1 M.2.2.2.2.2.2.2.2.2.2.1 M.2.2.2.2.2.2.2.2.2.2.2.1 M.2.2.2.2.2.2.2.2.2.2.2.2.1 M.2.2.2.2.2.2.2.2.2.2.2.2.2.1 M.2.2.2.2.2.2.2.2.2.2.2.2.2.2.1 M.2.2.2.2.2.2.2.2.2.2.2.2.2.2.2.1 M.2.2.2.2.2.2.2.2.2.2.2.2.2.2.2.2.1 M.2.2.2.2.2.2.2.2.2.2.2.2.2.2.2.2.2.1 M.2.2.2.2.2.2.2.2.2.2.2.2.2.2.2.2.2.2).flatten s.heap := hP
  have hD : va_D A (l_Model Z.2.1 Am M.1 M.2.1 M.2.2.1 M.2.2.2.1 M.2.2.2.2.1 M.2.2.2.2.2.1 M.2.2.2.2.2.2.1 M.2.2.2.2.2.2.2.1 M.2.2.2.2.2.2.2.2.1 M.2.2.2.2.2.2.2.2.2.1 M.2.2.2.2.2.2.2.2.2.2.1 M.2.2.2.2.2.2.2.2.2.2.2.1 M.2.2.2.2.2.2.2.2.2.2.2.2.1 M.2.2.2.2.2.2.2.2.2.2.2.2.2.1 M.2.2.2.2.2.2.2.2.2.2.2.2.2.2.1 M.2.2.2.2.2.2.2.2.2.2.2.2.2.2.2.1 M.2.2.2.2.2.2.2.2.2.2.2.2.2.2.2.2.1 M.2.2.2.2.2.2.2.2.2.2.2.2.2.2.2.2.2.1 M.2.2.2.2.2.2.2.2.2.2.2.2.2.2.2.2.2.2).flatten := hD
  have L19 : ∀  (n : Nat) (v : t_Model × Int32) (X : (t_Model) ⊕ (Int32 × t_Model)) (hF : zloop (b_X7_smallestPage_19 p1 ) n v = some X) (H : Heap) (locs : List Loc) (ls : Array Slot) (hP : va_P Z.1 vwCl (l_Model Z.2.1 Am v.1.1 v.1.2.1 v.1.2.2.1 v.1.2.2.2.1 v.1.2.2.2.2.1 v.1.2.2.2.2.2.1 v.1.2.2.2.2.2.2.1 v.1.2.2.2.2.2.2.2.1 v.1.2.2.2.2.2.2.2.2.1 v.1.2.2.2.2.2.2.2.2.2.1 v.1.2.2.2.2.2.2.2.2.2.2.1 v.1.2.2.2.2.2.2.2.2.2.2.2.1 v.1.2.2.2.2.2.2.2.2.2.2.2.2.1 v.1.2.2.2.2.2.2.2.2.2.2.2.2.2.1 v.1.2.2.2.2.2.2.2.2.2.2.2.2.2.2.1 v.1.2.2.2.2.2.2.2.2.2.2.2.2.2.2.2.1 v.1.2.2.2.2.2.2.2.2.2.2.2.2.2.2.2.2.1 v.1.2.2.2.2.2.2.2.2.2.2.2.2.2.2.2.2.2.1 v.1.2.2.2.2.2.2.2.2.2.2.2.2.2.2.2.2.2.2).flatten H) (hD : va_D A (l_Model Z.2.1 Am v.1.1 v.1.2.1 v.1.2.2.1 v.1.2.2.2.1 v.1.2.2.2.2.1 v.1.2.2.2.2.2.1 v.1.2.2.2.2.2.2.1 v.1.2.2.2.2.2.2.2.1 v.1.2.2.2.2.2.2.2.2.1 v.1.2.2.2.2.2.2.2.2.2.1 v.1.2.2.2.2.2.2.2.2.2.2.1 v.1.2.2.2.2.2.2.2.2.2.2.2.1 v.1.2.2.2.2.2.2.2.2.2.2.2.2.1 v.1.2.2.2.2.2.2.2.2.2.2.2.2.2.1 v.1.2.2.2.2.2.2.2.2.2.2.2.2.2.2.1 v.1.2.2.2.2.2.2.2.2.2.2.2.2.2.2.2.1 v.1.2.2.2.2.2.2.2.2.2.2.2.2.2.2.2.2.1 v.1.2.2.2.2.2.2.2.2.2.2.2.2.2.2.2.2.2.1 v.1.2.2.2.2.2.2.2.2.2.2.2.2.2.2.2.2.2.2).flatten) (hS : va_S A s.heap H locs) (hl : lv_has ls 3 [(0, .ref (Am 0)), (1, .int p1), (2, .int v.2)]) (K1 : ∀ Y, X = .inl Y → ∀ (H : Heap) (locs : List Loc) (ls : Array Slot) (hP : va_P Z.1 vwCl (l_Model Z.2.1 Am Y.1 Y.2.1 Y.2.2.1 Y.2.2.2.1 Y.2.2.2.2.1 Y.2.2.2.2.2.1 Y.2.2.2.2.2.2.1 Y.2.2.2.2.2.2.2.1 Y.2.2.2.2.2.2.2.2.1 Y.2.2.2.2.2.2.2.2.2.1 Y.2.2.2.2.2.2.2.2.2.2.1 Y.2.2.2.2.2.2.2.2.2.2.2.1 Y.2.2.2.2.2.2.2.2.2.2.2.2.1 Y.2.2.2.2.2.2.2.2.2.2.2.2.2.1 Y.2.2.2.2.2.2.2.2.2.2.2.2.2.2.1 Y.2.2.2.2.2.2.2.2.2.2.2.2.2.2.2.1 Y.2.2.2.2.2.2.2.2.2.2.2.2.2.2.2.2.1 Y.2.2.2.2.2.2.2.2.2.2.2.2.2.2.2.2.2.1 Y.2.2.2.2.2.2.2.2.2.2.2.2.2.2.2.2.2.2).flatten H) (hD : va_D A (l_Model Z.2.1 Am Y.1 Y.2.1 Y.2.2.1 Y.2.2.2.1 Y.2.2.2.2.1 Y.2.2.2.2.2.1 Y.2.2.2.2.2.2.1 Y.2.2.2.2.2.2.2.1 Y.2.2.2.2.2.2.2.2.1 Y.2.2.2.2.2.2.2.2.2.1 Y.2.2.2.2.2.2.2.2.2.2.1 Y.2.2.2.2.2.2.2.2.2.2.2.1 Y.2.2.2.2.2.2.2.2.2.2.2.2.1 Y.2.2.2.2.2.2.2.2.2.2.2.2.2.1 Y.2.2.2.2.2.2.2.2.2.2.2.2.2.2.1 Y.2.2.2.2.2.2.2.2.2.2.2.2.2.2.2.1 Y.2.2.2.2.2.2.2.2.2.2.2.2.2.2.2.2.1 Y.2.2.2.2.2.2.2.2.2.2.2.2.2.2.2.2.2.1 Y.2.2.2.2.2.2.2.2.2.2.2.2.2.2.2.2.2.2).flatten) (hS : va_S A s.heap H locs) (hl : lv_has ls 3 [(0, .ref (Am 0)), (1, .int p1)]), W p l e rm_X7_smallestPage s m ([.ref (Am 0), .int p1] : List Value).toArray below meth c H locs 0 0 Q (F0 m 46 ls [])) (K2 : ∀ Y, X = .inr Y → ∀ (H : Heap) (locs : List Loc) (ls : Array Slot) (hP : va_P Z.1 vwCl (l_Model Z.2.1 Am Y.2.1 Y.2.2.1 Y.2.2.2.1 Y.2.2.2.2.1 Y.2.2.2.2.2.1 Y.2.2.2.2.2.2.1 Y.2.2.2.2.2.2.2.1 Y.2.2.2.2.2.2.2.2.1 Y.2.2.2.2.2.2.2.2.2.1 Y.2.2.2.2.2.2.2.2.2.2.1 Y.2.2.2.2.2.2.2.2.2.2.2.1 Y.2.2.2.2.2.2.2.2.2.2.2.2.1 Y.2.2.2.2.2.2.2.2.2.2.2.2.2.1 Y.2.2.2.2.2.2.2.2.2.2.2.2.2.2.1 Y.2.2.2.2.2.2.2.2.2.2.2.2.2.2.2.1 Y.2.2.2.2.2.2.2.2.2.2.2.2.2.2.2.2.1 Y.2.2.2.2.2.2.2.2.2.2.2.2.2.2.2.2.2.1 Y.2.2.2.2.2.2.2.2.2.2.2.2.2.2.2.2.2.2.1 Y.2.2.2.2.2.2.2.2.2.2.2.2.2.2.2.2.2.2.2).flatten H) (hD : va_D A (l_Model Z.2.1 Am Y.2.1 Y.2.2.1 Y.2.2.2.1 Y.2.2.2.2.1 Y.2.2.2.2.2.1 Y.2.2.2.2.2.2.1 Y.2.2.2.2.2.2.2.1 Y.2.2.2.2.2.2.2.2.1 Y.2.2.2.2.2.2.2.2.2.1 Y.2.2.2.2.2.2.2.2.2.2.1 Y.2.2.2.2.2.2.2.2.2.2.2.1 Y.2.2.2.2.2.2.2.2.2.2.2.2.1 Y.2.2.2.2.2.2.2.2.2.2.2.2.2.1 Y.2.2.2.2.2.2.2.2.2.2.2.2.2.2.1 Y.2.2.2.2.2.2.2.2.2.2.2.2.2.2.2.1 Y.2.2.2.2.2.2.2.2.2.2.2.2.2.2.2.2.1 Y.2.2.2.2.2.2.2.2.2.2.2.2.2.2.2.2.2.1 Y.2.2.2.2.2.2.2.2.2.2.2.2.2.2.2.2.2.2.1 Y.2.2.2.2.2.2.2.2.2.2.2.2.2.2.2.2.2.2.2).flatten) (hS : va_S A s.heap H locs), W p l e rm_X7_smallestPage s m ([.ref (Am 0), .int p1] : List Value).toArray below meth c H locs 0 0 Q (F0 m 39 ls [.int Y.1])), W p l e rm_X7_smallestPage s m ([.ref (Am 0), .int p1] : List Value).toArray below meth c H locs 0 0 Q (F0 m 19 ls []) := by
    skip
    refine z_loopE (fun rec ih v X hF H locs ls hP hD hS hl K1 K2 => ?_)
    unfold b_X7_smallestPage_19 at hF
    refine lv_iload_n hx hb (z_d hX7_smallestPage_0 11 rfl) rfl (lv_at hl 2 rfl) ?_
    refine lv_bipush (v := 60) hx hb (z_d hX7_smallestPage_0 12 rfl) (by decide) ?_
    refine lv_icmp_gt (tgt := 46) hx hb (z_d hX7_smallestPage_0 13 rfl) (by decide) (fun hc22 => ?_) (fun hc22 => ?_)
    · have hF := z_pos hc22 hF
      obtain rfl := Option.some.inj hF
      exact K1 _ rfl _ _ ls hP hD hS (lv_sub hl [0, 1] rfl)
    · have hF := z_neg hc22 hF
      refine lv_aload_n hx hb (z_d hX7_smallestPage_0 14 rfl) rfl (lv_at hl 0 rfl) ?_
      refine lv_iload_n hx hb (z_d hX7_smallestPage_0 15 rfl) rfl (lv_at hl 2 rfl) ?_
      refine z_bnd hF (fun q2 hq2 hF => ?_)
      refine z_mu0 (z_rV (As := [.int v.2]) (rest := []) hx hb hml hown hts vt_X7_pagesIf (c_X7_pagesIf l Z Am v.1 v.2 _ hq2) rfl rfl ⟨Nat.le_of_ble_eq_true rfl, Nat.le_of_ble_eq_true rfl⟩ k_m_X7_189 zPmu_blind (z_recv (q := (RX7, TX7, 19)) (ci := 7) (q0 := 0) hK (zP_reg hP 0 rfl) rfl rfl) (z_prem hK hP hD) rfl hl.1 (Nat.le_of_ble_eq_true rfl) (z_d hX7_smallestPage_0 16 rfl) ⟨Nat.zero_le _, Nat.zero_le _⟩) hS hD (adr_Model _ _ _ _) (fun H locs hP hD hS => ?_)
      have hP : va_P Z.1 vwCl (l_Model Z.2.1 Am q2.2.1 q2.2.2.1 q2.2.2.2.1 q2.2.2.2.2.1 q2.2.2.2.2.2.1 q2.2.2.2.2.2.2.1 q2.2.2.2.2.2.2.2.1 q2.2.2.2.2.2.2.2.2.1 q2.2.2.2.2.2.2.2.2.2.1 q2.2.2.2.2.2.2.2.2.2.2.1 q2.2.2.2.2.2.2.2.2.2.2.2.1 q2.2.2.2.2.2.2.2.2.2.2.2.2.1 q2.2.2.2.2.2.2.2.2.2.2.2.2.2.1 q2.2.2.2.2.2.2.2.2.2.2.2.2.2.2.1 q2.2.2.2.2.2.2.2.2.2.2.2.2.2.2.2.1 q2.2.2.2.2.2.2.2.2.2.2.2.2.2.2.2.2.1 q2.2.2.2.2.2.2.2.2.2.2.2.2.2.2.2.2.2.1 q2.2.2.2.2.2.2.2.2.2.2.2.2.2.2.2.2.2.2.1 q2.2.2.2.2.2.2.2.2.2.2.2.2.2.2.2.2.2.2.2).flatten H := hP
      have hD : va_D A (l_Model Z.2.1 Am q2.2.1 q2.2.2.1 q2.2.2.2.1 q2.2.2.2.2.1 q2.2.2.2.2.2.1 q2.2.2.2.2.2.2.1 q2.2.2.2.2.2.2.2.1 q2.2.2.2.2.2.2.2.2.1 q2.2.2.2.2.2.2.2.2.2.1 q2.2.2.2.2.2.2.2.2.2.2.1 q2.2.2.2.2.2.2.2.2.2.2.2.1 q2.2.2.2.2.2.2.2.2.2.2.2.2.1 q2.2.2.2.2.2.2.2.2.2.2.2.2.2.1 q2.2.2.2.2.2.2.2.2.2.2.2.2.2.2.1 q2.2.2.2.2.2.2.2.2.2.2.2.2.2.2.2.1 q2.2.2.2.2.2.2.2.2.2.2.2.2.2.2.2.2.1 q2.2.2.2.2.2.2.2.2.2.2.2.2.2.2.2.2.2.1 q2.2.2.2.2.2.2.2.2.2.2.2.2.2.2.2.2.2.2.1 q2.2.2.2.2.2.2.2.2.2.2.2.2.2.2.2.2.2.2.2).flatten := hD
      refine W.eq (g2 := F0 m 30 ls [.int q2.1]) rfl ?_
      refine lv_iload_n hx hb (z_d hX7_smallestPage_0 17 rfl) rfl (lv_at hl 1 rfl) ?_
      refine lv_icmp_gt (tgt := 40) hx hb (z_d hX7_smallestPage_0 18 rfl) (by decide) (fun hc31 => ?_) (fun hc31 => ?_)
      · have hF := z_pos hc31 hF
        refine z_let hF (fun u3 hu3 hF => ?_)
        refine lv_iinc (v := u3) (lv' := [(2, .int u3), (0, .ref (Am 0)), (1, .int p1)]) hx hb (z_d hX7_smallestPage_0 23 rfl) hl (k := 2) rfl (z_inc1 hu3) (by decide) rfl (fun ls hl => ?_)
        refine lv_goto (tgt := 19) hx hb (z_d hX7_smallestPage_0 24 rfl) (by decide) ?_
        exact ih _ _ hF _ _ ls hP hD hS (lv_sub hl [1, 2, 0] rfl) K1 K2
      · have hF := z_neg hc31 hF
        refine lv_aload_n hx hb (z_d hX7_smallestPage_0 19 rfl) rfl (lv_at hl 0 rfl) ?_
        refine lv_iload_n hx hb (z_d hX7_smallestPage_0 20 rfl) rfl (lv_at hl 2 rfl) ?_
        refine z_let hF (fun q4 hq4 hF => ?_)
        refine z_mu0 (z_rV (As := [.int v.2]) (rest := []) hx hb hml hown hts vt_X7_tells (c_X7_tells l Z Am q2.2 v.2 _ hq4) rfl rfl ⟨Nat.le_of_ble_eq_true rfl, Nat.le_of_ble_eq_true rfl⟩ k_m_X7_54 zPmu_blind (z_recv (q := (RX7, TX7, 19)) (ci := 7) (q0 := 0) hK (zP_reg hP 0 rfl) rfl rfl) (z_prem hK hP hD) rfl hl.1 (Nat.le_of_ble_eq_true rfl) (z_d hX7_smallestPage_0 21 rfl) ⟨Nat.zero_le _, Nat.zero_le _⟩) hS hD (adr_Model _ _ _ _) (fun H locs hP hD hS => ?_)
        have hP : va_P Z.1 vwCl (l_Model Z.2.1 Am q4.2.1 q4.2.2.1 q4.2.2.2.1 q4.2.2.2.2.1 q4.2.2.2.2.2.1 q4.2.2.2.2.2.2.1 q4.2.2.2.2.2.2.2.1 q4.2.2.2.2.2.2.2.2.1 q4.2.2.2.2.2.2.2.2.2.1 q4.2.2.2.2.2.2.2.2.2.2.1 q4.2.2.2.2.2.2.2.2.2.2.2.1 q4.2.2.2.2.2.2.2.2.2.2.2.2.1 q4.2.2.2.2.2.2.2.2.2.2.2.2.2.1 q4.2.2.2.2.2.2.2.2.2.2.2.2.2.2.1 q4.2.2.2.2.2.2.2.2.2.2.2.2.2.2.2.1 q4.2.2.2.2.2.2.2.2.2.2.2.2.2.2.2.2.1 q4.2.2.2.2.2.2.2.2.2.2.2.2.2.2.2.2.2.1 q4.2.2.2.2.2.2.2.2.2.2.2.2.2.2.2.2.2.2.1 q4.2.2.2.2.2.2.2.2.2.2.2.2.2.2.2.2.2.2.2).flatten H := hP
        have hD : va_D A (l_Model Z.2.1 Am q4.2.1 q4.2.2.1 q4.2.2.2.1 q4.2.2.2.2.1 q4.2.2.2.2.2.1 q4.2.2.2.2.2.2.1 q4.2.2.2.2.2.2.2.1 q4.2.2.2.2.2.2.2.2.1 q4.2.2.2.2.2.2.2.2.2.1 q4.2.2.2.2.2.2.2.2.2.2.1 q4.2.2.2.2.2.2.2.2.2.2.2.1 q4.2.2.2.2.2.2.2.2.2.2.2.2.1 q4.2.2.2.2.2.2.2.2.2.2.2.2.2.1 q4.2.2.2.2.2.2.2.2.2.2.2.2.2.2.1 q4.2.2.2.2.2.2.2.2.2.2.2.2.2.2.2.1 q4.2.2.2.2.2.2.2.2.2.2.2.2.2.2.2.2.1 q4.2.2.2.2.2.2.2.2.2.2.2.2.2.2.2.2.2.1 q4.2.2.2.2.2.2.2.2.2.2.2.2.2.2.2.2.2.2.1 q4.2.2.2.2.2.2.2.2.2.2.2.2.2.2.2.2.2.2.2).flatten := hD
        refine W.eq (g2 := F0 m 39 ls [.int q4.1]) rfl ?_
        obtain rfl := Option.some.inj hF
        exact (K2 _ rfl _ _ ls hP hD hS)
  refine lv_iload_n hx hb (z_d hX7_smallestPage_0 0 rfl) rfl (lv_at hl 1 rfl) ?_
  refine lv_iconst (v := 0) hx hb (z_d hX7_smallestPage_0 1 rfl) (by decide) ?_
  refine lv_bipush (v := 60) hx hb (z_d hX7_smallestPage_0 2 rfl) (by decide) ?_
  refine z_let hF (fun q1 hq1 hF => ?_)
  refine z_ro_i (z_rS (As := [.int p1, .int 0, .int 60]) (rest := []) hx hb hml hown hts vs_X7_in (c_X7_in l Z p1 0 60 _ hq1) rfl rfl ⟨Nat.le_of_ble_eq_true rfl, Nat.le_of_ble_eq_true rfl⟩ k_m_X7_58 zPro_blind (z_prec hK zP_nil) rfl hl.1 (Nat.le_of_ble_eq_true rfl) (z_d hX7_smallestPage_0 3 rfl) ⟨Nat.zero_le _, Nat.zero_le _⟩) hS hP (fun H locs hP hS => ?_)
  refine lv_if_ne (tgt := 16) hx hb (z_d hX7_smallestPage_0 4 rfl) (by decide) (fun hc7 => ?_) (fun hc7 => ?_)
  · have hF := z_neg hc7 hF
    refine lv_bipush (v := 20) hx hb (z_d hX7_smallestPage_0 9 rfl) (by decide) ?_
    refine lv_istore_n (lv' := [(2, .int 20), (0, .ref (Am 0)), (1, .int p1)]) hx hb (z_d hX7_smallestPage_0 10 rfl) rfl hl (by decide) rfl (fun ls hl => ?_)
    refine z_bnd hF (fun q5 hq5 hF => ?_)
    refine L19  _ _ _ hq5 _ _ ls hP hD hS (lv_sub hl [1, 2, 0] rfl) (fun y6 e9 H locs ls hP hD hS hl => ?_) (fun r e9 H locs ls hP hD hS => ?_)
    · subst e9
      have hF := z_inl hF
      refine lv_aload_n hx hb (z_d hX7_smallestPage_0 25 rfl) rfl (lv_at hl 0 rfl) ?_
      refine lv_iconst (v := (-1)) hx hb (z_d hX7_smallestPage_0 26 rfl) (by decide) ?_
      refine z_let hF (fun q7 hq7 hF => ?_)
      refine z_mu0 (z_rV (As := [.int (-1)]) (rest := []) hx hb hml hown hts vt_X7_tells (c_X7_tells l Z Am y6 (-1) _ hq7) rfl rfl ⟨Nat.le_of_ble_eq_true rfl, Nat.le_of_ble_eq_true rfl⟩ k_m_X7_54 zPmu_blind (z_recv (q := (RX7, TX7, 19)) (ci := 7) (q0 := 0) hK (zP_reg hP 0 rfl) rfl rfl) (z_prem hK hP hD) rfl hl.1 (Nat.le_of_ble_eq_true rfl) (z_d hX7_smallestPage_0 27 rfl) ⟨Nat.zero_le _, Nat.zero_le _⟩) hS hD (adr_Model _ _ _ _) (fun H locs hP hD hS => ?_)
      have hP : va_P Z.1 vwCl (l_Model Z.2.1 Am q7.2.1 q7.2.2.1 q7.2.2.2.1 q7.2.2.2.2.1 q7.2.2.2.2.2.1 q7.2.2.2.2.2.2.1 q7.2.2.2.2.2.2.2.1 q7.2.2.2.2.2.2.2.2.1 q7.2.2.2.2.2.2.2.2.2.1 q7.2.2.2.2.2.2.2.2.2.2.1 q7.2.2.2.2.2.2.2.2.2.2.2.1 q7.2.2.2.2.2.2.2.2.2.2.2.2.1 q7.2.2.2.2.2.2.2.2.2.2.2.2.2.1 q7.2.2.2.2.2.2.2.2.2.2.2.2.2.2.1 q7.2.2.2.2.2.2.2.2.2.2.2.2.2.2.2.1 q7.2.2.2.2.2.2.2.2.2.2.2.2.2.2.2.2.1 q7.2.2.2.2.2.2.2.2.2.2.2.2.2.2.2.2.2.1 q7.2.2.2.2.2.2.2.2.2.2.2.2.2.2.2.2.2.2.1 q7.2.2.2.2.2.2.2.2.2.2.2.2.2.2.2.2.2.2.2).flatten H := hP
      have hD : va_D A (l_Model Z.2.1 Am q7.2.1 q7.2.2.1 q7.2.2.2.1 q7.2.2.2.2.1 q7.2.2.2.2.2.1 q7.2.2.2.2.2.2.1 q7.2.2.2.2.2.2.2.1 q7.2.2.2.2.2.2.2.2.1 q7.2.2.2.2.2.2.2.2.2.1 q7.2.2.2.2.2.2.2.2.2.2.1 q7.2.2.2.2.2.2.2.2.2.2.2.1 q7.2.2.2.2.2.2.2.2.2.2.2.2.1 q7.2.2.2.2.2.2.2.2.2.2.2.2.2.1 q7.2.2.2.2.2.2.2.2.2.2.2.2.2.2.1 q7.2.2.2.2.2.2.2.2.2.2.2.2.2.2.2.1 q7.2.2.2.2.2.2.2.2.2.2.2.2.2.2.2.2.1 q7.2.2.2.2.2.2.2.2.2.2.2.2.2.2.2.2.2.1 q7.2.2.2.2.2.2.2.2.2.2.2.2.2.2.2.2.2.2.1 q7.2.2.2.2.2.2.2.2.2.2.2.2.2.2.2.2.2.2.2).flatten := hD
      refine W.eq (g2 := F0 m 51 ls [.int q7.1]) rfl ?_
      obtain rfl := Option.some.inj hF
      subst hQ
      subst hA
      exact W.iret hx hb hr (fun t ht hW => zq_mu (by rw [ht]; exact hP) (hS.F ht)) hS.2.2 (z_d hX7_smallestPage_0 28 rfl)
    · subst e9
      have hF := z_inr hF
      obtain rfl := Option.some.inj hF
      subst hQ
      subst hA
      exact W.iret hx hb hr (fun t ht hW => zq_mu (by rw [ht]; exact hP) (hS.F ht)) hS.2.2 (z_d hX7_smallestPage_0 22 rfl)
  · have hF := z_pos hc7 hF
    refine lv_aload_n hx hb (z_d hX7_smallestPage_0 5 rfl) rfl (lv_at hl 0 rfl) ?_
    refine lv_iconst (v := 1) hx hb (z_d hX7_smallestPage_0 6 rfl) (by decide) ?_
    refine z_let hF (fun q8 hq8 hF => ?_)
    refine z_mu0 (z_rV (As := [.int 1]) (rest := []) hx hb hml hown hts vt_X7_fails (c_X7_fails l Z Am M 1 _ hq8) rfl rfl ⟨Nat.le_of_ble_eq_true rfl, Nat.le_of_ble_eq_true rfl⟩ k_m_X7_129 zPmu_blind (z_recv (q := (RX7, TX7, 19)) (ci := 7) (q0 := 0) hK (zP_reg hP 0 rfl) rfl rfl) (z_prem hK hP hD) rfl hl.1 (Nat.le_of_ble_eq_true rfl) (z_d hX7_smallestPage_0 7 rfl) ⟨Nat.zero_le _, Nat.zero_le _⟩) hS hD (adr_Model _ _ _ _) (fun H locs hP hD hS => ?_)
    have hP : va_P Z.1 vwCl (l_Model Z.2.1 Am q8.2.1 q8.2.2.1 q8.2.2.2.1 q8.2.2.2.2.1 q8.2.2.2.2.2.1 q8.2.2.2.2.2.2.1 q8.2.2.2.2.2.2.2.1 q8.2.2.2.2.2.2.2.2.1 q8.2.2.2.2.2.2.2.2.2.1 q8.2.2.2.2.2.2.2.2.2.2.1 q8.2.2.2.2.2.2.2.2.2.2.2.1 q8.2.2.2.2.2.2.2.2.2.2.2.2.1 q8.2.2.2.2.2.2.2.2.2.2.2.2.2.1 q8.2.2.2.2.2.2.2.2.2.2.2.2.2.2.1 q8.2.2.2.2.2.2.2.2.2.2.2.2.2.2.2.1 q8.2.2.2.2.2.2.2.2.2.2.2.2.2.2.2.2.1 q8.2.2.2.2.2.2.2.2.2.2.2.2.2.2.2.2.2.1 q8.2.2.2.2.2.2.2.2.2.2.2.2.2.2.2.2.2.2.1 q8.2.2.2.2.2.2.2.2.2.2.2.2.2.2.2.2.2.2.2).flatten H := hP
    have hD : va_D A (l_Model Z.2.1 Am q8.2.1 q8.2.2.1 q8.2.2.2.1 q8.2.2.2.2.1 q8.2.2.2.2.2.1 q8.2.2.2.2.2.2.1 q8.2.2.2.2.2.2.2.1 q8.2.2.2.2.2.2.2.2.1 q8.2.2.2.2.2.2.2.2.2.1 q8.2.2.2.2.2.2.2.2.2.2.1 q8.2.2.2.2.2.2.2.2.2.2.2.1 q8.2.2.2.2.2.2.2.2.2.2.2.2.1 q8.2.2.2.2.2.2.2.2.2.2.2.2.2.1 q8.2.2.2.2.2.2.2.2.2.2.2.2.2.2.1 q8.2.2.2.2.2.2.2.2.2.2.2.2.2.2.2.1 q8.2.2.2.2.2.2.2.2.2.2.2.2.2.2.2.2.1 q8.2.2.2.2.2.2.2.2.2.2.2.2.2.2.2.2.2.1 q8.2.2.2.2.2.2.2.2.2.2.2.2.2.2.2.2.2.2.1 q8.2.2.2.2.2.2.2.2.2.2.2.2.2.2.2.2.2.2.2).flatten := hD
    refine W.eq (g2 := F0 m 15 ls [.int q8.1]) rfl ?_
    obtain rfl := Option.some.inj hF
    subst hQ
    subst hA
    exact W.iret hx hb hr (fun t ht hW => zq_mu (by rw [ht]; exact hP) (hS.F ht)) hS.2.2 (z_d hX7_smallestPage_0 8 rfl)
def rm_X7_pagesBehind : Room := { frames := 7, cells := 0, slots := 0, locals := 162 }
set_option maxRecDepth 100000 in
set_option maxHeartbeats 4000000 in
theorem c_X7_pagesBehind (l : Launch) (Z : zZ) (Am : Nat → Nat) (M : t_Model) (p1 : Int32) (p2 : Int32) (R : Int32 × t_Model) (hF : X7_pagesBehind M p1 p2 = some R) : zMU l yX7_pagesBehind (zw yX7_pagesBehind cX7_pagesBehind 5 (some .int)) rm_X7_pagesBehind Z [.ref (Am 0), .int p1, .int p2] (w_Model Z.2.1 Am M) (w_Model Z.2.1 Am R.2) (some (.int R.1)) := by
  refine zMU_of (by decide) (Nat.le_of_ble_eq_true rfl) (fun p e s m below meth c hx hb hr hml hown hts hlocks hK A hA Q hQ ls hl hP hD hS => ?_)
  unfold X7_pagesBehind at hF
  have hl : lv_has ls 5 [(0, .ref (Am 0)), (1, .int p1), (2, .int p2)] := hl
  have hown : s.vm.findClass RX7 = some m.cls := hown
  have hP : va_P Z.1 vwCl (l_Model Z.2.1 Am M.1 M.2.1 M.2.2.1 M.2.2.2.1 M.2.2.2.2.1 M.2.2.2.2.2.1 M.2.2.2.2.2.2.1 M.2.2.2.2.2.2.2.1 M.2.2.2.2.2.2.2.2.1 M.2.2.2.2.2.2.2.2.2.1 M.2.2.2.2.2.2.2.2.2.2.1 M.2.2.2.2.2.2.2.2.2.2.2.1 M.2.2.2.2.2.2.2.2.2.2.2.2.1 M.2.2.2.2.2.2.2.2.2.2.2.2.2.1 M.2.2.2.2.2.2.2.2.2.2.2.2.2.2.1 M.2.2.2.2.2.2.2.2.2.2.2.2.2.2.2.1 M.2.2.2.2.2.2.2.2.2.2.2.2.2.2.2.2.1 M.2.2.2.2.2.2.2.2.2.2.2.2.2.2.2.2.2.1 M.2.2.2.2.2.2.2.2.2.2.2.2.2.2.2.2.2.2).flatten s.heap := hP
  have hD : va_D A (l_Model Z.2.1 Am M.1 M.2.1 M.2.2.1 M.2.2.2.1 M.2.2.2.2.1 M.2.2.2.2.2.1 M.2.2.2.2.2.2.1 M.2.2.2.2.2.2.2.1 M.2.2.2.2.2.2.2.2.1 M.2.2.2.2.2.2.2.2.2.1 M.2.2.2.2.2.2.2.2.2.2.1 M.2.2.2.2.2.2.2.2.2.2.2.1 M.2.2.2.2.2.2.2.2.2.2.2.2.1 M.2.2.2.2.2.2.2.2.2.2.2.2.2.1 M.2.2.2.2.2.2.2.2.2.2.2.2.2.2.1 M.2.2.2.2.2.2.2.2.2.2.2.2.2.2.2.1 M.2.2.2.2.2.2.2.2.2.2.2.2.2.2.2.2.1 M.2.2.2.2.2.2.2.2.2.2.2.2.2.2.2.2.2.1 M.2.2.2.2.2.2.2.2.2.2.2.2.2.2.2.2.2.2).flatten := hD
  refine lv_aload_n hx hb (z_d hX7_pagesBehind_0 0 rfl) rfl (lv_at hl 0 rfl) ?_
  refine lv_iload_n hx hb (z_d hX7_pagesBehind_0 1 rfl) rfl (lv_at hl 1 rfl) ?_
  refine lv_iconst (v := 1) hx hb (z_d hX7_pagesBehind_0 2 rfl) (by decide) ?_
  refine z_bnd hF (fun q1 hq1 hF => ?_)
  refine z_ro_i (z_rV (As := [.int p1, .int 1]) (rest := []) hx hb hml hown hts vt_X7_of (c_X7_of l Z Am M p1 1 _ hq1) rfl rfl ⟨Nat.le_of_ble_eq_true rfl, Nat.le_of_ble_eq_true rfl⟩ k_m_X7_62 zPro_blind (z_recv (q := (RX7, TX7, 19)) (ci := 7) (q0 := 0) hK (zP_reg hP 0 rfl) rfl rfl) (z_prec hK hP) rfl hl.1 (Nat.le_of_ble_eq_true rfl) (z_d hX7_pagesBehind_0 3 rfl) ⟨Nat.zero_le _, Nat.zero_le _⟩) hS hP (fun H locs hP hS => ?_)
  refine lv_istore_n (lv' := [(3, .int q1), (0, .ref (Am 0)), (1, .int p1), (2, .int p2)]) hx hb (z_d hX7_pagesBehind_0 4 rfl) rfl hl (by decide) rfl (fun ls hl => ?_)
  refine lv_aload_n hx hb (z_d hX7_pagesBehind_0 5 rfl) rfl (lv_at hl 1 rfl) ?_
  refine lv_iload_n hx hb (z_d hX7_pagesBehind_0 6 rfl) rfl (lv_at hl 2 rfl) ?_
  refine lv_iconst (v := 1) hx hb (z_d hX7_pagesBehind_0 7 rfl) (by decide) ?_
  refine lv_iload_n hx hb (z_d hX7_pagesBehind_0 8 rfl) rfl (lv_at hl 3 rfl) ?_
  refine z_bnd hF (fun q2 hq2 hF => ?_)
  refine z_mu0 (z_rV (As := [.int p1, .int 1, .int p2]) (rest := []) hx hb hml hown hts vt_X7_puts (c_X7_puts l Z Am M p1 1 p2 _ hq2) rfl rfl ⟨Nat.le_of_ble_eq_true rfl, Nat.le_of_ble_eq_true rfl⟩ k_m_X7_125 zPmu_blind (z_recv (q := (RX7, TX7, 19)) (ci := 7) (q0 := 0) hK (zP_reg hP 0 rfl) rfl rfl) (z_prem hK hP hD) rfl hl.1 (Nat.le_of_ble_eq_true rfl) (z_d hX7_pagesBehind_0 9 rfl) ⟨Nat.zero_le _, Nat.zero_le _⟩) hS hD (adr_Model _ _ _ _) (fun H locs hP hD hS => ?_)
  have hP : va_P Z.1 vwCl (l_Model Z.2.1 Am q2.1 q2.2.1 q2.2.2.1 q2.2.2.2.1 q2.2.2.2.2.1 q2.2.2.2.2.2.1 q2.2.2.2.2.2.2.1 q2.2.2.2.2.2.2.2.1 q2.2.2.2.2.2.2.2.2.1 q2.2.2.2.2.2.2.2.2.2.1 q2.2.2.2.2.2.2.2.2.2.2.1 q2.2.2.2.2.2.2.2.2.2.2.2.1 q2.2.2.2.2.2.2.2.2.2.2.2.2.1 q2.2.2.2.2.2.2.2.2.2.2.2.2.2.1 q2.2.2.2.2.2.2.2.2.2.2.2.2.2.2.1 q2.2.2.2.2.2.2.2.2.2.2.2.2.2.2.2.1 q2.2.2.2.2.2.2.2.2.2.2.2.2.2.2.2.2.1 q2.2.2.2.2.2.2.2.2.2.2.2.2.2.2.2.2.2.1 q2.2.2.2.2.2.2.2.2.2.2.2.2.2.2.2.2.2.2).flatten H := hP
  have hD : va_D A (l_Model Z.2.1 Am q2.1 q2.2.1 q2.2.2.1 q2.2.2.2.1 q2.2.2.2.2.1 q2.2.2.2.2.2.1 q2.2.2.2.2.2.2.1 q2.2.2.2.2.2.2.2.1 q2.2.2.2.2.2.2.2.2.1 q2.2.2.2.2.2.2.2.2.2.1 q2.2.2.2.2.2.2.2.2.2.2.1 q2.2.2.2.2.2.2.2.2.2.2.2.1 q2.2.2.2.2.2.2.2.2.2.2.2.2.1 q2.2.2.2.2.2.2.2.2.2.2.2.2.2.1 q2.2.2.2.2.2.2.2.2.2.2.2.2.2.2.1 q2.2.2.2.2.2.2.2.2.2.2.2.2.2.2.2.1 q2.2.2.2.2.2.2.2.2.2.2.2.2.2.2.2.2.1 q2.2.2.2.2.2.2.2.2.2.2.2.2.2.2.2.2.2.1 q2.2.2.2.2.2.2.2.2.2.2.2.2.2.2.2.2.2.2).flatten := hD
  refine W.eq (g2 := F0 m 14 ls []) rfl ?_
  refine lv_aload_n hx hb (z_d hX7_pagesBehind_0 10 rfl) rfl (lv_at hl 1 rfl) ?_
  refine lv_aload_n hx hb (z_d hX7_pagesBehind_0 11 rfl) rfl (lv_at hl 1 rfl) ?_
  refine va_get (D := Z.1) (ci := 7) (v := .ref (Am 1)) (C := RX7) (T := TX7) (N := 19) hx hb hts zinX7 hown hK.1 (zP_reg hP 0 rfl) 0 rfl rfl 0 (by decide) (hts _ k_f_X7_7) (fun _ h9 => h9) rfl (z_d hX7_pagesBehind_0 12 rfl) ?_
  refine lv_iconst (v := 0) hx hb (z_d hX7_pagesBehind_0 13 rfl) (by decide) ?_
  refine z_ix hF (fun hin hF => ?_)
  refine va_iald (D := Z.1) (f := q2.1) hx hb hK.1 (zP_reg hP 1 rfl) 0 0 rfl rfl hin (z_d hX7_pagesBehind_0 14 rfl) ?_
  refine z_let hF (fun u3 hu3 hF => ?_)
  refine lv_topE hu3 ?_
  refine z_bnd hF (fun q4 hq4 hF => ?_)
  refine z_mu0 (z_rV (As := [.int u3]) (rest := []) hx hb hml hown hts vt_X7_pagesIf (c_X7_pagesIf l Z Am q2 u3 _ hq4) rfl rfl ⟨Nat.le_of_ble_eq_true rfl, Nat.le_of_ble_eq_true rfl⟩ k_m_X7_189 zPmu_blind (z_recv (q := (RX7, TX7, 19)) (ci := 7) (q0 := 0) hK (zP_reg hP 0 rfl) rfl rfl) (z_prem hK hP hD) rfl hl.1 (Nat.le_of_ble_eq_true rfl) (z_d hX7_pagesBehind_0 15 rfl) ⟨Nat.zero_le _, Nat.zero_le _⟩) hS hD (adr_Model _ _ _ _) (fun H locs hP hD hS => ?_)
  have hP : va_P Z.1 vwCl (l_Model Z.2.1 Am q4.2.1 q4.2.2.1 q4.2.2.2.1 q4.2.2.2.2.1 q4.2.2.2.2.2.1 q4.2.2.2.2.2.2.1 q4.2.2.2.2.2.2.2.1 q4.2.2.2.2.2.2.2.2.1 q4.2.2.2.2.2.2.2.2.2.1 q4.2.2.2.2.2.2.2.2.2.2.1 q4.2.2.2.2.2.2.2.2.2.2.2.1 q4.2.2.2.2.2.2.2.2.2.2.2.2.1 q4.2.2.2.2.2.2.2.2.2.2.2.2.2.1 q4.2.2.2.2.2.2.2.2.2.2.2.2.2.2.1 q4.2.2.2.2.2.2.2.2.2.2.2.2.2.2.2.1 q4.2.2.2.2.2.2.2.2.2.2.2.2.2.2.2.2.1 q4.2.2.2.2.2.2.2.2.2.2.2.2.2.2.2.2.2.1 q4.2.2.2.2.2.2.2.2.2.2.2.2.2.2.2.2.2.2.1 q4.2.2.2.2.2.2.2.2.2.2.2.2.2.2.2.2.2.2.2).flatten H := hP
  have hD : va_D A (l_Model Z.2.1 Am q4.2.1 q4.2.2.1 q4.2.2.2.1 q4.2.2.2.2.1 q4.2.2.2.2.2.1 q4.2.2.2.2.2.2.1 q4.2.2.2.2.2.2.2.1 q4.2.2.2.2.2.2.2.2.1 q4.2.2.2.2.2.2.2.2.2.1 q4.2.2.2.2.2.2.2.2.2.2.1 q4.2.2.2.2.2.2.2.2.2.2.2.1 q4.2.2.2.2.2.2.2.2.2.2.2.2.1 q4.2.2.2.2.2.2.2.2.2.2.2.2.2.1 q4.2.2.2.2.2.2.2.2.2.2.2.2.2.2.1 q4.2.2.2.2.2.2.2.2.2.2.2.2.2.2.2.1 q4.2.2.2.2.2.2.2.2.2.2.2.2.2.2.2.2.1 q4.2.2.2.2.2.2.2.2.2.2.2.2.2.2.2.2.2.1 q4.2.2.2.2.2.2.2.2.2.2.2.2.2.2.2.2.2.2.1 q4.2.2.2.2.2.2.2.2.2.2.2.2.2.2.2.2.2.2.2).flatten := hD
  refine W.eq (g2 := F0 m 24 ls [.int q4.1]) rfl ?_
  refine lv_istore (lv' := [(4, .int q4.1), (3, .int q1), (0, .ref (Am 0)), (1, .int p1), (2, .int p2)]) hx hb (z_d hX7_pagesBehind_0 16 rfl) hl (by decide) rfl (fun ls hl => ?_)
  refine lv_aload_n hx hb (z_d hX7_pagesBehind_0 17 rfl) rfl (lv_at hl 2 rfl) ?_
  refine lv_iload_n hx hb (z_d hX7_pagesBehind_0 18 rfl) rfl (lv_at hl 3 rfl) ?_
  refine lv_iconst (v := 1) hx hb (z_d hX7_pagesBehind_0 19 rfl) (by decide) ?_
  refine lv_iload_n hx hb (z_d hX7_pagesBehind_0 20 rfl) rfl (lv_at hl 1 rfl) ?_
  refine z_bnd hF (fun q5 hq5 hF => ?_)
  refine z_mu0 (z_rV (As := [.int p1, .int 1, .int q1]) (rest := []) hx hb hml hown hts vt_X7_puts (c_X7_puts l Z Am q4.2 p1 1 q1 _ hq5) rfl rfl ⟨Nat.le_of_ble_eq_true rfl, Nat.le_of_ble_eq_true rfl⟩ k_m_X7_125 zPmu_blind (z_recv (q := (RX7, TX7, 19)) (ci := 7) (q0 := 0) hK (zP_reg hP 0 rfl) rfl rfl) (z_prem hK hP hD) rfl hl.1 (Nat.le_of_ble_eq_true rfl) (z_d hX7_pagesBehind_0 21 rfl) ⟨Nat.zero_le _, Nat.zero_le _⟩) hS hD (adr_Model _ _ _ _) (fun H locs hP hD hS => ?_)
  have hP : va_P Z.1 vwCl (l_Model Z.2.1 Am q5.1 q5.2.1 q5.2.2.1 q5.2.2.2.1 q5.2.2.2.2.1 q5.2.2.2.2.2.1 q5.2.2.2.2.2.2.1 q5.2.2.2.2.2.2.2.1 q5.2.2.2.2.2.2.2.2.1 q5.2.2.2.2.2.2.2.2.2.1 q5.2.2.2.2.2.2.2.2.2.2.1 q5.2.2.2.2.2.2.2.2.2.2.2.1 q5.2.2.2.2.2.2.2.2.2.2.2.2.1 q5.2.2.2.2.2.2.2.2.2.2.2.2.2.1 q5.2.2.2.2.2.2.2.2.2.2.2.2.2.2.1 q5.2.2.2.2.2.2.2.2.2.2.2.2.2.2.2.1 q5.2.2.2.2.2.2.2.2.2.2.2.2.2.2.2.2.1 q5.2.2.2.2.2.2.2.2.2.2.2.2.2.2.2.2.2.1 q5.2.2.2.2.2.2.2.2.2.2.2.2.2.2.2.2.2.2).flatten H := hP
  have hD : va_D A (l_Model Z.2.1 Am q5.1 q5.2.1 q5.2.2.1 q5.2.2.2.1 q5.2.2.2.2.1 q5.2.2.2.2.2.1 q5.2.2.2.2.2.2.1 q5.2.2.2.2.2.2.2.1 q5.2.2.2.2.2.2.2.2.1 q5.2.2.2.2.2.2.2.2.2.1 q5.2.2.2.2.2.2.2.2.2.2.1 q5.2.2.2.2.2.2.2.2.2.2.2.1 q5.2.2.2.2.2.2.2.2.2.2.2.2.1 q5.2.2.2.2.2.2.2.2.2.2.2.2.2.1 q5.2.2.2.2.2.2.2.2.2.2.2.2.2.2.1 q5.2.2.2.2.2.2.2.2.2.2.2.2.2.2.2.1 q5.2.2.2.2.2.2.2.2.2.2.2.2.2.2.2.2.1 q5.2.2.2.2.2.2.2.2.2.2.2.2.2.2.2.2.2.1 q5.2.2.2.2.2.2.2.2.2.2.2.2.2.2.2.2.2.2).flatten := hD
  refine W.eq (g2 := F0 m 33 ls []) rfl ?_
  refine lv_iload hx hb (z_d hX7_pagesBehind_0 22 rfl) (lv_at hl 0 rfl) ?_
  obtain rfl := Option.some.inj hF
  subst hQ
  subst hA
  exact W.iret hx hb hr (fun t ht hW => zq_mu (by rw [ht]; exact hP) (hS.F ht)) hS.2.2 (z_d hX7_pagesBehind_0 23 rfl)
def rm_X7_pagesBy : Room := { frames := 8, cells := 0, slots := 0, locals := 186 }
set_option maxRecDepth 100000 in
set_option maxHeartbeats 4000000 in
theorem c_X7_pagesBy (l : Launch) (Z : zZ) (Am : Nat → Nat) (M : t_Model) (p1 : Int32) (p2 : Int32) (R : Int32 × t_Model) (hF : X7_pagesBy M p1 p2 = some R) : zMU l yX7_pagesBy (zw yX7_pagesBy cX7_pagesBy 3 (some .int)) rm_X7_pagesBy Z [.ref (Am 0), .int p1, .int p2] (w_Model Z.2.1 Am M) (w_Model Z.2.1 Am R.2) (some (.int R.1)) := by
  refine zMU_of (by decide) (Nat.le_of_ble_eq_true rfl) (fun p e s m below meth c hx hb hr hml hown hts hlocks hK A hA Q hQ ls hl hP hD hS => ?_)
  unfold X7_pagesBy at hF
  have hl : lv_has ls 3 [(0, .ref (Am 0)), (1, .int p1), (2, .int p2)] := hl
  have hown : s.vm.findClass RX7 = some m.cls := hown
  have hP : va_P Z.1 vwCl (l_Model Z.2.1 Am M.1 M.2.1 M.2.2.1 M.2.2.2.1 M.2.2.2.2.1 M.2.2.2.2.2.1 M.2.2.2.2.2.2.1 M.2.2.2.2.2.2.2.1 M.2.2.2.2.2.2.2.2.1 M.2.2.2.2.2.2.2.2.2.1 M.2.2.2.2.2.2.2.2.2.2.1 M.2.2.2.2.2.2.2.2.2.2.2.1 M.2.2.2.2.2.2.2.2.2.2.2.2.1 M.2.2.2.2.2.2.2.2.2.2.2.2.2.1 M.2.2.2.2.2.2.2.2.2.2.2.2.2.2.1 M.2.2.2.2.2.2.2.2.2.2.2.2.2.2.2.1 M.2.2.2.2.2.2.2.2.2.2.2.2.2.2.2.2.1 M.2.2.2.2.2.2.2.2.2.2.2.2.2.2.2.2.2.1 M.2.2.2.2.2.2.2.2.2.2.2.2.2.2.2.2.2.2).flatten s.heap := hP
  have hD : va_D A (l_Model Z.2.1 Am M.1 M.2.1 M.2.2.1 M.2.2.2.1 M.2.2.2.2.1 M.2.2.2.2.2.1 M.2.2.2.2.2.2.1 M.2.2.2.2.2.2.2.1 M.2.2.2.2.2.2.2.2.1 M.2.2.2.2.2.2.2.2.2.1 M.2.2.2.2.2.2.2.2.2.2.1 M.2.2.2.2.2.2.2.2.2.2.2.1 M.2.2.2.2.2.2.2.2.2.2.2.2.1 M.2.2.2.2.2.2.2.2.2.2.2.2.2.1 M.2.2.2.2.2.2.2.2.2.2.2.2.2.2.1 M.2.2.2.2.2.2.2.2.2.2.2.2.2.2.2.1 M.2.2.2.2.2.2.2.2.2.2.2.2.2.2.2.2.1 M.2.2.2.2.2.2.2.2.2.2.2.2.2.2.2.2.2.1 M.2.2.2.2.2.2.2.2.2.2.2.2.2.2.2.2.2.2).flatten := hD
  refine lv_aload_n hx hb (z_d hX7_pagesBy_0 0 rfl) rfl (lv_at hl 0 rfl) ?_
  refine lv_iload_n hx hb (z_d hX7_pagesBy_0 1 rfl) rfl (lv_at hl 1 rfl) ?_
  refine z_bnd hF (fun q1 hq1 hF => ?_)
  refine z_ro_i (z_rV (As := [.int p1]) (rest := []) hx hb hml hown hts vt_X7_isElement (c_X7_isElement l Z Am M p1 _ hq1) rfl rfl ⟨Nat.le_of_ble_eq_true rfl, Nat.le_of_ble_eq_true rfl⟩ k_m_X7_149 zPro_blind (z_recv (q := (RX7, TX7, 19)) (ci := 7) (q0 := 0) hK (zP_reg hP 0 rfl) rfl rfl) (z_prec hK hP) rfl hl.1 (Nat.le_of_ble_eq_true rfl) (z_d hX7_pagesBy_0 2 rfl) ⟨Nat.zero_le _, Nat.zero_le _⟩) hS hP (fun H locs hP hS => ?_)
  refine lv_if_ne (tgt := 14) hx hb (z_d hX7_pagesBy_0 3 rfl) (by decide) (fun hc5 => ?_) (fun hc5 => ?_)
  · have hF := z_neg hc5 hF
    refine lv_iload_n hx hb (z_d hX7_pagesBy_0 8 rfl) rfl (lv_at hl 2 rfl) ?_
    refine z_let hF (fun q2 hq2 hF => ?_)
    refine z_ro_i (z_rS (As := [.int p2]) (rest := []) hx hb hml hown hts vs_X7_isLength (c_X7_isLength l Z p2 _ hq2) rfl rfl ⟨Nat.le_of_ble_eq_true rfl, Nat.le_of_ble_eq_true rfl⟩ k_m_X7_132 zPro_blind (z_prec hK zP_nil) rfl hl.1 (Nat.le_of_ble_eq_true rfl) (z_d hX7_pagesBy_0 9 rfl) ⟨Nat.zero_le _, Nat.zero_le _⟩) hS hP (fun H locs hP hS => ?_)
    refine lv_if_eq (tgt := 34) hx hb (z_d hX7_pagesBy_0 10 rfl) (by decide) (fun hc18 => ?_) (fun hc18 => ?_)
    · have hF := z_pos hc18 hF
      refine lv_aload_n hx hb (z_d hX7_pagesBy_0 18 rfl) rfl (lv_at hl 0 rfl) ?_
      refine lv_iconst (v := 2) hx hb (z_d hX7_pagesBy_0 19 rfl) (by decide) ?_
      refine z_let hF (fun q3 hq3 hF => ?_)
      refine z_mu0 (z_rV (As := [.int 2]) (rest := []) hx hb hml hown hts vt_X7_fails (c_X7_fails l Z Am M 2 _ hq3) rfl rfl ⟨Nat.le_of_ble_eq_true rfl, Nat.le_of_ble_eq_true rfl⟩ k_m_X7_129 zPmu_blind (z_recv (q := (RX7, TX7, 19)) (ci := 7) (q0 := 0) hK (zP_reg hP 0 rfl) rfl rfl) (z_prem hK hP hD) rfl hl.1 (Nat.le_of_ble_eq_true rfl) (z_d hX7_pagesBy_0 20 rfl) ⟨Nat.zero_le _, Nat.zero_le _⟩) hS hD (adr_Model _ _ _ _) (fun H locs hP hD hS => ?_)
      have hP : va_P Z.1 vwCl (l_Model Z.2.1 Am q3.2.1 q3.2.2.1 q3.2.2.2.1 q3.2.2.2.2.1 q3.2.2.2.2.2.1 q3.2.2.2.2.2.2.1 q3.2.2.2.2.2.2.2.1 q3.2.2.2.2.2.2.2.2.1 q3.2.2.2.2.2.2.2.2.2.1 q3.2.2.2.2.2.2.2.2.2.2.1 q3.2.2.2.2.2.2.2.2.2.2.2.1 q3.2.2.2.2.2.2.2.2.2.2.2.2.1 q3.2.2.2.2.2.2.2.2.2.2.2.2.2.1 q3.2.2.2.2.2.2.2.2.2.2.2.2.2.2.1 q3.2.2.2.2.2.2.2.2.2.2.2.2.2.2.2.1 q3.2.2.2.2.2.2.2.2.2.2.2.2.2.2.2.2.1 q3.2.2.2.2.2.2.2.2.2.2.2.2.2.2.2.2.2.1 q3.2.2.2.2.2.2.2.2.2.2.2.2.2.2.2.2.2.2.1 q3.2.2.2.2.2.2.2.2.2.2.2.2.2.2.2.2.2.2.2).flatten H := hP
      have hD : va_D A (l_Model Z.2.1 Am q3.2.1 q3.2.2.1 q3.2.2.2.1 q3.2.2.2.2.1 q3.2.2.2.2.2.1 q3.2.2.2.2.2.2.1 q3.2.2.2.2.2.2.2.1 q3.2.2.2.2.2.2.2.2.1 q3.2.2.2.2.2.2.2.2.2.1 q3.2.2.2.2.2.2.2.2.2.2.1 q3.2.2.2.2.2.2.2.2.2.2.2.1 q3.2.2.2.2.2.2.2.2.2.2.2.2.1 q3.2.2.2.2.2.2.2.2.2.2.2.2.2.1 q3.2.2.2.2.2.2.2.2.2.2.2.2.2.2.1 q3.2.2.2.2.2.2.2.2.2.2.2.2.2.2.2.1 q3.2.2.2.2.2.2.2.2.2.2.2.2.2.2.2.2.1 q3.2.2.2.2.2.2.2.2.2.2.2.2.2.2.2.2.2.1 q3.2.2.2.2.2.2.2.2.2.2.2.2.2.2.2.2.2.2.1 q3.2.2.2.2.2.2.2.2.2.2.2.2.2.2.2.2.2.2.2).flatten := hD
      refine W.eq (g2 := F0 m 39 ls [.int q3.1]) rfl ?_
      obtain rfl := Option.some.inj hF
      subst hQ
      subst hA
      exact W.iret hx hb hr (fun t ht hW => zq_mu (by rw [ht]; exact hP) (hS.F ht)) hS.2.2 (z_d hX7_pagesBy_0 21 rfl)
    · have hF := z_neg hc18 hF
      refine lv_aload_n hx hb (z_d hX7_pagesBy_0 11 rfl) rfl (lv_at hl 0 rfl) ?_
      refine lv_aload_n hx hb (z_d hX7_pagesBy_0 12 rfl) rfl (lv_at hl 0 rfl) ?_
      refine lv_iload_n hx hb (z_d hX7_pagesBy_0 13 rfl) rfl (lv_at hl 1 rfl) ?_
      refine lv_iload_n hx hb (z_d hX7_pagesBy_0 14 rfl) rfl (lv_at hl 2 rfl) ?_
      refine z_bnd hF (fun q4 hq4 hF => ?_)
      refine z_mu0 (z_rV (As := [.int p1, .int p2]) (rest := [.ref (Am 0)]) hx hb hml hown hts vt_X7_pagesBehind (c_X7_pagesBehind l Z Am M p1 p2 _ hq4) rfl rfl ⟨Nat.le_of_ble_eq_true rfl, Nat.le_of_ble_eq_true rfl⟩ k_m_X7_192 zPmu_blind (z_recv (q := (RX7, TX7, 19)) (ci := 7) (q0 := 0) hK (zP_reg hP 0 rfl) rfl rfl) (z_prem hK hP hD) rfl hl.1 (Nat.le_of_ble_eq_true rfl) (z_d hX7_pagesBy_0 15 rfl) ⟨Nat.zero_le _, Nat.zero_le _⟩) hS hD (adr_Model _ _ _ _) (fun H locs hP hD hS => ?_)
      have hP : va_P Z.1 vwCl (l_Model Z.2.1 Am q4.2.1 q4.2.2.1 q4.2.2.2.1 q4.2.2.2.2.1 q4.2.2.2.2.2.1 q4.2.2.2.2.2.2.1 q4.2.2.2.2.2.2.2.1 q4.2.2.2.2.2.2.2.2.1 q4.2.2.2.2.2.2.2.2.2.1 q4.2.2.2.2.2.2.2.2.2.2.1 q4.2.2.2.2.2.2.2.2.2.2.2.1 q4.2.2.2.2.2.2.2.2.2.2.2.2.1 q4.2.2.2.2.2.2.2.2.2.2.2.2.2.1 q4.2.2.2.2.2.2.2.2.2.2.2.2.2.2.1 q4.2.2.2.2.2.2.2.2.2.2.2.2.2.2.2.1 q4.2.2.2.2.2.2.2.2.2.2.2.2.2.2.2.2.1 q4.2.2.2.2.2.2.2.2.2.2.2.2.2.2.2.2.2.1 q4.2.2.2.2.2.2.2.2.2.2.2.2.2.2.2.2.2.2.1 q4.2.2.2.2.2.2.2.2.2.2.2.2.2.2.2.2.2.2.2).flatten H := hP
      have hD : va_D A (l_Model Z.2.1 Am q4.2.1 q4.2.2.1 q4.2.2.2.1 q4.2.2.2.2.1 q4.2.2.2.2.2.1 q4.2.2.2.2.2.2.1 q4.2.2.2.2.2.2.2.1 q4.2.2.2.2.2.2.2.2.1 q4.2.2.2.2.2.2.2.2.2.1 q4.2.2.2.2.2.2.2.2.2.2.1 q4.2.2.2.2.2.2.2.2.2.2.2.1 q4.2.2.2.2.2.2.2.2.2.2.2.2.1 q4.2.2.2.2.2.2.2.2.2.2.2.2.2.1 q4.2.2.2.2.2.2.2.2.2.2.2.2.2.2.1 q4.2.2.2.2.2.2.2.2.2.2.2.2.2.2.2.1 q4.2.2.2.2.2.2.2.2.2.2.2.2.2.2.2.2.1 q4.2.2.2.2.2.2.2.2.2.2.2.2.2.2.2.2.2.1 q4.2.2.2.2.2.2.2.2.2.2.2.2.2.2.2.2.2.2.1 q4.2.2.2.2.2.2.2.2.2.2.2.2.2.2.2.2.2.2.2).flatten := hD
      refine W.eq (g2 := F0 m 28 ls [.int q4.1, .ref (Am 0)]) rfl ?_
      refine z_let hF (fun q5 hq5 hF => ?_)
      refine z_mu0 (z_rV (As := [.int q4.1]) (rest := []) hx hb hml hown hts vt_X7_tells (c_X7_tells l Z Am q4.2 q4.1 _ hq5) rfl rfl ⟨Nat.le_of_ble_eq_true rfl, Nat.le_of_ble_eq_true rfl⟩ k_m_X7_54 zPmu_blind (z_recv (q := (RX7, TX7, 19)) (ci := 7) (q0 := 0) hK (zP_reg hP 0 rfl) rfl rfl) (z_prem hK hP hD) rfl hl.1 (Nat.le_of_ble_eq_true rfl) (z_d hX7_pagesBy_0 16 rfl) ⟨Nat.zero_le _, Nat.zero_le _⟩) hS hD (adr_Model _ _ _ _) (fun H locs hP hD hS => ?_)
      have hP : va_P Z.1 vwCl (l_Model Z.2.1 Am q5.2.1 q5.2.2.1 q5.2.2.2.1 q5.2.2.2.2.1 q5.2.2.2.2.2.1 q5.2.2.2.2.2.2.1 q5.2.2.2.2.2.2.2.1 q5.2.2.2.2.2.2.2.2.1 q5.2.2.2.2.2.2.2.2.2.1 q5.2.2.2.2.2.2.2.2.2.2.1 q5.2.2.2.2.2.2.2.2.2.2.2.1 q5.2.2.2.2.2.2.2.2.2.2.2.2.1 q5.2.2.2.2.2.2.2.2.2.2.2.2.2.1 q5.2.2.2.2.2.2.2.2.2.2.2.2.2.2.1 q5.2.2.2.2.2.2.2.2.2.2.2.2.2.2.2.1 q5.2.2.2.2.2.2.2.2.2.2.2.2.2.2.2.2.1 q5.2.2.2.2.2.2.2.2.2.2.2.2.2.2.2.2.2.1 q5.2.2.2.2.2.2.2.2.2.2.2.2.2.2.2.2.2.2.1 q5.2.2.2.2.2.2.2.2.2.2.2.2.2.2.2.2.2.2.2).flatten H := hP
      have hD : va_D A (l_Model Z.2.1 Am q5.2.1 q5.2.2.1 q5.2.2.2.1 q5.2.2.2.2.1 q5.2.2.2.2.2.1 q5.2.2.2.2.2.2.1 q5.2.2.2.2.2.2.2.1 q5.2.2.2.2.2.2.2.2.1 q5.2.2.2.2.2.2.2.2.2.1 q5.2.2.2.2.2.2.2.2.2.2.1 q5.2.2.2.2.2.2.2.2.2.2.2.1 q5.2.2.2.2.2.2.2.2.2.2.2.2.1 q5.2.2.2.2.2.2.2.2.2.2.2.2.2.1 q5.2.2.2.2.2.2.2.2.2.2.2.2.2.2.1 q5.2.2.2.2.2.2.2.2.2.2.2.2.2.2.2.1 q5.2.2.2.2.2.2.2.2.2.2.2.2.2.2.2.2.1 q5.2.2.2.2.2.2.2.2.2.2.2.2.2.2.2.2.2.1 q5.2.2.2.2.2.2.2.2.2.2.2.2.2.2.2.2.2.2.1 q5.2.2.2.2.2.2.2.2.2.2.2.2.2.2.2.2.2.2.2).flatten := hD
      refine W.eq (g2 := F0 m 31 ls [.int q5.1]) rfl ?_
      refine lv_goto (tgt := 39) hx hb (z_d hX7_pagesBy_0 17 rfl) (by decide) ?_
      obtain rfl := Option.some.inj hF
      subst hQ
      subst hA
      exact W.iret hx hb hr (fun t ht hW => zq_mu (by rw [ht]; exact hP) (hS.F ht)) hS.2.2 (z_d hX7_pagesBy_0 21 rfl)
  · have hF := z_pos hc5 hF
    refine lv_aload_n hx hb (z_d hX7_pagesBy_0 4 rfl) rfl (lv_at hl 0 rfl) ?_
    refine lv_iconst (v := 1) hx hb (z_d hX7_pagesBy_0 5 rfl) (by decide) ?_
    refine z_let hF (fun q6 hq6 hF => ?_)
    refine z_mu0 (z_rV (As := [.int 1]) (rest := []) hx hb hml hown hts vt_X7_fails (c_X7_fails l Z Am M 1 _ hq6) rfl rfl ⟨Nat.le_of_ble_eq_true rfl, Nat.le_of_ble_eq_true rfl⟩ k_m_X7_129 zPmu_blind (z_recv (q := (RX7, TX7, 19)) (ci := 7) (q0 := 0) hK (zP_reg hP 0 rfl) rfl rfl) (z_prem hK hP hD) rfl hl.1 (Nat.le_of_ble_eq_true rfl) (z_d hX7_pagesBy_0 6 rfl) ⟨Nat.zero_le _, Nat.zero_le _⟩) hS hD (adr_Model _ _ _ _) (fun H locs hP hD hS => ?_)
    have hP : va_P Z.1 vwCl (l_Model Z.2.1 Am q6.2.1 q6.2.2.1 q6.2.2.2.1 q6.2.2.2.2.1 q6.2.2.2.2.2.1 q6.2.2.2.2.2.2.1 q6.2.2.2.2.2.2.2.1 q6.2.2.2.2.2.2.2.2.1 q6.2.2.2.2.2.2.2.2.2.1 q6.2.2.2.2.2.2.2.2.2.2.1 q6.2.2.2.2.2.2.2.2.2.2.2.1 q6.2.2.2.2.2.2.2.2.2.2.2.2.1 q6.2.2.2.2.2.2.2.2.2.2.2.2.2.1 q6.2.2.2.2.2.2.2.2.2.2.2.2.2.2.1 q6.2.2.2.2.2.2.2.2.2.2.2.2.2.2.2.1 q6.2.2.2.2.2.2.2.2.2.2.2.2.2.2.2.2.1 q6.2.2.2.2.2.2.2.2.2.2.2.2.2.2.2.2.2.1 q6.2.2.2.2.2.2.2.2.2.2.2.2.2.2.2.2.2.2.1 q6.2.2.2.2.2.2.2.2.2.2.2.2.2.2.2.2.2.2.2).flatten H := hP
    have hD : va_D A (l_Model Z.2.1 Am q6.2.1 q6.2.2.1 q6.2.2.2.1 q6.2.2.2.2.1 q6.2.2.2.2.2.1 q6.2.2.2.2.2.2.1 q6.2.2.2.2.2.2.2.1 q6.2.2.2.2.2.2.2.2.1 q6.2.2.2.2.2.2.2.2.2.1 q6.2.2.2.2.2.2.2.2.2.2.1 q6.2.2.2.2.2.2.2.2.2.2.2.1 q6.2.2.2.2.2.2.2.2.2.2.2.2.1 q6.2.2.2.2.2.2.2.2.2.2.2.2.2.1 q6.2.2.2.2.2.2.2.2.2.2.2.2.2.2.1 q6.2.2.2.2.2.2.2.2.2.2.2.2.2.2.2.1 q6.2.2.2.2.2.2.2.2.2.2.2.2.2.2.2.2.1 q6.2.2.2.2.2.2.2.2.2.2.2.2.2.2.2.2.2.1 q6.2.2.2.2.2.2.2.2.2.2.2.2.2.2.2.2.2.2.1 q6.2.2.2.2.2.2.2.2.2.2.2.2.2.2.2.2.2.2.2).flatten := hD
    refine W.eq (g2 := F0 m 13 ls [.int q6.1]) rfl ?_
    obtain rfl := Option.some.inj hF
    subst hQ
    subst hA
    exact W.iret hx hb hr (fun t ht hW => zq_mu (by rw [ht]; exact hP) (hS.F ht)) hS.2.2 (z_d hX7_pagesBy_0 7 rfl)
def rm_X7_greatestLength : Room := { frames := 8, cells := 0, slots := 0, locals := 186 }
set_option maxRecDepth 100000 in
set_option maxHeartbeats 4000000 in
theorem c_X7_greatestLength (l : Launch) (Z : zZ) (Am : Nat → Nat) (M : t_Model) (p1 : Int32) (R : Int32 × t_Model) (hF : X7_greatestLength M p1 = some R) : zMU l yX7_greatestLength (zw yX7_greatestLength cX7_greatestLength 4 (some .int)) rm_X7_greatestLength Z [.ref (Am 0), .int p1] (w_Model Z.2.1 Am M) (w_Model Z.2.1 Am R.2) (some (.int R.1)) := by
  refine zMU_of (by decide) (Nat.le_of_ble_eq_true rfl) (fun p e s m below meth c hx hb hr hml hown hts hlocks hK A hA Q hQ ls hl hP hD hS => ?_)
  unfold X7_greatestLength at hF
  have hl : lv_has ls 4 [(0, .ref (Am 0)), (1, .int p1)] := hl
  have hown : s.vm.findClass RX7 = some m.cls := hown
  have hP : va_P Z.1 vwCl (l_Model Z.2.1 Am M.1 M.2.1 M.2.2.1 M.2.2.2.1 M.2.2.2.2.1 M.2.2.2.2.2.1 M.2.2.2.2.2.2.1 M.2.2.2.2.2.2.2.1 M.2.2.2.2.2.2.2.2.1 M.2.2.2.2.2.2.2.2.2.1 M.2.2.2.2.2.2.2.2.2.2.1 M.2.2.2.2.2.2.2.2.2.2.2.1 M.2.2.2.2.2.2.2.2.2.2.2.2.1 M.2.2.2.2.2.2.2.2.2.2.2.2.2.1 M.2.2.2.2.2.2.2.2.2.2.2.2.2.2.1 M.2.2.2.2.2.2.2.2.2.2.2.2.2.2.2.1 M.2.2.2.2.2.2.2.2.2.2.2.2.2.2.2.2.1 M.2.2.2.2.2.2.2.2.2.2.2.2.2.2.2.2.2.1 M.2.2.2.2.2.2.2.2.2.2.2.2.2.2.2.2.2.2).flatten s.heap := hP
  have hD : va_D A (l_Model Z.2.1 Am M.1 M.2.1 M.2.2.1 M.2.2.2.1 M.2.2.2.2.1 M.2.2.2.2.2.1 M.2.2.2.2.2.2.1 M.2.2.2.2.2.2.2.1 M.2.2.2.2.2.2.2.2.1 M.2.2.2.2.2.2.2.2.2.1 M.2.2.2.2.2.2.2.2.2.2.1 M.2.2.2.2.2.2.2.2.2.2.2.1 M.2.2.2.2.2.2.2.2.2.2.2.2.1 M.2.2.2.2.2.2.2.2.2.2.2.2.2.1 M.2.2.2.2.2.2.2.2.2.2.2.2.2.2.1 M.2.2.2.2.2.2.2.2.2.2.2.2.2.2.2.1 M.2.2.2.2.2.2.2.2.2.2.2.2.2.2.2.2.1 M.2.2.2.2.2.2.2.2.2.2.2.2.2.2.2.2.2.1 M.2.2.2.2.2.2.2.2.2.2.2.2.2.2.2.2.2.2).flatten := hD
  have L29 : ∀ (x2 : Int32) (n : Nat) (v : t_Model × Int32) (X : t_Model × Int32) (hF : zloop (b_X7_greatestLength_29 p1 x2) n v = some X) (H : Heap) (locs : List Loc) (ls : Array Slot) (hP : va_P Z.1 vwCl (l_Model Z.2.1 Am v.1.1 v.1.2.1 v.1.2.2.1 v.1.2.2.2.1 v.1.2.2.2.2.1 v.1.2.2.2.2.2.1 v.1.2.2.2.2.2.2.1 v.1.2.2.2.2.2.2.2.1 v.1.2.2.2.2.2.2.2.2.1 v.1.2.2.2.2.2.2.2.2.2.1 v.1.2.2.2.2.2.2.2.2.2.2.1 v.1.2.2.2.2.2.2.2.2.2.2.2.1 v.1.2.2.2.2.2.2.2.2.2.2.2.2.1 v.1.2.2.2.2.2.2.2.2.2.2.2.2.2.1 v.1.2.2.2.2.2.2.2.2.2.2.2.2.2.2.1 v.1.2.2.2.2.2.2.2.2.2.2.2.2.2.2.2.1 v.1.2.2.2.2.2.2.2.2.2.2.2.2.2.2.2.2.1 v.1.2.2.2.2.2.2.2.2.2.2.2.2.2.2.2.2.2.1 v.1.2.2.2.2.2.2.2.2.2.2.2.2.2.2.2.2.2.2).flatten H) (hD : va_D A (l_Model Z.2.1 Am v.1.1 v.1.2.1 v.1.2.2.1 v.1.2.2.2.1 v.1.2.2.2.2.1 v.1.2.2.2.2.2.1 v.1.2.2.2.2.2.2.1 v.1.2.2.2.2.2.2.2.1 v.1.2.2.2.2.2.2.2.2.1 v.1.2.2.2.2.2.2.2.2.2.1 v.1.2.2.2.2.2.2.2.2.2.2.1 v.1.2.2.2.2.2.2.2.2.2.2.2.1 v.1.2.2.2.2.2.2.2.2.2.2.2.2.1 v.1.2.2.2.2.2.2.2.2.2.2.2.2.2.1 v.1.2.2.2.2.2.2.2.2.2.2.2.2.2.2.1 v.1.2.2.2.2.2.2.2.2.2.2.2.2.2.2.2.1 v.1.2.2.2.2.2.2.2.2.2.2.2.2.2.2.2.2.1 v.1.2.2.2.2.2.2.2.2.2.2.2.2.2.2.2.2.2.1 v.1.2.2.2.2.2.2.2.2.2.2.2.2.2.2.2.2.2.2).flatten) (hS : va_S A s.heap H locs) (hl : lv_has ls 4 [(0, .ref (Am 0)), (1, .int p1), (2, .int x2), (3, .int v.2)]) (K1 : ∀ (H : Heap) (locs : List Loc) (ls : Array Slot) (hP : va_P Z.1 vwCl (l_Model Z.2.1 Am X.1.1 X.1.2.1 X.1.2.2.1 X.1.2.2.2.1 X.1.2.2.2.2.1 X.1.2.2.2.2.2.1 X.1.2.2.2.2.2.2.1 X.1.2.2.2.2.2.2.2.1 X.1.2.2.2.2.2.2.2.2.1 X.1.2.2.2.2.2.2.2.2.2.1 X.1.2.2.2.2.2.2.2.2.2.2.1 X.1.2.2.2.2.2.2.2.2.2.2.2.1 X.1.2.2.2.2.2.2.2.2.2.2.2.2.1 X.1.2.2.2.2.2.2.2.2.2.2.2.2.2.1 X.1.2.2.2.2.2.2.2.2.2.2.2.2.2.2.1 X.1.2.2.2.2.2.2.2.2.2.2.2.2.2.2.2.1 X.1.2.2.2.2.2.2.2.2.2.2.2.2.2.2.2.2.1 X.1.2.2.2.2.2.2.2.2.2.2.2.2.2.2.2.2.2.1 X.1.2.2.2.2.2.2.2.2.2.2.2.2.2.2.2.2.2.2).flatten H) (hD : va_D A (l_Model Z.2.1 Am X.1.1 X.1.2.1 X.1.2.2.1 X.1.2.2.2.1 X.1.2.2.2.2.1 X.1.2.2.2.2.2.1 X.1.2.2.2.2.2.2.1 X.1.2.2.2.2.2.2.2.1 X.1.2.2.2.2.2.2.2.2.1 X.1.2.2.2.2.2.2.2.2.2.1 X.1.2.2.2.2.2.2.2.2.2.2.1 X.1.2.2.2.2.2.2.2.2.2.2.2.1 X.1.2.2.2.2.2.2.2.2.2.2.2.2.1 X.1.2.2.2.2.2.2.2.2.2.2.2.2.2.1 X.1.2.2.2.2.2.2.2.2.2.2.2.2.2.2.1 X.1.2.2.2.2.2.2.2.2.2.2.2.2.2.2.2.1 X.1.2.2.2.2.2.2.2.2.2.2.2.2.2.2.2.2.1 X.1.2.2.2.2.2.2.2.2.2.2.2.2.2.2.2.2.2.1 X.1.2.2.2.2.2.2.2.2.2.2.2.2.2.2.2.2.2.2).flatten) (hS : va_S A s.heap H locs) (hl : lv_has ls 4 [(0, .ref (Am 0)), (1, .int p1), (3, .int X.2)]), W p l e rm_X7_greatestLength s m ([.ref (Am 0), .int p1] : List Value).toArray below meth c H locs 0 0 Q (F0 m 45 ls [])), W p l e rm_X7_greatestLength s m ([.ref (Am 0), .int p1] : List Value).toArray below meth c H locs 0 0 Q (F0 m 29 ls []) := by
    intro x2
    refine z_loopE (fun rec ih v X hF H locs ls hP hD hS hl K1 => ?_)
    unfold b_X7_greatestLength_29 at hF
    refine lv_aload_n hx hb (z_d hX7_greatestLength_0 17 rfl) rfl (lv_at hl 0 rfl) ?_
    refine lv_iload_n hx hb (z_d hX7_greatestLength_0 18 rfl) rfl (lv_at hl 1 rfl) ?_
    refine lv_iload_n hx hb (z_d hX7_greatestLength_0 19 rfl) rfl (lv_at hl 3 rfl) ?_
    refine z_bnd hF (fun q4 hq4 hF => ?_)
    refine z_mu0 (z_rV (As := [.int p1, .int v.2]) (rest := []) hx hb hml hown hts vt_X7_pagesBehind (c_X7_pagesBehind l Z Am v.1 p1 v.2 _ hq4) rfl rfl ⟨Nat.le_of_ble_eq_true rfl, Nat.le_of_ble_eq_true rfl⟩ k_m_X7_192 zPmu_blind (z_recv (q := (RX7, TX7, 19)) (ci := 7) (q0 := 0) hK (zP_reg hP 0 rfl) rfl rfl) (z_prem hK hP hD) rfl hl.1 (Nat.le_of_ble_eq_true rfl) (z_d hX7_greatestLength_0 20 rfl) ⟨Nat.zero_le _, Nat.zero_le _⟩) hS hD (adr_Model _ _ _ _) (fun H locs hP hD hS => ?_)
    have hP : va_P Z.1 vwCl (l_Model Z.2.1 Am q4.2.1 q4.2.2.1 q4.2.2.2.1 q4.2.2.2.2.1 q4.2.2.2.2.2.1 q4.2.2.2.2.2.2.1 q4.2.2.2.2.2.2.2.1 q4.2.2.2.2.2.2.2.2.1 q4.2.2.2.2.2.2.2.2.2.1 q4.2.2.2.2.2.2.2.2.2.2.1 q4.2.2.2.2.2.2.2.2.2.2.2.1 q4.2.2.2.2.2.2.2.2.2.2.2.2.1 q4.2.2.2.2.2.2.2.2.2.2.2.2.2.1 q4.2.2.2.2.2.2.2.2.2.2.2.2.2.2.1 q4.2.2.2.2.2.2.2.2.2.2.2.2.2.2.2.1 q4.2.2.2.2.2.2.2.2.2.2.2.2.2.2.2.2.1 q4.2.2.2.2.2.2.2.2.2.2.2.2.2.2.2.2.2.1 q4.2.2.2.2.2.2.2.2.2.2.2.2.2.2.2.2.2.2.1 q4.2.2.2.2.2.2.2.2.2.2.2.2.2.2.2.2.2.2.2).flatten H := hP
    have hD : va_D A (l_Model Z.2.1 Am q4.2.1 q4.2.2.1 q4.2.2.2.1 q4.2.2.2.2.1 q4.2.2.2.2.2.1 q4.2.2.2.2.2.2.1 q4.2.2.2.2.2.2.2.1 q4.2.2.2.2.2.2.2.2.1 q4.2.2.2.2.2.2.2.2.2.1 q4.2.2.2.2.2.2.2.2.2.2.1 q4.2.2.2.2.2.2.2.2.2.2.2.1 q4.2.2.2.2.2.2.2.2.2.2.2.2.1 q4.2.2.2.2.2.2.2.2.2.2.2.2.2.1 q4.2.2.2.2.2.2.2.2.2.2.2.2.2.2.1 q4.2.2.2.2.2.2.2.2.2.2.2.2.2.2.2.1 q4.2.2.2.2.2.2.2.2.2.2.2.2.2.2.2.2.1 q4.2.2.2.2.2.2.2.2.2.2.2.2.2.2.2.2.2.1 q4.2.2.2.2.2.2.2.2.2.2.2.2.2.2.2.2.2.2.1 q4.2.2.2.2.2.2.2.2.2.2.2.2.2.2.2.2.2.2.2).flatten := hD
    refine W.eq (g2 := F0 m 35 ls [.int q4.1]) rfl ?_
    refine lv_iload_n hx hb (z_d hX7_greatestLength_0 21 rfl) rfl (lv_at hl 2 rfl) ?_
    refine lv_icmp_le (tgt := 45) hx hb (z_d hX7_greatestLength_0 22 rfl) (by decide) (fun hc36 => ?_) (fun hc36 => ?_)
    · have hF := z_pos hc36 hF
      obtain rfl := Option.some.inj hF
      exact K1 _ _ ls hP hD hS (lv_sub hl [0, 1, 3] rfl)
    · have hF := z_neg hc36 hF
      refine z_let hF (fun u5 hu5 hF => ?_)
      refine lv_iinc (v := u5) (lv' := [(3, .int u5), (0, .ref (Am 0)), (1, .int p1), (2, .int x2)]) hx hb (z_d hX7_greatestLength_0 23 rfl) hl (k := 3) rfl (z_incm1 hu5) (by decide) rfl (fun ls hl => ?_)
      refine lv_goto (tgt := 29) hx hb (z_d hX7_greatestLength_0 24 rfl) (by decide) ?_
      exact ih _ _ hF _ _ ls hP hD hS (lv_sub hl [1, 2, 3, 0] rfl) K1
  refine lv_aload_n hx hb (z_d hX7_greatestLength_0 0 rfl) rfl (lv_at hl 0 rfl) ?_
  refine lv_iload_n hx hb (z_d hX7_greatestLength_0 1 rfl) rfl (lv_at hl 1 rfl) ?_
  refine z_bnd hF (fun q1 hq1 hF => ?_)
  refine z_ro_i (z_rV (As := [.int p1]) (rest := []) hx hb hml hown hts vt_X7_isElement (c_X7_isElement l Z Am M p1 _ hq1) rfl rfl ⟨Nat.le_of_ble_eq_true rfl, Nat.le_of_ble_eq_true rfl⟩ k_m_X7_149 zPro_blind (z_recv (q := (RX7, TX7, 19)) (ci := 7) (q0 := 0) hK (zP_reg hP 0 rfl) rfl rfl) (z_prec hK hP) rfl hl.1 (Nat.le_of_ble_eq_true rfl) (z_d hX7_greatestLength_0 2 rfl) ⟨Nat.zero_le _, Nat.zero_le _⟩) hS hP (fun H locs hP hS => ?_)
  refine lv_if_ne (tgt := 14) hx hb (z_d hX7_greatestLength_0 3 rfl) (by decide) (fun hc5 => ?_) (fun hc5 => ?_)
  · have hF := z_neg hc5 hF
    refine lv_aload_n hx hb (z_d hX7_greatestLength_0 8 rfl) rfl (lv_at hl 0 rfl) ?_
    refine lv_aload_n hx hb (z_d hX7_greatestLength_0 9 rfl) rfl (lv_at hl 0 rfl) ?_
    refine va_get (D := Z.1) (ci := 7) (v := .ref (Am 1)) (C := RX7) (T := TX7) (N := 19) hx hb hts zinX7 hown hK.1 (zP_reg hP 0 rfl) 0 rfl rfl 0 (by decide) (hts _ k_f_X7_7) (fun _ h9 => h9) rfl (z_d hX7_greatestLength_0 10 rfl) ?_
    refine lv_iconst (v := 0) hx hb (z_d hX7_greatestLength_0 11 rfl) (by decide) ?_
    refine z_ix hF (fun hin hF => ?_)
    refine va_iald (D := Z.1) (f := M.1) hx hb hK.1 (zP_reg hP 1 rfl) 0 0 rfl rfl hin (z_d hX7_greatestLength_0 12 rfl) ?_
    refine z_let hF (fun u2 hu2 hF => ?_)
    refine lv_topE hu2 ?_
    refine z_bnd hF (fun q3 hq3 hF => ?_)
    refine z_mu0 (z_rV (As := [.int u2]) (rest := []) hx hb hml hown hts vt_X7_pagesIf (c_X7_pagesIf l Z Am M u2 _ hq3) rfl rfl ⟨Nat.le_of_ble_eq_true rfl, Nat.le_of_ble_eq_true rfl⟩ k_m_X7_189 zPmu_blind (z_recv (q := (RX7, TX7, 19)) (ci := 7) (q0 := 0) hK (zP_reg hP 0 rfl) rfl rfl) (z_prem hK hP hD) rfl hl.1 (Nat.le_of_ble_eq_true rfl) (z_d hX7_greatestLength_0 13 rfl) ⟨Nat.zero_le _, Nat.zero_le _⟩) hS hD (adr_Model _ _ _ _) (fun H locs hP hD hS => ?_)
    have hP : va_P Z.1 vwCl (l_Model Z.2.1 Am q3.2.1 q3.2.2.1 q3.2.2.2.1 q3.2.2.2.2.1 q3.2.2.2.2.2.1 q3.2.2.2.2.2.2.1 q3.2.2.2.2.2.2.2.1 q3.2.2.2.2.2.2.2.2.1 q3.2.2.2.2.2.2.2.2.2.1 q3.2.2.2.2.2.2.2.2.2.2.1 q3.2.2.2.2.2.2.2.2.2.2.2.1 q3.2.2.2.2.2.2.2.2.2.2.2.2.1 q3.2.2.2.2.2.2.2.2.2.2.2.2.2.1 q3.2.2.2.2.2.2.2.2.2.2.2.2.2.2.1 q3.2.2.2.2.2.2.2.2.2.2.2.2.2.2.2.1 q3.2.2.2.2.2.2.2.2.2.2.2.2.2.2.2.2.1 q3.2.2.2.2.2.2.2.2.2.2.2.2.2.2.2.2.2.1 q3.2.2.2.2.2.2.2.2.2.2.2.2.2.2.2.2.2.2.1 q3.2.2.2.2.2.2.2.2.2.2.2.2.2.2.2.2.2.2.2).flatten H := hP
    have hD : va_D A (l_Model Z.2.1 Am q3.2.1 q3.2.2.1 q3.2.2.2.1 q3.2.2.2.2.1 q3.2.2.2.2.2.1 q3.2.2.2.2.2.2.1 q3.2.2.2.2.2.2.2.1 q3.2.2.2.2.2.2.2.2.1 q3.2.2.2.2.2.2.2.2.2.1 q3.2.2.2.2.2.2.2.2.2.2.1 q3.2.2.2.2.2.2.2.2.2.2.2.1 q3.2.2.2.2.2.2.2.2.2.2.2.2.1 q3.2.2.2.2.2.2.2.2.2.2.2.2.2.1 q3.2.2.2.2.2.2.2.2.2.2.2.2.2.2.1 q3.2.2.2.2.2.2.2.2.2.2.2.2.2.2.2.1 q3.2.2.2.2.2.2.2.2.2.2.2.2.2.2.2.2.1 q3.2.2.2.2.2.2.2.2.2.2.2.2.2.2.2.2.2.1 q3.2.2.2.2.2.2.2.2.2.2.2.2.2.2.2.2.2.2.1 q3.2.2.2.2.2.2.2.2.2.2.2.2.2.2.2.2.2.2.2).flatten := hD
    refine W.eq (g2 := F0 m 24 ls [.int q3.1]) rfl ?_
    refine lv_istore_n (lv' := [(2, .int q3.1), (0, .ref (Am 0)), (1, .int p1)]) hx hb (z_d hX7_greatestLength_0 14 rfl) rfl hl (by decide) rfl (fun ls hl => ?_)
    refine lv_sipush (v := 400) hx hb (z_d hX7_greatestLength_0 15 rfl) (by decide) ?_
    refine lv_istore_n (lv' := [(3, .int 400), (2, .int q3.1), (0, .ref (Am 0)), (1, .int p1)]) hx hb (z_d hX7_greatestLength_0 16 rfl) rfl hl (by decide) rfl (fun ls hl => ?_)
    refine z_bnd hF (fun q6 hq6 hF => ?_)
    refine L29 q3.1 _ _ _ hq6 _ _ ls hP hD hS (lv_sub hl [2, 3, 1, 0] rfl) (fun H locs ls hP hD hS hl => ?_)
    refine lv_aload_n hx hb (z_d hX7_greatestLength_0 25 rfl) rfl (lv_at hl 0 rfl) ?_
    refine lv_iload_n hx hb (z_d hX7_greatestLength_0 26 rfl) rfl (lv_at hl 2 rfl) ?_
    refine z_let hF (fun q7 hq7 hF => ?_)
    refine z_mu0 (z_rV (As := [.int q6.2]) (rest := []) hx hb hml hown hts vt_X7_tells (c_X7_tells l Z Am q6.1 q6.2 _ hq7) rfl rfl ⟨Nat.le_of_ble_eq_true rfl, Nat.le_of_ble_eq_true rfl⟩ k_m_X7_54 zPmu_blind (z_recv (q := (RX7, TX7, 19)) (ci := 7) (q0 := 0) hK (zP_reg hP 0 rfl) rfl rfl) (z_prem hK hP hD) rfl hl.1 (Nat.le_of_ble_eq_true rfl) (z_d hX7_greatestLength_0 27 rfl) ⟨Nat.zero_le _, Nat.zero_le _⟩) hS hD (adr_Model _ _ _ _) (fun H locs hP hD hS => ?_)
    have hP : va_P Z.1 vwCl (l_Model Z.2.1 Am q7.2.1 q7.2.2.1 q7.2.2.2.1 q7.2.2.2.2.1 q7.2.2.2.2.2.1 q7.2.2.2.2.2.2.1 q7.2.2.2.2.2.2.2.1 q7.2.2.2.2.2.2.2.2.1 q7.2.2.2.2.2.2.2.2.2.1 q7.2.2.2.2.2.2.2.2.2.2.1 q7.2.2.2.2.2.2.2.2.2.2.2.1 q7.2.2.2.2.2.2.2.2.2.2.2.2.1 q7.2.2.2.2.2.2.2.2.2.2.2.2.2.1 q7.2.2.2.2.2.2.2.2.2.2.2.2.2.2.1 q7.2.2.2.2.2.2.2.2.2.2.2.2.2.2.2.1 q7.2.2.2.2.2.2.2.2.2.2.2.2.2.2.2.2.1 q7.2.2.2.2.2.2.2.2.2.2.2.2.2.2.2.2.2.1 q7.2.2.2.2.2.2.2.2.2.2.2.2.2.2.2.2.2.2.1 q7.2.2.2.2.2.2.2.2.2.2.2.2.2.2.2.2.2.2.2).flatten H := hP
    have hD : va_D A (l_Model Z.2.1 Am q7.2.1 q7.2.2.1 q7.2.2.2.1 q7.2.2.2.2.1 q7.2.2.2.2.2.1 q7.2.2.2.2.2.2.1 q7.2.2.2.2.2.2.2.1 q7.2.2.2.2.2.2.2.2.1 q7.2.2.2.2.2.2.2.2.2.1 q7.2.2.2.2.2.2.2.2.2.2.1 q7.2.2.2.2.2.2.2.2.2.2.2.1 q7.2.2.2.2.2.2.2.2.2.2.2.2.1 q7.2.2.2.2.2.2.2.2.2.2.2.2.2.1 q7.2.2.2.2.2.2.2.2.2.2.2.2.2.2.1 q7.2.2.2.2.2.2.2.2.2.2.2.2.2.2.2.1 q7.2.2.2.2.2.2.2.2.2.2.2.2.2.2.2.2.1 q7.2.2.2.2.2.2.2.2.2.2.2.2.2.2.2.2.2.1 q7.2.2.2.2.2.2.2.2.2.2.2.2.2.2.2.2.2.2.1 q7.2.2.2.2.2.2.2.2.2.2.2.2.2.2.2.2.2.2.2).flatten := hD
    refine W.eq (g2 := F0 m 50 ls [.int q7.1]) rfl ?_
    obtain rfl := Option.some.inj hF
    subst hQ
    subst hA
    exact W.iret hx hb hr (fun t ht hW => zq_mu (by rw [ht]; exact hP) (hS.F ht)) hS.2.2 (z_d hX7_greatestLength_0 28 rfl)
  · have hF := z_pos hc5 hF
    refine lv_aload_n hx hb (z_d hX7_greatestLength_0 4 rfl) rfl (lv_at hl 0 rfl) ?_
    refine lv_iconst (v := 1) hx hb (z_d hX7_greatestLength_0 5 rfl) (by decide) ?_
    refine z_let hF (fun q8 hq8 hF => ?_)
    refine z_mu0 (z_rV (As := [.int 1]) (rest := []) hx hb hml hown hts vt_X7_fails (c_X7_fails l Z Am M 1 _ hq8) rfl rfl ⟨Nat.le_of_ble_eq_true rfl, Nat.le_of_ble_eq_true rfl⟩ k_m_X7_129 zPmu_blind (z_recv (q := (RX7, TX7, 19)) (ci := 7) (q0 := 0) hK (zP_reg hP 0 rfl) rfl rfl) (z_prem hK hP hD) rfl hl.1 (Nat.le_of_ble_eq_true rfl) (z_d hX7_greatestLength_0 6 rfl) ⟨Nat.zero_le _, Nat.zero_le _⟩) hS hD (adr_Model _ _ _ _) (fun H locs hP hD hS => ?_)
    have hP : va_P Z.1 vwCl (l_Model Z.2.1 Am q8.2.1 q8.2.2.1 q8.2.2.2.1 q8.2.2.2.2.1 q8.2.2.2.2.2.1 q8.2.2.2.2.2.2.1 q8.2.2.2.2.2.2.2.1 q8.2.2.2.2.2.2.2.2.1 q8.2.2.2.2.2.2.2.2.2.1 q8.2.2.2.2.2.2.2.2.2.2.1 q8.2.2.2.2.2.2.2.2.2.2.2.1 q8.2.2.2.2.2.2.2.2.2.2.2.2.1 q8.2.2.2.2.2.2.2.2.2.2.2.2.2.1 q8.2.2.2.2.2.2.2.2.2.2.2.2.2.2.1 q8.2.2.2.2.2.2.2.2.2.2.2.2.2.2.2.1 q8.2.2.2.2.2.2.2.2.2.2.2.2.2.2.2.2.1 q8.2.2.2.2.2.2.2.2.2.2.2.2.2.2.2.2.2.1 q8.2.2.2.2.2.2.2.2.2.2.2.2.2.2.2.2.2.2.1 q8.2.2.2.2.2.2.2.2.2.2.2.2.2.2.2.2.2.2.2).flatten H := hP
    have hD : va_D A (l_Model Z.2.1 Am q8.2.1 q8.2.2.1 q8.2.2.2.1 q8.2.2.2.2.1 q8.2.2.2.2.2.1 q8.2.2.2.2.2.2.1 q8.2.2.2.2.2.2.2.1 q8.2.2.2.2.2.2.2.2.1 q8.2.2.2.2.2.2.2.2.2.1 q8.2.2.2.2.2.2.2.2.2.2.1 q8.2.2.2.2.2.2.2.2.2.2.2.1 q8.2.2.2.2.2.2.2.2.2.2.2.2.1 q8.2.2.2.2.2.2.2.2.2.2.2.2.2.1 q8.2.2.2.2.2.2.2.2.2.2.2.2.2.2.1 q8.2.2.2.2.2.2.2.2.2.2.2.2.2.2.2.1 q8.2.2.2.2.2.2.2.2.2.2.2.2.2.2.2.2.1 q8.2.2.2.2.2.2.2.2.2.2.2.2.2.2.2.2.2.1 q8.2.2.2.2.2.2.2.2.2.2.2.2.2.2.2.2.2.2.1 q8.2.2.2.2.2.2.2.2.2.2.2.2.2.2.2.2.2.2.2).flatten := hD
    refine W.eq (g2 := F0 m 13 ls [.int q8.1]) rfl ?_
    obtain rfl := Option.some.inj hF
    subst hQ
    subst hA
    exact W.iret hx hb hr (fun t ht hW => zq_mu (by rw [ht]; exact hP) (hS.F ht)) hS.2.2 (z_d hX7_greatestLength_0 7 rfl)
def rm_X7_append : Room := { frames := 1, cells := 0, slots := 0, locals := 22 }
set_option maxRecDepth 100000 in
set_option maxHeartbeats 4000000 in
theorem c_X7_append (l : Launch) (Z : zZ) (Am : Nat → Nat) (M : t_Model) (p1 : Int32) (R : Int32 × t_Model) (hF : X7_append M p1 = some R) : zMU l yX7_append (zw yX7_append cX7_append 2 (some .int)) rm_X7_append Z [.ref (Am 0), .int p1] (w_Model Z.2.1 Am M) (w_Model Z.2.1 Am R.2) (some (.int R.1)) := by
  refine zMU_of (by decide) (Nat.le_of_ble_eq_true rfl) (fun p e s m below meth c hx hb hr hml hown hts hlocks hK A hA Q hQ ls hl hP hD hS => ?_)
  unfold X7_append at hF
  have hl : lv_has ls 2 [(0, .ref (Am 0)), (1, .int p1)] := hl
  have hown : s.vm.findClass RX7 = some m.cls := hown
  have hP : va_P Z.1 vwCl (l_Model Z.2.1 Am M.1 M.2.1 M.2.2.1 M.2.2.2.1 M.2.2.2.2.1 M.2.2.2.2.2.1 M.2.2.2.2.2.2.1 M.2.2.2.2.2.2.2.1 M.2.2.2.2.2.2.2.2.1 M.2.2.2.2.2.2.2.2.2.1 M.2.2.2.2.2.2.2.2.2.2.1 M.2.2.2.2.2.2.2.2.2.2.2.1 M.2.2.2.2.2.2.2.2.2.2.2.2.1 M.2.2.2.2.2.2.2.2.2.2.2.2.2.1 M.2.2.2.2.2.2.2.2.2.2.2.2.2.2.1 M.2.2.2.2.2.2.2.2.2.2.2.2.2.2.2.1 M.2.2.2.2.2.2.2.2.2.2.2.2.2.2.2.2.1 M.2.2.2.2.2.2.2.2.2.2.2.2.2.2.2.2.2.1 M.2.2.2.2.2.2.2.2.2.2.2.2.2.2.2.2.2.2).flatten s.heap := hP
  have hD : va_D A (l_Model Z.2.1 Am M.1 M.2.1 M.2.2.1 M.2.2.2.1 M.2.2.2.2.1 M.2.2.2.2.2.1 M.2.2.2.2.2.2.1 M.2.2.2.2.2.2.2.1 M.2.2.2.2.2.2.2.2.1 M.2.2.2.2.2.2.2.2.2.1 M.2.2.2.2.2.2.2.2.2.2.1 M.2.2.2.2.2.2.2.2.2.2.2.1 M.2.2.2.2.2.2.2.2.2.2.2.2.1 M.2.2.2.2.2.2.2.2.2.2.2.2.2.1 M.2.2.2.2.2.2.2.2.2.2.2.2.2.2.1 M.2.2.2.2.2.2.2.2.2.2.2.2.2.2.2.1 M.2.2.2.2.2.2.2.2.2.2.2.2.2.2.2.2.1 M.2.2.2.2.2.2.2.2.2.2.2.2.2.2.2.2.2.1 M.2.2.2.2.2.2.2.2.2.2.2.2.2.2.2.2.2.2).flatten := hD
  refine lv_iload_n hx hb (z_d hX7_append_0 0 rfl) rfl (lv_at hl 1 rfl) ?_
  refine lv_iconst (v := 0) hx hb (z_d hX7_append_0 1 rfl) (by decide) ?_
  refine lv_bipush (v := 127) hx hb (z_d hX7_append_0 2 rfl) (by decide) ?_
  refine z_let hF (fun q1 hq1 hF => ?_)
  refine z_ro_i (z_rS (As := [.int p1, .int 0, .int 127]) (rest := []) hx hb hml hown hts vs_X7_in (c_X7_in l Z p1 0 127 _ hq1) rfl rfl ⟨Nat.le_of_ble_eq_true rfl, Nat.le_of_ble_eq_true rfl⟩ k_m_X7_58 zPro_blind (z_prec hK zP_nil) rfl hl.1 (Nat.le_of_ble_eq_true rfl) (z_d hX7_append_0 3 rfl) ⟨Nat.zero_le _, Nat.zero_le _⟩) hS hP (fun H locs hP hS => ?_)
  refine lv_if_ne (tgt := 16) hx hb (z_d hX7_append_0 4 rfl) (by decide) (fun hc7 => ?_) (fun hc7 => ?_)
  · have hF := z_neg hc7 hF
    refine lv_aload_n hx hb (z_d hX7_append_0 9 rfl) rfl (lv_at hl 0 rfl) ?_
    refine va_get (D := Z.1) (ci := 7) (v := .int M.2.2.2.2.2.1) (C := RX7) (T := TX7) (N := 19) hx hb hts zinX7 hown hK.1 (zP_reg hP 0 rfl) 0 rfl rfl 5 (by decide) (hts _ k_f_X7_195) (fun _ h9 => h9) rfl (z_d hX7_append_0 10 rfl) ?_
    refine lv_sipush (v := 200) hx hb (z_d hX7_append_0 11 rfl) (by decide) ?_
    refine lv_icmp_ne (tgt := 32) hx hb (z_d hX7_append_0 12 rfl) (by decide) (fun hc23 => ?_) (fun hc23 => ?_)
    · have hF := z_neg hc23 hF
      refine lv_aload_n hx hb (z_d hX7_append_0 17 rfl) rfl (lv_at hl 0 rfl) ?_
      refine va_get (D := Z.1) (ci := 7) (v := .ref (Am 4)) (C := RX7) (T := TX7) (N := 19) hx hb hts zinX7 hown hK.1 (zP_reg hP 0 rfl) 0 rfl rfl 4 (by decide) (hts _ k_f_X7_19) (fun _ h9 => h9) rfl (z_d hX7_append_0 18 rfl) ?_
      refine lv_aload_n hx hb (z_d hX7_append_0 19 rfl) rfl (lv_at hl 0 rfl) ?_
      refine va_get (D := Z.1) (ci := 7) (v := .int M.2.2.2.2.2.1) (C := RX7) (T := TX7) (N := 19) hx hb hts zinX7 hown hK.1 (zP_reg hP 0 rfl) 0 rfl rfl 5 (by decide) (hts _ k_f_X7_195) (fun _ h9 => h9) rfl (z_d hX7_append_0 20 rfl) ?_
      refine lv_iload_n hx hb (z_d hX7_append_0 21 rfl) rfl (lv_at hl 1 rfl) ?_
      refine z_ix hF (fun hin hF => ?_)
      refine z_let hF (fun g2 hg2 hF => ?_)
      refine z_iast (Z := Z) (L := l_Model Z.2.1 Am M.1 M.2.1 M.2.2.1 M.2.2.2.1 M.2.2.2.2.1 M.2.2.2.2.2.1 M.2.2.2.2.2.2.1 M.2.2.2.2.2.2.2.1 M.2.2.2.2.2.2.2.2.1 M.2.2.2.2.2.2.2.2.2.1 M.2.2.2.2.2.2.2.2.2.2.1 M.2.2.2.2.2.2.2.2.2.2.2.1 M.2.2.2.2.2.2.2.2.2.2.2.2.1 M.2.2.2.2.2.2.2.2.2.2.2.2.2.1 M.2.2.2.2.2.2.2.2.2.2.2.2.2.2.1 M.2.2.2.2.2.2.2.2.2.2.2.2.2.2.2.1 M.2.2.2.2.2.2.2.2.2.2.2.2.2.2.2.2.1 M.2.2.2.2.2.2.2.2.2.2.2.2.2.2.2.2.2.1 M.2.2.2.2.2.2.2.2.2.2.2.2.2.2.2.2.2.2) (L' := l_Model Z.2.1 Am M.1 M.2.1 M.2.2.1 M.2.2.2.1 g2 M.2.2.2.2.2.1 M.2.2.2.2.2.2.1 M.2.2.2.2.2.2.2.1 M.2.2.2.2.2.2.2.2.1 M.2.2.2.2.2.2.2.2.2.1 M.2.2.2.2.2.2.2.2.2.2.1 M.2.2.2.2.2.2.2.2.2.2.2.1 M.2.2.2.2.2.2.2.2.2.2.2.2.1 M.2.2.2.2.2.2.2.2.2.2.2.2.2.1 M.2.2.2.2.2.2.2.2.2.2.2.2.2.2.1 M.2.2.2.2.2.2.2.2.2.2.2.2.2.2.2.1 M.2.2.2.2.2.2.2.2.2.2.2.2.2.2.2.2.1 M.2.2.2.2.2.2.2.2.2.2.2.2.2.2.2.2.2.1 M.2.2.2.2.2.2.2.2.2.2.2.2.2.2.2.2.2.2) (f := M.2.2.2.2.1) hx hb hK hP hD hS 4 rfl hin hg2 rfl (z_d hX7_append_0 22 rfl) (fun H locs hP hD hS => ?_)
      refine lv_aload_n hx hb (z_d hX7_append_0 23 rfl) rfl (lv_at hl 0 rfl) ?_
      refine lv_dup hx hb (z_d hX7_append_0 24 rfl) rfl ?_
      refine va_get (D := Z.1) (ci := 7) (v := .int M.2.2.2.2.2.1) (C := RX7) (T := TX7) (N := 19) hx hb hts zinX7 hown hK.1 (zP_reg hP 0 rfl) 0 rfl rfl 5 (by decide) (hts _ k_f_X7_195) (fun _ h9 => h9) rfl (z_d hX7_append_0 25 rfl) ?_
      refine lv_iconst (v := 1) hx hb (z_d hX7_append_0 26 rfl) (by decide) ?_
      refine lv_iadd hx hb (z_d hX7_append_0 27 rfl) ?_
      refine z_let hF (fun u3 hu3 hF => ?_)
      refine lv_topE hu3 ?_
      refine z_put (Z := Z) (ci := 7) (v := .int u3) (ty := .int) (L := l_Model Z.2.1 Am M.1 M.2.1 M.2.2.1 M.2.2.2.1 g2 M.2.2.2.2.2.1 M.2.2.2.2.2.2.1 M.2.2.2.2.2.2.2.1 M.2.2.2.2.2.2.2.2.1 M.2.2.2.2.2.2.2.2.2.1 M.2.2.2.2.2.2.2.2.2.2.1 M.2.2.2.2.2.2.2.2.2.2.2.1 M.2.2.2.2.2.2.2.2.2.2.2.2.1 M.2.2.2.2.2.2.2.2.2.2.2.2.2.1 M.2.2.2.2.2.2.2.2.2.2.2.2.2.2.1 M.2.2.2.2.2.2.2.2.2.2.2.2.2.2.2.1 M.2.2.2.2.2.2.2.2.2.2.2.2.2.2.2.2.1 M.2.2.2.2.2.2.2.2.2.2.2.2.2.2.2.2.2.1 M.2.2.2.2.2.2.2.2.2.2.2.2.2.2.2.2.2.2) (L' := l_Model Z.2.1 Am M.1 M.2.1 M.2.2.1 M.2.2.2.1 g2 u3 M.2.2.2.2.2.2.1 M.2.2.2.2.2.2.2.1 M.2.2.2.2.2.2.2.2.1 M.2.2.2.2.2.2.2.2.2.1 M.2.2.2.2.2.2.2.2.2.2.1 M.2.2.2.2.2.2.2.2.2.2.2.1 M.2.2.2.2.2.2.2.2.2.2.2.2.1 M.2.2.2.2.2.2.2.2.2.2.2.2.2.1 M.2.2.2.2.2.2.2.2.2.2.2.2.2.2.1 M.2.2.2.2.2.2.2.2.2.2.2.2.2.2.2.1 M.2.2.2.2.2.2.2.2.2.2.2.2.2.2.2.2.1 M.2.2.2.2.2.2.2.2.2.2.2.2.2.2.2.2.2.1 M.2.2.2.2.2.2.2.2.2.2.2.2.2.2.2.2.2.2) (C := RX7) (T := TX7) (N := 19) hx hb hts zinX7 tyX7 tyX7_ok nmX7 hown hK hP hD hS 0 rfl rfl 5 (by decide) (hts _ k_f_X7_195) (fun _ h9 => h9) rfl (tyX7_ok 5 (by decide)) rfl rfl (Nat.le_of_ble_eq_true rfl) rfl (z_d hX7_append_0 28 rfl) (fun H locs hP hD hS => ?_)
      refine lv_aload_n hx hb (z_d hX7_append_0 29 rfl) rfl (lv_at hl 0 rfl) ?_
      refine lv_aload_n hx hb (z_d hX7_append_0 30 rfl) rfl (lv_at hl 0 rfl) ?_
      refine va_get (D := Z.1) (ci := 7) (v := .int u3) (C := RX7) (T := TX7) (N := 19) hx hb hts zinX7 hown hK.1 (zP_reg hP 0 rfl) 0 rfl rfl 5 (by decide) (hts _ k_f_X7_195) (fun _ h9 => h9) rfl (z_d hX7_append_0 31 rfl) ?_
      refine z_let hF (fun q4 hq4 hF => ?_)
      refine z_mu0 (z_rV (As := [.int u3]) (rest := []) hx hb hml hown hts vt_X7_tells (c_X7_tells l Z Am (M.1, M.2.1, M.2.2.1, M.2.2.2.1, g2, u3, M.2.2.2.2.2.2.1, M.2.2.2.2.2.2.2.1, M.2.2.2.2.2.2.2.2.1, M.2.2.2.2.2.2.2.2.2.1, M.2.2.2.2.2.2.2.2.2.2.1, M.2.2.2.2.2.2.2.2.2.2.2.1, M.2.2.2.2.2.2.2.2.2.2.2.2.1, M.2.2.2.2.2.2.2.2.2.2.2.2.2.1, M.2.2.2.2.2.2.2.2.2.2.2.2.2.2.1, M.2.2.2.2.2.2.2.2.2.2.2.2.2.2.2.1, M.2.2.2.2.2.2.2.2.2.2.2.2.2.2.2.2.1, M.2.2.2.2.2.2.2.2.2.2.2.2.2.2.2.2.2.1, M.2.2.2.2.2.2.2.2.2.2.2.2.2.2.2.2.2.2) u3 _ hq4) rfl rfl ⟨Nat.le_of_ble_eq_true rfl, Nat.le_of_ble_eq_true rfl⟩ k_m_X7_54 zPmu_blind (z_recv (q := (RX7, TX7, 19)) (ci := 7) (q0 := 0) hK (zP_reg hP 0 rfl) rfl rfl) (z_prem hK hP hD) rfl hl.1 (Nat.le_of_ble_eq_true rfl) (z_d hX7_append_0 32 rfl) ⟨Nat.zero_le _, Nat.zero_le _⟩) hS hD (adr_Model _ _ _ _) (fun H locs hP hD hS => ?_)
      have hP : va_P Z.1 vwCl (l_Model Z.2.1 Am q4.2.1 q4.2.2.1 q4.2.2.2.1 q4.2.2.2.2.1 q4.2.2.2.2.2.1 q4.2.2.2.2.2.2.1 q4.2.2.2.2.2.2.2.1 q4.2.2.2.2.2.2.2.2.1 q4.2.2.2.2.2.2.2.2.2.1 q4.2.2.2.2.2.2.2.2.2.2.1 q4.2.2.2.2.2.2.2.2.2.2.2.1 q4.2.2.2.2.2.2.2.2.2.2.2.2.1 q4.2.2.2.2.2.2.2.2.2.2.2.2.2.1 q4.2.2.2.2.2.2.2.2.2.2.2.2.2.2.1 q4.2.2.2.2.2.2.2.2.2.2.2.2.2.2.2.1 q4.2.2.2.2.2.2.2.2.2.2.2.2.2.2.2.2.1 q4.2.2.2.2.2.2.2.2.2.2.2.2.2.2.2.2.2.1 q4.2.2.2.2.2.2.2.2.2.2.2.2.2.2.2.2.2.2.1 q4.2.2.2.2.2.2.2.2.2.2.2.2.2.2.2.2.2.2.2).flatten H := hP
      have hD : va_D A (l_Model Z.2.1 Am q4.2.1 q4.2.2.1 q4.2.2.2.1 q4.2.2.2.2.1 q4.2.2.2.2.2.1 q4.2.2.2.2.2.2.1 q4.2.2.2.2.2.2.2.1 q4.2.2.2.2.2.2.2.2.1 q4.2.2.2.2.2.2.2.2.2.1 q4.2.2.2.2.2.2.2.2.2.2.1 q4.2.2.2.2.2.2.2.2.2.2.2.1 q4.2.2.2.2.2.2.2.2.2.2.2.2.1 q4.2.2.2.2.2.2.2.2.2.2.2.2.2.1 q4.2.2.2.2.2.2.2.2.2.2.2.2.2.2.1 q4.2.2.2.2.2.2.2.2.2.2.2.2.2.2.2.1 q4.2.2.2.2.2.2.2.2.2.2.2.2.2.2.2.2.1 q4.2.2.2.2.2.2.2.2.2.2.2.2.2.2.2.2.2.1 q4.2.2.2.2.2.2.2.2.2.2.2.2.2.2.2.2.2.2.1 q4.2.2.2.2.2.2.2.2.2.2.2.2.2.2.2.2.2.2.2).flatten := hD
      refine W.eq (g2 := F0 m 60 ls [.int q4.1]) rfl ?_
      obtain rfl := Option.some.inj hF
      subst hQ
      subst hA
      exact W.iret hx hb hr (fun t ht hW => zq_mu (by rw [ht]; exact hP) (hS.F ht)) hS.2.2 (z_d hX7_append_0 33 rfl)
    · have hF := z_pos hc23 hF
      refine lv_aload_n hx hb (z_d hX7_append_0 13 rfl) rfl (lv_at hl 0 rfl) ?_
      refine lv_iconst (v := 2) hx hb (z_d hX7_append_0 14 rfl) (by decide) ?_
      refine z_let hF (fun q5 hq5 hF => ?_)
      refine z_mu0 (z_rV (As := [.int 2]) (rest := []) hx hb hml hown hts vt_X7_fails (c_X7_fails l Z Am M 2 _ hq5) rfl rfl ⟨Nat.le_of_ble_eq_true rfl, Nat.le_of_ble_eq_true rfl⟩ k_m_X7_129 zPmu_blind (z_recv (q := (RX7, TX7, 19)) (ci := 7) (q0 := 0) hK (zP_reg hP 0 rfl) rfl rfl) (z_prem hK hP hD) rfl hl.1 (Nat.le_of_ble_eq_true rfl) (z_d hX7_append_0 15 rfl) ⟨Nat.zero_le _, Nat.zero_le _⟩) hS hD (adr_Model _ _ _ _) (fun H locs hP hD hS => ?_)
      have hP : va_P Z.1 vwCl (l_Model Z.2.1 Am q5.2.1 q5.2.2.1 q5.2.2.2.1 q5.2.2.2.2.1 q5.2.2.2.2.2.1 q5.2.2.2.2.2.2.1 q5.2.2.2.2.2.2.2.1 q5.2.2.2.2.2.2.2.2.1 q5.2.2.2.2.2.2.2.2.2.1 q5.2.2.2.2.2.2.2.2.2.2.1 q5.2.2.2.2.2.2.2.2.2.2.2.1 q5.2.2.2.2.2.2.2.2.2.2.2.2.1 q5.2.2.2.2.2.2.2.2.2.2.2.2.2.1 q5.2.2.2.2.2.2.2.2.2.2.2.2.2.2.1 q5.2.2.2.2.2.2.2.2.2.2.2.2.2.2.2.1 q5.2.2.2.2.2.2.2.2.2.2.2.2.2.2.2.2.1 q5.2.2.2.2.2.2.2.2.2.2.2.2.2.2.2.2.2.1 q5.2.2.2.2.2.2.2.2.2.2.2.2.2.2.2.2.2.2.1 q5.2.2.2.2.2.2.2.2.2.2.2.2.2.2.2.2.2.2.2).flatten H := hP
      have hD : va_D A (l_Model Z.2.1 Am q5.2.1 q5.2.2.1 q5.2.2.2.1 q5.2.2.2.2.1 q5.2.2.2.2.2.1 q5.2.2.2.2.2.2.1 q5.2.2.2.2.2.2.2.1 q5.2.2.2.2.2.2.2.2.1 q5.2.2.2.2.2.2.2.2.2.1 q5.2.2.2.2.2.2.2.2.2.2.1 q5.2.2.2.2.2.2.2.2.2.2.2.1 q5.2.2.2.2.2.2.2.2.2.2.2.2.1 q5.2.2.2.2.2.2.2.2.2.2.2.2.2.1 q5.2.2.2.2.2.2.2.2.2.2.2.2.2.2.1 q5.2.2.2.2.2.2.2.2.2.2.2.2.2.2.2.1 q5.2.2.2.2.2.2.2.2.2.2.2.2.2.2.2.2.1 q5.2.2.2.2.2.2.2.2.2.2.2.2.2.2.2.2.2.1 q5.2.2.2.2.2.2.2.2.2.2.2.2.2.2.2.2.2.2.1 q5.2.2.2.2.2.2.2.2.2.2.2.2.2.2.2.2.2.2.2).flatten := hD
      refine W.eq (g2 := F0 m 31 ls [.int q5.1]) rfl ?_
      obtain rfl := Option.some.inj hF
      subst hQ
      subst hA
      exact W.iret hx hb hr (fun t ht hW => zq_mu (by rw [ht]; exact hP) (hS.F ht)) hS.2.2 (z_d hX7_append_0 16 rfl)
  · have hF := z_pos hc7 hF
    refine lv_aload_n hx hb (z_d hX7_append_0 5 rfl) rfl (lv_at hl 0 rfl) ?_
    refine lv_iconst (v := 1) hx hb (z_d hX7_append_0 6 rfl) (by decide) ?_
    refine z_let hF (fun q6 hq6 hF => ?_)
    refine z_mu0 (z_rV (As := [.int 1]) (rest := []) hx hb hml hown hts vt_X7_fails (c_X7_fails l Z Am M 1 _ hq6) rfl rfl ⟨Nat.le_of_ble_eq_true rfl, Nat.le_of_ble_eq_true rfl⟩ k_m_X7_129 zPmu_blind (z_recv (q := (RX7, TX7, 19)) (ci := 7) (q0 := 0) hK (zP_reg hP 0 rfl) rfl rfl) (z_prem hK hP hD) rfl hl.1 (Nat.le_of_ble_eq_true rfl) (z_d hX7_append_0 7 rfl) ⟨Nat.zero_le _, Nat.zero_le _⟩) hS hD (adr_Model _ _ _ _) (fun H locs hP hD hS => ?_)
    have hP : va_P Z.1 vwCl (l_Model Z.2.1 Am q6.2.1 q6.2.2.1 q6.2.2.2.1 q6.2.2.2.2.1 q6.2.2.2.2.2.1 q6.2.2.2.2.2.2.1 q6.2.2.2.2.2.2.2.1 q6.2.2.2.2.2.2.2.2.1 q6.2.2.2.2.2.2.2.2.2.1 q6.2.2.2.2.2.2.2.2.2.2.1 q6.2.2.2.2.2.2.2.2.2.2.2.1 q6.2.2.2.2.2.2.2.2.2.2.2.2.1 q6.2.2.2.2.2.2.2.2.2.2.2.2.2.1 q6.2.2.2.2.2.2.2.2.2.2.2.2.2.2.1 q6.2.2.2.2.2.2.2.2.2.2.2.2.2.2.2.1 q6.2.2.2.2.2.2.2.2.2.2.2.2.2.2.2.2.1 q6.2.2.2.2.2.2.2.2.2.2.2.2.2.2.2.2.2.1 q6.2.2.2.2.2.2.2.2.2.2.2.2.2.2.2.2.2.2.1 q6.2.2.2.2.2.2.2.2.2.2.2.2.2.2.2.2.2.2.2).flatten H := hP
    have hD : va_D A (l_Model Z.2.1 Am q6.2.1 q6.2.2.1 q6.2.2.2.1 q6.2.2.2.2.1 q6.2.2.2.2.2.1 q6.2.2.2.2.2.2.1 q6.2.2.2.2.2.2.2.1 q6.2.2.2.2.2.2.2.2.1 q6.2.2.2.2.2.2.2.2.2.1 q6.2.2.2.2.2.2.2.2.2.2.1 q6.2.2.2.2.2.2.2.2.2.2.2.1 q6.2.2.2.2.2.2.2.2.2.2.2.2.1 q6.2.2.2.2.2.2.2.2.2.2.2.2.2.1 q6.2.2.2.2.2.2.2.2.2.2.2.2.2.2.1 q6.2.2.2.2.2.2.2.2.2.2.2.2.2.2.2.1 q6.2.2.2.2.2.2.2.2.2.2.2.2.2.2.2.2.1 q6.2.2.2.2.2.2.2.2.2.2.2.2.2.2.2.2.2.1 q6.2.2.2.2.2.2.2.2.2.2.2.2.2.2.2.2.2.2.1 q6.2.2.2.2.2.2.2.2.2.2.2.2.2.2.2.2.2.2.2).flatten := hD
    refine W.eq (g2 := F0 m 15 ls [.int q6.1]) rfl ?_
    obtain rfl := Option.some.inj hF
    subst hQ
    subst hA
    exact W.iret hx hb hr (fun t ht hW => zq_mu (by rw [ht]; exact hP) (hS.F ht)) hS.2.2 (z_d hX7_append_0 8 rfl)
def rm_X7_clearText : Room := { frames := 1, cells := 0, slots := 0, locals := 21 }
set_option maxRecDepth 100000 in
set_option maxHeartbeats 4000000 in
theorem c_X7_clearText (l : Launch) (Z : zZ) (Am : Nat → Nat) (M : t_Model) (R : Int32 × t_Model) (hF : X7_clearText M = R) : zMU l yX7_clearText (zw yX7_clearText cX7_clearText 2 (some .int)) rm_X7_clearText Z [.ref (Am 0)] (w_Model Z.2.1 Am M) (w_Model Z.2.1 Am R.2) (some (.int R.1)) := by
  refine zMU_of (by decide) (Nat.le_of_ble_eq_true rfl) (fun p e s m below meth c hx hb hr hml hown hts hlocks hK A hA Q hQ ls hl hP hD hS => ?_)
  unfold X7_clearText at hF
  have hl : lv_has ls 2 [(0, .ref (Am 0))] := hl
  have hown : s.vm.findClass RX7 = some m.cls := hown
  have hP : va_P Z.1 vwCl (l_Model Z.2.1 Am M.1 M.2.1 M.2.2.1 M.2.2.2.1 M.2.2.2.2.1 M.2.2.2.2.2.1 M.2.2.2.2.2.2.1 M.2.2.2.2.2.2.2.1 M.2.2.2.2.2.2.2.2.1 M.2.2.2.2.2.2.2.2.2.1 M.2.2.2.2.2.2.2.2.2.2.1 M.2.2.2.2.2.2.2.2.2.2.2.1 M.2.2.2.2.2.2.2.2.2.2.2.2.1 M.2.2.2.2.2.2.2.2.2.2.2.2.2.1 M.2.2.2.2.2.2.2.2.2.2.2.2.2.2.1 M.2.2.2.2.2.2.2.2.2.2.2.2.2.2.2.1 M.2.2.2.2.2.2.2.2.2.2.2.2.2.2.2.2.1 M.2.2.2.2.2.2.2.2.2.2.2.2.2.2.2.2.2.1 M.2.2.2.2.2.2.2.2.2.2.2.2.2.2.2.2.2.2).flatten s.heap := hP
  have hD : va_D A (l_Model Z.2.1 Am M.1 M.2.1 M.2.2.1 M.2.2.2.1 M.2.2.2.2.1 M.2.2.2.2.2.1 M.2.2.2.2.2.2.1 M.2.2.2.2.2.2.2.1 M.2.2.2.2.2.2.2.2.1 M.2.2.2.2.2.2.2.2.2.1 M.2.2.2.2.2.2.2.2.2.2.1 M.2.2.2.2.2.2.2.2.2.2.2.1 M.2.2.2.2.2.2.2.2.2.2.2.2.1 M.2.2.2.2.2.2.2.2.2.2.2.2.2.1 M.2.2.2.2.2.2.2.2.2.2.2.2.2.2.1 M.2.2.2.2.2.2.2.2.2.2.2.2.2.2.2.1 M.2.2.2.2.2.2.2.2.2.2.2.2.2.2.2.2.1 M.2.2.2.2.2.2.2.2.2.2.2.2.2.2.2.2.2.1 M.2.2.2.2.2.2.2.2.2.2.2.2.2.2.2.2.2.2).flatten := hD
  refine lv_aload_n hx hb (z_d hX7_clearText_0 0 rfl) rfl (lv_at hl 0 rfl) ?_
  refine va_get (D := Z.1) (ci := 7) (v := .int M.2.2.2.2.2.1) (C := RX7) (T := TX7) (N := 19) hx hb hts zinX7 hown hK.1 (zP_reg hP 0 rfl) 0 rfl rfl 5 (by decide) (hts _ k_f_X7_195) (fun _ h9 => h9) rfl (z_d hX7_clearText_0 1 rfl) ?_
  refine lv_istore_n (lv' := [(1, .int M.2.2.2.2.2.1), (0, .ref (Am 0))]) hx hb (z_d hX7_clearText_0 2 rfl) rfl hl (by decide) rfl (fun ls hl => ?_)
  refine lv_aload_n hx hb (z_d hX7_clearText_0 3 rfl) rfl (lv_at hl 1 rfl) ?_
  refine lv_iconst (v := 0) hx hb (z_d hX7_clearText_0 4 rfl) (by decide) ?_
  refine z_put (Z := Z) (ci := 7) (v := .int 0) (ty := .int) (L := l_Model Z.2.1 Am M.1 M.2.1 M.2.2.1 M.2.2.2.1 M.2.2.2.2.1 M.2.2.2.2.2.1 M.2.2.2.2.2.2.1 M.2.2.2.2.2.2.2.1 M.2.2.2.2.2.2.2.2.1 M.2.2.2.2.2.2.2.2.2.1 M.2.2.2.2.2.2.2.2.2.2.1 M.2.2.2.2.2.2.2.2.2.2.2.1 M.2.2.2.2.2.2.2.2.2.2.2.2.1 M.2.2.2.2.2.2.2.2.2.2.2.2.2.1 M.2.2.2.2.2.2.2.2.2.2.2.2.2.2.1 M.2.2.2.2.2.2.2.2.2.2.2.2.2.2.2.1 M.2.2.2.2.2.2.2.2.2.2.2.2.2.2.2.2.1 M.2.2.2.2.2.2.2.2.2.2.2.2.2.2.2.2.2.1 M.2.2.2.2.2.2.2.2.2.2.2.2.2.2.2.2.2.2) (L' := l_Model Z.2.1 Am M.1 M.2.1 M.2.2.1 M.2.2.2.1 M.2.2.2.2.1 0 M.2.2.2.2.2.2.1 M.2.2.2.2.2.2.2.1 M.2.2.2.2.2.2.2.2.1 M.2.2.2.2.2.2.2.2.2.1 M.2.2.2.2.2.2.2.2.2.2.1 M.2.2.2.2.2.2.2.2.2.2.2.1 M.2.2.2.2.2.2.2.2.2.2.2.2.1 M.2.2.2.2.2.2.2.2.2.2.2.2.2.1 M.2.2.2.2.2.2.2.2.2.2.2.2.2.2.1 M.2.2.2.2.2.2.2.2.2.2.2.2.2.2.2.1 M.2.2.2.2.2.2.2.2.2.2.2.2.2.2.2.2.1 M.2.2.2.2.2.2.2.2.2.2.2.2.2.2.2.2.2.1 M.2.2.2.2.2.2.2.2.2.2.2.2.2.2.2.2.2.2) (C := RX7) (T := TX7) (N := 19) hx hb hts zinX7 tyX7 tyX7_ok nmX7 hown hK hP hD hS 0 rfl rfl 5 (by decide) (hts _ k_f_X7_195) (fun _ h9 => h9) rfl (tyX7_ok 5 (by decide)) rfl rfl (Nat.le_of_ble_eq_true rfl) rfl (z_d hX7_clearText_0 5 rfl) (fun H locs hP hD hS => ?_)
  refine lv_aload_n hx hb (z_d hX7_clearText_0 6 rfl) rfl (lv_at hl 1 rfl) ?_
  refine lv_iload_n hx hb (z_d hX7_clearText_0 7 rfl) rfl (lv_at hl 0 rfl) ?_
  refine z_let hF (fun q1 hq1 hF => ?_)
  refine z_mu0 (z_rV (As := [.int M.2.2.2.2.2.1]) (rest := []) hx hb hml hown hts vt_X7_tells (c_X7_tells l Z Am (M.1, M.2.1, M.2.2.1, M.2.2.2.1, M.2.2.2.2.1, 0, M.2.2.2.2.2.2.1, M.2.2.2.2.2.2.2.1, M.2.2.2.2.2.2.2.2.1, M.2.2.2.2.2.2.2.2.2.1, M.2.2.2.2.2.2.2.2.2.2.1, M.2.2.2.2.2.2.2.2.2.2.2.1, M.2.2.2.2.2.2.2.2.2.2.2.2.1, M.2.2.2.2.2.2.2.2.2.2.2.2.2.1, M.2.2.2.2.2.2.2.2.2.2.2.2.2.2.1, M.2.2.2.2.2.2.2.2.2.2.2.2.2.2.2.1, M.2.2.2.2.2.2.2.2.2.2.2.2.2.2.2.2.1, M.2.2.2.2.2.2.2.2.2.2.2.2.2.2.2.2.2.1, M.2.2.2.2.2.2.2.2.2.2.2.2.2.2.2.2.2.2) M.2.2.2.2.2.1 _ hq1) rfl rfl ⟨Nat.le_of_ble_eq_true rfl, Nat.le_of_ble_eq_true rfl⟩ k_m_X7_54 zPmu_blind (z_recv (q := (RX7, TX7, 19)) (ci := 7) (q0 := 0) hK (zP_reg hP 0 rfl) rfl rfl) (z_prem hK hP hD) rfl hl.1 (Nat.le_of_ble_eq_true rfl) (z_d hX7_clearText_0 8 rfl) ⟨Nat.zero_le _, Nat.zero_le _⟩) hS hD (adr_Model _ _ _ _) (fun H locs hP hD hS => ?_)
  have hP : va_P Z.1 vwCl (l_Model Z.2.1 Am q1.2.1 q1.2.2.1 q1.2.2.2.1 q1.2.2.2.2.1 q1.2.2.2.2.2.1 q1.2.2.2.2.2.2.1 q1.2.2.2.2.2.2.2.1 q1.2.2.2.2.2.2.2.2.1 q1.2.2.2.2.2.2.2.2.2.1 q1.2.2.2.2.2.2.2.2.2.2.1 q1.2.2.2.2.2.2.2.2.2.2.2.1 q1.2.2.2.2.2.2.2.2.2.2.2.2.1 q1.2.2.2.2.2.2.2.2.2.2.2.2.2.1 q1.2.2.2.2.2.2.2.2.2.2.2.2.2.2.1 q1.2.2.2.2.2.2.2.2.2.2.2.2.2.2.2.1 q1.2.2.2.2.2.2.2.2.2.2.2.2.2.2.2.2.1 q1.2.2.2.2.2.2.2.2.2.2.2.2.2.2.2.2.2.1 q1.2.2.2.2.2.2.2.2.2.2.2.2.2.2.2.2.2.2.1 q1.2.2.2.2.2.2.2.2.2.2.2.2.2.2.2.2.2.2.2).flatten H := hP
  have hD : va_D A (l_Model Z.2.1 Am q1.2.1 q1.2.2.1 q1.2.2.2.1 q1.2.2.2.2.1 q1.2.2.2.2.2.1 q1.2.2.2.2.2.2.1 q1.2.2.2.2.2.2.2.1 q1.2.2.2.2.2.2.2.2.1 q1.2.2.2.2.2.2.2.2.2.1 q1.2.2.2.2.2.2.2.2.2.2.1 q1.2.2.2.2.2.2.2.2.2.2.2.1 q1.2.2.2.2.2.2.2.2.2.2.2.2.1 q1.2.2.2.2.2.2.2.2.2.2.2.2.2.1 q1.2.2.2.2.2.2.2.2.2.2.2.2.2.2.1 q1.2.2.2.2.2.2.2.2.2.2.2.2.2.2.2.1 q1.2.2.2.2.2.2.2.2.2.2.2.2.2.2.2.2.1 q1.2.2.2.2.2.2.2.2.2.2.2.2.2.2.2.2.2.1 q1.2.2.2.2.2.2.2.2.2.2.2.2.2.2.2.2.2.2.1 q1.2.2.2.2.2.2.2.2.2.2.2.2.2.2.2.2.2.2.2).flatten := hD
  refine W.eq (g2 := F0 m 15 ls [.int q1.1]) rfl ?_
  obtain rfl := hF
  subst hQ
  subst hA
  exact W.iret hx hb hr (fun t ht hW => zq_mu (by rw [ht]; exact hP) (hS.F ht)) hS.2.2 (z_d hX7_clearText_0 9 rfl)
def rm_X7_isAt : Room := { frames := 1, cells := 0, slots := 0, locals := 22 }
set_option maxRecDepth 100000 in
set_option maxHeartbeats 4000000 in
theorem c_X7_isAt (l : Launch) (Z : zZ) (Am : Nat → Nat) (M : t_Model) (p1 : Int32) (p2 : Int32) (R : Int32) (hF : X7_isAt M p1 p2 = some R) : zRO l yX7_isAt (zw yX7_isAt cX7_isAt 3 (some .boolean)) rm_X7_isAt Z [.ref (Am 0), .int p1, .int p2] (w_Model Z.2.1 Am M) (some (.int R)) := by
  refine zRO_of (by decide) (Nat.le_of_ble_eq_true rfl) (fun p e s m below meth c hx hb hr hml hown hts hlocks hK Q hQ ls hl hP hS => ?_)
  unfold X7_isAt at hF
  have hl : lv_has ls 3 [(0, .ref (Am 0)), (1, .int p1), (2, .int p2)] := hl
  have hown : s.vm.findClass RX7 = some m.cls := hown
  have hP : va_P Z.1 vwCl (l_Model Z.2.1 Am M.1 M.2.1 M.2.2.1 M.2.2.2.1 M.2.2.2.2.1 M.2.2.2.2.2.1 M.2.2.2.2.2.2.1 M.2.2.2.2.2.2.2.1 M.2.2.2.2.2.2.2.2.1 M.2.2.2.2.2.2.2.2.2.1 M.2.2.2.2.2.2.2.2.2.2.1 M.2.2.2.2.2.2.2.2.2.2.2.1 M.2.2.2.2.2.2.2.2.2.2.2.2.1 M.2.2.2.2.2.2.2.2.2.2.2.2.2.1 M.2.2.2.2.2.2.2.2.2.2.2.2.2.2.1 M.2.2.2.2.2.2.2.2.2.2.2.2.2.2.2.1 M.2.2.2.2.2.2.2.2.2.2.2.2.2.2.2.2.1 M.2.2.2.2.2.2.2.2.2.2.2.2.2.2.2.2.2.1 M.2.2.2.2.2.2.2.2.2.2.2.2.2.2.2.2.2.2).flatten s.heap := hP
  refine lv_aload_n hx hb (z_d hX7_isAt_0 0 rfl) rfl (lv_at hl 0 rfl) ?_
  refine va_get (D := Z.1) (ci := 7) (v := .int M.2.2.2.2.2.2.2.2.2.2.2.2.2.2.2.2.1) (C := RX7) (T := TX7) (N := 19) hx hb hts zinX7 hown hK.1 (zP_reg hP 0 rfl) 0 rfl rfl 16 (by decide) (hts _ k_f_X7_198) (fun _ h9 => h9) rfl (z_d hX7_isAt_0 1 rfl) ?_
  refine lv_aload_n hx hb (z_d hX7_isAt_0 2 rfl) rfl (lv_at hl 0 rfl) ?_
  refine va_get (D := Z.1) (ci := 7) (v := .int M.2.2.2.2.2.1) (C := RX7) (T := TX7) (N := 19) hx hb hts zinX7 hown hK.1 (zP_reg hP 0 rfl) 0 rfl rfl 5 (by decide) (hts _ k_f_X7_195) (fun _ h9 => h9) rfl (z_d hX7_isAt_0 3 rfl) ?_
  refine lv_icmp_ge (tgt := 32) hx hb (z_d hX7_isAt_0 4 rfl) (by decide) (fun hc8 => ?_) (fun hc8 => ?_)
  · have hF := z_pos hc8 hF
    refine lv_iconst (v := 0) hx hb (z_d hX7_isAt_0 16 rfl) (by decide) ?_
    have hz9 : narrow .boolean (.int 0) = .int 0 := rfl
    obtain rfl := Option.some.inj hF
    subst hQ
    exact W.zret hx hb hr hz9 (fun t ht hW => zq_ro (hS.F ht)) hS.2.2 (z_d hX7_isAt_0 17 rfl)
  · have hF := z_neg hc8 hF
    refine lv_aload_n hx hb (z_d hX7_isAt_0 5 rfl) rfl (lv_at hl 0 rfl) ?_
    refine va_get (D := Z.1) (ci := 7) (v := .ref (Am 4)) (C := RX7) (T := TX7) (N := 19) hx hb hts zinX7 hown hK.1 (zP_reg hP 0 rfl) 0 rfl rfl 4 (by decide) (hts _ k_f_X7_19) (fun _ h9 => h9) rfl (z_d hX7_isAt_0 6 rfl) ?_
    refine lv_aload_n hx hb (z_d hX7_isAt_0 7 rfl) rfl (lv_at hl 0 rfl) ?_
    refine va_get (D := Z.1) (ci := 7) (v := .int M.2.2.2.2.2.2.2.2.2.2.2.2.2.2.2.2.1) (C := RX7) (T := TX7) (N := 19) hx hb hts zinX7 hown hK.1 (zP_reg hP 0 rfl) 0 rfl rfl 16 (by decide) (hts _ k_f_X7_198) (fun _ h9 => h9) rfl (z_d hX7_isAt_0 8 rfl) ?_
    refine z_ix hF (fun hin hF => ?_)
    refine va_iald (D := Z.1) (f := M.2.2.2.2.1) hx hb hK.1 (zP_reg hP 4 rfl) 0 0 rfl rfl hin (z_d hX7_isAt_0 9 rfl) ?_
    refine z_let hF (fun u1 hu1 hF => ?_)
    refine lv_topE hu1 ?_
    refine lv_iload_n hx hb (z_d hX7_isAt_0 10 rfl) rfl (lv_at hl 1 rfl) ?_
    refine lv_iload_n hx hb (z_d hX7_isAt_0 11 rfl) rfl (lv_at hl 2 rfl) ?_
    refine z_let hF (fun q2 hq2 hF => ?_)
    refine z_ro_i (z_rS (As := [.int u1, .int p1, .int p2]) (rest := []) hx hb hml hown hts vs_X7_in (c_X7_in l Z u1 p1 p2 _ hq2) rfl rfl ⟨Nat.le_of_ble_eq_true rfl, Nat.le_of_ble_eq_true rfl⟩ k_m_X7_58 zPro_blind (z_prec hK zP_nil) rfl hl.1 (Nat.le_of_ble_eq_true rfl) (z_d hX7_isAt_0 12 rfl) ⟨Nat.zero_le _, Nat.zero_le _⟩) hS hP (fun H locs hP hS => ?_)
    refine lv_if_eq (tgt := 32) hx hb (z_d hX7_isAt_0 13 rfl) (by decide) (fun hc25 => ?_) (fun hc25 => ?_)
    · have hF := z_pos hc25 hF
      refine lv_iconst (v := 0) hx hb (z_d hX7_isAt_0 16 rfl) (by decide) ?_
      have hz9 : narrow .boolean (.int 0) = .int 0 := rfl
      obtain rfl := Option.some.inj hF
      subst hQ
      exact W.zret hx hb hr hz9 (fun t ht hW => zq_ro (hS.F ht)) hS.2.2 (z_d hX7_isAt_0 17 rfl)
    · have hF := z_neg hc25 hF
      refine lv_iconst (v := 1) hx hb (z_d hX7_isAt_0 14 rfl) (by decide) ?_
      refine lv_goto (tgt := 33) hx hb (z_d hX7_isAt_0 15 rfl) (by decide) ?_
      have hz9 : narrow .boolean (.int 1) = .int 1 := rfl
      obtain rfl := Option.some.inj hF
      subst hQ
      exact W.zret hx hb hr hz9 (fun t ht hW => zq_ro (hS.F ht)) hS.2.2 (z_d hX7_isAt_0 17 rfl)
def rm_X7_takes : Room := { frames := 2, cells := 0, slots := 0, locals := 44 }
set_option maxRecDepth 100000 in
set_option maxHeartbeats 4000000 in
theorem c_X7_takes (l : Launch) (Z : zZ) (Am : Nat → Nat) (M : t_Model) (p1 : Int32) (R : Int32 × t_Model) (hF : X7_takes M p1 = some R) : zMU l yX7_takes (zw yX7_takes cX7_takes 3 (some .boolean)) rm_X7_takes Z [.ref (Am 0), .int p1] (w_Model Z.2.1 Am M) (w_Model Z.2.1 Am R.2) (some (.int R.1)) := by
  refine zMU_of (by decide) (Nat.le_of_ble_eq_true rfl) (fun p e s m below meth c hx hb hr hml hown hts hlocks hK A hA Q hQ ls hl hP hD hS => ?_)
  unfold X7_takes at hF
  have hl : lv_has ls 3 [(0, .ref (Am 0)), (1, .int p1)] := hl
  have hown : s.vm.findClass RX7 = some m.cls := hown
  have hP : va_P Z.1 vwCl (l_Model Z.2.1 Am M.1 M.2.1 M.2.2.1 M.2.2.2.1 M.2.2.2.2.1 M.2.2.2.2.2.1 M.2.2.2.2.2.2.1 M.2.2.2.2.2.2.2.1 M.2.2.2.2.2.2.2.2.1 M.2.2.2.2.2.2.2.2.2.1 M.2.2.2.2.2.2.2.2.2.2.1 M.2.2.2.2.2.2.2.2.2.2.2.1 M.2.2.2.2.2.2.2.2.2.2.2.2.1 M.2.2.2.2.2.2.2.2.2.2.2.2.2.1 M.2.2.2.2.2.2.2.2.2.2.2.2.2.2.1 M.2.2.2.2.2.2.2.2.2.2.2.2.2.2.2.1 M.2.2.2.2.2.2.2.2.2.2.2.2.2.2.2.2.1 M.2.2.2.2.2.2.2.2.2.2.2.2.2.2.2.2.2.1 M.2.2.2.2.2.2.2.2.2.2.2.2.2.2.2.2.2.2).flatten s.heap := hP
  have hD : va_D A (l_Model Z.2.1 Am M.1 M.2.1 M.2.2.1 M.2.2.2.1 M.2.2.2.2.1 M.2.2.2.2.2.1 M.2.2.2.2.2.2.1 M.2.2.2.2.2.2.2.1 M.2.2.2.2.2.2.2.2.1 M.2.2.2.2.2.2.2.2.2.1 M.2.2.2.2.2.2.2.2.2.2.1 M.2.2.2.2.2.2.2.2.2.2.2.1 M.2.2.2.2.2.2.2.2.2.2.2.2.1 M.2.2.2.2.2.2.2.2.2.2.2.2.2.1 M.2.2.2.2.2.2.2.2.2.2.2.2.2.2.1 M.2.2.2.2.2.2.2.2.2.2.2.2.2.2.2.1 M.2.2.2.2.2.2.2.2.2.2.2.2.2.2.2.2.1 M.2.2.2.2.2.2.2.2.2.2.2.2.2.2.2.2.2.1 M.2.2.2.2.2.2.2.2.2.2.2.2.2.2.2.2.2.2).flatten := hD
  have J21 : ∀ (M : t_Model) (x2 : Int32) (z0 : Int32) (z1 : Int32) (hF : j_X7_takes_21 p1 M x2 z0 z1 = some R) (H : Heap) (locs : List Loc) (ls : Array Slot) (hP : va_P Z.1 vwCl (l_Model Z.2.1 Am M.1 M.2.1 M.2.2.1 M.2.2.2.1 M.2.2.2.2.1 M.2.2.2.2.2.1 M.2.2.2.2.2.2.1 M.2.2.2.2.2.2.2.1 M.2.2.2.2.2.2.2.2.1 M.2.2.2.2.2.2.2.2.2.1 M.2.2.2.2.2.2.2.2.2.2.1 M.2.2.2.2.2.2.2.2.2.2.2.1 M.2.2.2.2.2.2.2.2.2.2.2.2.1 M.2.2.2.2.2.2.2.2.2.2.2.2.2.1 M.2.2.2.2.2.2.2.2.2.2.2.2.2.2.1 M.2.2.2.2.2.2.2.2.2.2.2.2.2.2.2.1 M.2.2.2.2.2.2.2.2.2.2.2.2.2.2.2.2.1 M.2.2.2.2.2.2.2.2.2.2.2.2.2.2.2.2.2.1 M.2.2.2.2.2.2.2.2.2.2.2.2.2.2.2.2.2.2).flatten H) (hD : va_D A (l_Model Z.2.1 Am M.1 M.2.1 M.2.2.1 M.2.2.2.1 M.2.2.2.2.1 M.2.2.2.2.2.1 M.2.2.2.2.2.2.1 M.2.2.2.2.2.2.2.1 M.2.2.2.2.2.2.2.2.1 M.2.2.2.2.2.2.2.2.2.1 M.2.2.2.2.2.2.2.2.2.2.1 M.2.2.2.2.2.2.2.2.2.2.2.1 M.2.2.2.2.2.2.2.2.2.2.2.2.1 M.2.2.2.2.2.2.2.2.2.2.2.2.2.1 M.2.2.2.2.2.2.2.2.2.2.2.2.2.2.1 M.2.2.2.2.2.2.2.2.2.2.2.2.2.2.2.1 M.2.2.2.2.2.2.2.2.2.2.2.2.2.2.2.2.1 M.2.2.2.2.2.2.2.2.2.2.2.2.2.2.2.2.2.1 M.2.2.2.2.2.2.2.2.2.2.2.2.2.2.2.2.2.2).flatten) (hS : va_S A s.heap H locs) (hl : lv_has ls 3 [(0, .ref (Am 0)), (1, .int p1), (2, .int x2)]), W p l e rm_X7_takes s m ([.ref (Am 0), .int p1] : List Value).toArray below meth c H locs 0 0 Q (F0 m 21 ls [.int z0, .int z1, .ref (Am 0)]) := by
    intro M x2 z0 z1 hF H locs ls hP hD hS hl
    unfold j_X7_takes_21 at hF
    refine lv_iadd hx hb (z_d hX7_takes_0 13 rfl) ?_
    refine z_let hF (fun u2 hu2 hF => ?_)
    refine lv_topE hu2 ?_
    refine z_put (Z := Z) (ci := 7) (v := .int u2) (ty := .int) (L := l_Model Z.2.1 Am M.1 M.2.1 M.2.2.1 M.2.2.2.1 M.2.2.2.2.1 M.2.2.2.2.2.1 M.2.2.2.2.2.2.1 M.2.2.2.2.2.2.2.1 M.2.2.2.2.2.2.2.2.1 M.2.2.2.2.2.2.2.2.2.1 M.2.2.2.2.2.2.2.2.2.2.1 M.2.2.2.2.2.2.2.2.2.2.2.1 M.2.2.2.2.2.2.2.2.2.2.2.2.1 M.2.2.2.2.2.2.2.2.2.2.2.2.2.1 M.2.2.2.2.2.2.2.2.2.2.2.2.2.2.1 M.2.2.2.2.2.2.2.2.2.2.2.2.2.2.2.1 M.2.2.2.2.2.2.2.2.2.2.2.2.2.2.2.2.1 M.2.2.2.2.2.2.2.2.2.2.2.2.2.2.2.2.2.1 M.2.2.2.2.2.2.2.2.2.2.2.2.2.2.2.2.2.2) (L' := l_Model Z.2.1 Am M.1 M.2.1 M.2.2.1 M.2.2.2.1 M.2.2.2.2.1 M.2.2.2.2.2.1 M.2.2.2.2.2.2.1 M.2.2.2.2.2.2.2.1 M.2.2.2.2.2.2.2.2.1 M.2.2.2.2.2.2.2.2.2.1 M.2.2.2.2.2.2.2.2.2.2.1 M.2.2.2.2.2.2.2.2.2.2.2.1 M.2.2.2.2.2.2.2.2.2.2.2.2.1 M.2.2.2.2.2.2.2.2.2.2.2.2.2.1 M.2.2.2.2.2.2.2.2.2.2.2.2.2.2.1 M.2.2.2.2.2.2.2.2.2.2.2.2.2.2.2.1 u2 M.2.2.2.2.2.2.2.2.2.2.2.2.2.2.2.2.2.1 M.2.2.2.2.2.2.2.2.2.2.2.2.2.2.2.2.2.2) (C := RX7) (T := TX7) (N := 19) hx hb hts zinX7 tyX7 tyX7_ok nmX7 hown hK hP hD hS 0 rfl rfl 16 (by decide) (hts _ k_f_X7_198) (fun _ h9 => h9) rfl (tyX7_ok 16 (by decide)) rfl rfl (Nat.le_of_ble_eq_true rfl) rfl (z_d hX7_takes_0 14 rfl) (fun H locs hP hD hS => ?_)
    refine lv_iload_n hx hb (z_d hX7_takes_0 15 rfl) rfl (lv_at hl 2 rfl) ?_
    refine z_bl hF (fun h9 hF => ?_)
    have hz9 := z_bool h9
    obtain rfl := Option.some.inj hF
    subst hQ
    subst hA
    exact W.zret hx hb hr hz9 (fun t ht hW => zq_mu (by rw [ht]; exact hP) (hS.F ht)) hS.2.2 (z_d hX7_takes_0 16 rfl)
  refine lv_aload_n hx hb (z_d hX7_takes_0 0 rfl) rfl (lv_at hl 0 rfl) ?_
  refine lv_iload_n hx hb (z_d hX7_takes_0 1 rfl) rfl (lv_at hl 1 rfl) ?_
  refine lv_iload_n hx hb (z_d hX7_takes_0 2 rfl) rfl (lv_at hl 1 rfl) ?_
  refine z_bnd hF (fun q1 hq1 hF => ?_)
  refine z_ro_i (z_rV (As := [.int p1, .int p1]) (rest := []) hx hb hml hown hts vt_X7_isAt (c_X7_isAt l Z Am M p1 p1 _ hq1) rfl rfl ⟨Nat.le_of_ble_eq_true rfl, Nat.le_of_ble_eq_true rfl⟩ k_m_X7_201 zPro_blind (z_recv (q := (RX7, TX7, 19)) (ci := 7) (q0 := 0) hK (zP_reg hP 0 rfl) rfl rfl) (z_prec hK hP) rfl hl.1 (Nat.le_of_ble_eq_true rfl) (z_d hX7_takes_0 3 rfl) ⟨Nat.zero_le _, Nat.zero_le _⟩) hS hP (fun H locs hP hS => ?_)
  refine lv_istore_n (lv' := [(2, .int q1), (0, .ref (Am 0)), (1, .int p1)]) hx hb (z_d hX7_takes_0 4 rfl) rfl hl (by decide) rfl (fun ls hl => ?_)
  refine lv_aload_n hx hb (z_d hX7_takes_0 5 rfl) rfl (lv_at hl 1 rfl) ?_
  refine lv_dup hx hb (z_d hX7_takes_0 6 rfl) rfl ?_
  refine va_get (D := Z.1) (ci := 7) (v := .int M.2.2.2.2.2.2.2.2.2.2.2.2.2.2.2.2.1) (C := RX7) (T := TX7) (N := 19) hx hb hts zinX7 hown hK.1 (zP_reg hP 0 rfl) 0 rfl rfl 16 (by decide) (hts _ k_f_X7_198) (fun _ h9 => h9) rfl (z_d hX7_takes_0 7 rfl) ?_
  refine lv_iload_n hx hb (z_d hX7_takes_0 8 rfl) rfl (lv_at hl 0 rfl) ?_
  refine lv_if_eq (tgt := 20) hx hb (z_d hX7_takes_0 9 rfl) (by decide) (fun hc13 => ?_) (fun hc13 => ?_)
  · have hF := z_pos hc13 hF
    refine lv_iconst (v := 0) hx hb (z_d hX7_takes_0 12 rfl) (by decide) ?_
    exact J21 M q1 0 M.2.2.2.2.2.2.2.2.2.2.2.2.2.2.2.2.1 hF _ _ ls hP hD hS (lv_sub hl [1, 2, 0] rfl)
  · have hF := z_neg hc13 hF
    refine lv_iconst (v := 1) hx hb (z_d hX7_takes_0 10 rfl) (by decide) ?_
    refine lv_goto (tgt := 21) hx hb (z_d hX7_takes_0 11 rfl) (by decide) ?_
    exact J21 M q1 1 M.2.2.2.2.2.2.2.2.2.2.2.2.2.2.2.2.1 hF _ _ ls hP hD hS (lv_sub hl [1, 2, 0] rfl)
def rm_X7_isNumber : Room := { frames := 2, cells := 0, slots := 0, locals := 44 }
set_option maxRecDepth 100000 in
set_option maxHeartbeats 4000000 in
theorem c_X7_isNumber (l : Launch) (Z : zZ) (Am : Nat → Nat) (M : t_Model) (R : Int32 × t_Model) (hF : X7_isNumber M = some R) : zMU l yX7_isNumber (zw yX7_isNumber cX7_isNumber 3 (some .boolean)) rm_X7_isNumber Z [.ref (Am 0)] (w_Model Z.2.1 Am M) (w_Model Z.2.1 Am R.2) (some (.int R.1)) := by
  refine zMU_of (by decide) (Nat.le_of_ble_eq_true rfl) (fun p e s m below meth c hx hb hr hml hown hts hlocks hK A hA Q hQ ls hl hP hD hS => ?_)
  unfold X7_isNumber at hF
  have hl : lv_has ls 3 [(0, .ref (Am 0))] := hl
  have hown : s.vm.findClass RX7 = some m.cls := hown
  have hP : va_P Z.1 vwCl (l_Model Z.2.1 Am M.1 M.2.1 M.2.2.1 M.2.2.2.1 M.2.2.2.2.1 M.2.2.2.2.2.1 M.2.2.2.2.2.2.1 M.2.2.2.2.2.2.2.1 M.2.2.2.2.2.2.2.2.1 M.2.2.2.2.2.2.2.2.2.1 M.2.2.2.2.2.2.2.2.2.2.1 M.2.2.2.2.2.2.2.2.2.2.2.1 M.2.2.2.2.2.2.2.2.2.2.2.2.1 M.2.2.2.2.2.2.2.2.2.2.2.2.2.1 M.2.2.2.2.2.2.2.2.2.2.2.2.2.2.1 M.2.2.2.2.2.2.2.2.2.2.2.2.2.2.2.1 M.2.2.2.2.2.2.2.2.2.2.2.2.2.2.2.2.1 M.2.2.2.2.2.2.2.2.2.2.2.2.2.2.2.2.2.1 M.2.2.2.2.2.2.2.2.2.2.2.2.2.2.2.2.2.2).flatten s.heap := hP
  have hD : va_D A (l_Model Z.2.1 Am M.1 M.2.1 M.2.2.1 M.2.2.2.1 M.2.2.2.2.1 M.2.2.2.2.2.1 M.2.2.2.2.2.2.1 M.2.2.2.2.2.2.2.1 M.2.2.2.2.2.2.2.2.1 M.2.2.2.2.2.2.2.2.2.1 M.2.2.2.2.2.2.2.2.2.2.1 M.2.2.2.2.2.2.2.2.2.2.2.1 M.2.2.2.2.2.2.2.2.2.2.2.2.1 M.2.2.2.2.2.2.2.2.2.2.2.2.2.1 M.2.2.2.2.2.2.2.2.2.2.2.2.2.2.1 M.2.2.2.2.2.2.2.2.2.2.2.2.2.2.2.1 M.2.2.2.2.2.2.2.2.2.2.2.2.2.2.2.2.1 M.2.2.2.2.2.2.2.2.2.2.2.2.2.2.2.2.2.1 M.2.2.2.2.2.2.2.2.2.2.2.2.2.2.2.2.2.2).flatten := hD
  have L10 : ∀ (x1 : Int32) (n : Nat) (v : t_Model) (X : t_Model) (hF : zloop (b_X7_isNumber_10  x1) n v = some X) (H : Heap) (locs : List Loc) (ls : Array Slot) (hP : va_P Z.1 vwCl (l_Model Z.2.1 Am v.1 v.2.1 v.2.2.1 v.2.2.2.1 v.2.2.2.2.1 v.2.2.2.2.2.1 v.2.2.2.2.2.2.1 v.2.2.2.2.2.2.2.1 v.2.2.2.2.2.2.2.2.1 v.2.2.2.2.2.2.2.2.2.1 v.2.2.2.2.2.2.2.2.2.2.1 v.2.2.2.2.2.2.2.2.2.2.2.1 v.2.2.2.2.2.2.2.2.2.2.2.2.1 v.2.2.2.2.2.2.2.2.2.2.2.2.2.1 v.2.2.2.2.2.2.2.2.2.2.2.2.2.2.1 v.2.2.2.2.2.2.2.2.2.2.2.2.2.2.2.1 v.2.2.2.2.2.2.2.2.2.2.2.2.2.2.2.2.1 v.2.2.2.2.2.2.2.2.2.2.2.2.2.2.2.2.2.1 v.2.2.2.2.2.2.2.2.2.2.2.2.2.2.2.2.2.2).flatten H) (hD : va_D A (l_Model Z.2.1 Am v.1 v.2.1 v.2.2.1 v.2.2.2.1 v.2.2.2.2.1 v.2.2.2.2.2.1 v.2.2.2.2.2.2.1 v.2.2.2.2.2.2.2.1 v.2.2.2.2.2.2.2.2.1 v.2.2.2.2.2.2.2.2.2.1 v.2.2.2.2.2.2.2.2.2.2.1 v.2.2.2.2.2.2.2.2.2.2.2.1 v.2.2.2.2.2.2.2.2.2.2.2.2.1 v.2.2.2.2.2.2.2.2.2.2.2.2.2.1 v.2.2.2.2.2.2.2.2.2.2.2.2.2.2.1 v.2.2.2.2.2.2.2.2.2.2.2.2.2.2.2.1 v.2.2.2.2.2.2.2.2.2.2.2.2.2.2.2.2.1 v.2.2.2.2.2.2.2.2.2.2.2.2.2.2.2.2.2.1 v.2.2.2.2.2.2.2.2.2.2.2.2.2.2.2.2.2.2).flatten) (hS : va_S A s.heap H locs) (hl : lv_has ls 3 [(0, .ref (Am 0)), (1, .int x1)]) (K1 : ∀ (H : Heap) (locs : List Loc) (ls : Array Slot) (hP : va_P Z.1 vwCl (l_Model Z.2.1 Am X.1 X.2.1 X.2.2.1 X.2.2.2.1 X.2.2.2.2.1 X.2.2.2.2.2.1 X.2.2.2.2.2.2.1 X.2.2.2.2.2.2.2.1 X.2.2.2.2.2.2.2.2.1 X.2.2.2.2.2.2.2.2.2.1 X.2.2.2.2.2.2.2.2.2.2.1 X.2.2.2.2.2.2.2.2.2.2.2.1 X.2.2.2.2.2.2.2.2.2.2.2.2.1 X.2.2.2.2.2.2.2.2.2.2.2.2.2.1 X.2.2.2.2.2.2.2.2.2.2.2.2.2.2.1 X.2.2.2.2.2.2.2.2.2.2.2.2.2.2.2.1 X.2.2.2.2.2.2.2.2.2.2.2.2.2.2.2.2.1 X.2.2.2.2.2.2.2.2.2.2.2.2.2.2.2.2.2.1 X.2.2.2.2.2.2.2.2.2.2.2.2.2.2.2.2.2.2).flatten H) (hD : va_D A (l_Model Z.2.1 Am X.1 X.2.1 X.2.2.1 X.2.2.2.1 X.2.2.2.2.1 X.2.2.2.2.2.1 X.2.2.2.2.2.2.1 X.2.2.2.2.2.2.2.1 X.2.2.2.2.2.2.2.2.1 X.2.2.2.2.2.2.2.2.2.1 X.2.2.2.2.2.2.2.2.2.2.1 X.2.2.2.2.2.2.2.2.2.2.2.1 X.2.2.2.2.2.2.2.2.2.2.2.2.1 X.2.2.2.2.2.2.2.2.2.2.2.2.2.1 X.2.2.2.2.2.2.2.2.2.2.2.2.2.2.1 X.2.2.2.2.2.2.2.2.2.2.2.2.2.2.2.1 X.2.2.2.2.2.2.2.2.2.2.2.2.2.2.2.2.1 X.2.2.2.2.2.2.2.2.2.2.2.2.2.2.2.2.2.1 X.2.2.2.2.2.2.2.2.2.2.2.2.2.2.2.2.2.2).flatten) (hS : va_S A s.heap H locs) (hl : lv_has ls 3 [(0, .ref (Am 0)), (1, .int x1)]), W p l e rm_X7_isNumber s m ([.ref (Am 0)] : List Value).toArray below meth c H locs 0 0 Q (F0 m 68 ls [])), W p l e rm_X7_isNumber s m ([.ref (Am 0)] : List Value).toArray below meth c H locs 0 0 Q (F0 m 10 ls []) := by
    intro x1
    refine z_loopE (fun rec ih v X hF H locs ls hP hD hS hl K1 => ?_)
    unfold b_X7_isNumber_10 at hF
    refine lv_aload_n hx hb (z_d hX7_isNumber_0 6 rfl) rfl (lv_at hl 0 rfl) ?_
    refine va_get (D := Z.1) (ci := 7) (v := .int v.2.2.2.2.2.2.2.2.2.2.2.2.2.2.2.2.1) (C := RX7) (T := TX7) (N := 19) hx hb hts zinX7 hown hK.1 (zP_reg hP 0 rfl) 0 rfl rfl 16 (by decide) (hts _ k_f_X7_198) (fun _ h9 => h9) rfl (z_d hX7_isNumber_0 7 rfl) ?_
    refine lv_iload_n hx hb (z_d hX7_isNumber_0 8 rfl) rfl (lv_at hl 1 rfl) ?_
    refine lv_isub hx hb (z_d hX7_isNumber_0 9 rfl) ?_
    refine z_let hF (fun u1 hu1 hF => ?_)
    refine lv_topE hu1 ?_
    refine lv_iconst (v := 3) hx hb (z_d hX7_isNumber_0 10 rfl) (by decide) ?_
    refine lv_icmp_ge (tgt := 68) hx hb (z_d hX7_isNumber_0 11 rfl) (by decide) (fun hc17 => ?_) (fun hc17 => ?_)
    · have hF := z_pos hc17 hF
      obtain rfl := Option.some.inj hF
      exact K1 _ _ ls hP hD hS (lv_sub hl [0, 1] rfl)
    · have hF := z_neg hc17 hF
      refine lv_aload_n hx hb (z_d hX7_isNumber_0 12 rfl) rfl (lv_at hl 0 rfl) ?_
      refine lv_bipush (v := 48) hx hb (z_d hX7_isNumber_0 13 rfl) (by decide) ?_
      refine lv_bipush (v := 57) hx hb (z_d hX7_isNumber_0 14 rfl) (by decide) ?_
      refine z_bnd hF (fun q2 hq2 hF => ?_)
      refine z_ro_i (z_rV (As := [.int 48, .int 57]) (rest := []) hx hb hml hown hts vt_X7_isAt (c_X7_isAt l Z Am v 48 57 _ hq2) rfl rfl ⟨Nat.le_of_ble_eq_true rfl, Nat.le_of_ble_eq_true rfl⟩ k_m_X7_201 zPro_blind (z_recv (q := (RX7, TX7, 19)) (ci := 7) (q0 := 0) hK (zP_reg hP 0 rfl) rfl rfl) (z_prec hK hP) rfl hl.1 (Nat.le_of_ble_eq_true rfl) (z_d hX7_isNumber_0 15 rfl) ⟨Nat.zero_le _, Nat.zero_le _⟩) hS hP (fun H locs hP hS => ?_)
      refine lv_if_eq (tgt := 68) hx hb (z_d hX7_isNumber_0 16 rfl) (by decide) (fun hc28 => ?_) (fun hc28 => ?_)
      · have hF := z_pos hc28 hF
        obtain rfl := Option.some.inj hF
        exact K1 _ _ ls hP hD hS (lv_sub hl [0, 1] rfl)
      · have hF := z_neg hc28 hF
        refine lv_aload_n hx hb (z_d hX7_isNumber_0 17 rfl) rfl (lv_at hl 0 rfl) ?_
        refine lv_bipush (v := 10) hx hb (z_d hX7_isNumber_0 18 rfl) (by decide) ?_
        refine lv_aload_n hx hb (z_d hX7_isNumber_0 19 rfl) rfl (lv_at hl 0 rfl) ?_
        refine va_get (D := Z.1) (ci := 7) (v := .int v.2.2.2.2.2.2.2.2.2.2.2.2.2.2.2.2.2.1) (C := RX7) (T := TX7) (N := 19) hx hb hts zinX7 hown hK.1 (zP_reg hP 0 rfl) 0 rfl rfl 17 (by decide) (hts _ k_f_X7_204) (fun _ h9 => h9) rfl (z_d hX7_isNumber_0 20 rfl) ?_
        refine lv_imul hx hb (z_d hX7_isNumber_0 21 rfl) ?_
        refine z_let hF (fun u3 hu3 hF => ?_)
        refine lv_topE hu3 ?_
        refine lv_aload_n hx hb (z_d hX7_isNumber_0 22 rfl) rfl (lv_at hl 0 rfl) ?_
        refine va_get (D := Z.1) (ci := 7) (v := .ref (Am 4)) (C := RX7) (T := TX7) (N := 19) hx hb hts zinX7 hown hK.1 (zP_reg hP 0 rfl) 0 rfl rfl 4 (by decide) (hts _ k_f_X7_19) (fun _ h9 => h9) rfl (z_d hX7_isNumber_0 23 rfl) ?_
        refine lv_aload_n hx hb (z_d hX7_isNumber_0 24 rfl) rfl (lv_at hl 0 rfl) ?_
        refine va_get (D := Z.1) (ci := 7) (v := .int v.2.2.2.2.2.2.2.2.2.2.2.2.2.2.2.2.1) (C := RX7) (T := TX7) (N := 19) hx hb hts zinX7 hown hK.1 (zP_reg hP 0 rfl) 0 rfl rfl 16 (by decide) (hts _ k_f_X7_198) (fun _ h9 => h9) rfl (z_d hX7_isNumber_0 25 rfl) ?_
        refine z_ix hF (fun hin hF => ?_)
        refine va_iald (D := Z.1) (f := v.2.2.2.2.1) hx hb hK.1 (zP_reg hP 4 rfl) 0 0 rfl rfl hin (z_d hX7_isNumber_0 26 rfl) ?_
        refine z_let hF (fun u4 hu4 hF => ?_)
        refine lv_topE hu4 ?_
        refine lv_iadd hx hb (z_d hX7_isNumber_0 27 rfl) ?_
        refine z_let hF (fun u5 hu5 hF => ?_)
        refine lv_topE hu5 ?_
        refine lv_bipush (v := 48) hx hb (z_d hX7_isNumber_0 28 rfl) (by decide) ?_
        refine lv_isub hx hb (z_d hX7_isNumber_0 29 rfl) ?_
        refine z_let hF (fun u6 hu6 hF => ?_)
        refine lv_topE hu6 ?_
        refine z_put (Z := Z) (ci := 7) (v := .int u6) (ty := .int) (L := l_Model Z.2.1 Am v.1 v.2.1 v.2.2.1 v.2.2.2.1 v.2.2.2.2.1 v.2.2.2.2.2.1 v.2.2.2.2.2.2.1 v.2.2.2.2.2.2.2.1 v.2.2.2.2.2.2.2.2.1 v.2.2.2.2.2.2.2.2.2.1 v.2.2.2.2.2.2.2.2.2.2.1 v.2.2.2.2.2.2.2.2.2.2.2.1 v.2.2.2.2.2.2.2.2.2.2.2.2.1 v.2.2.2.2.2.2.2.2.2.2.2.2.2.1 v.2.2.2.2.2.2.2.2.2.2.2.2.2.2.1 v.2.2.2.2.2.2.2.2.2.2.2.2.2.2.2.1 v.2.2.2.2.2.2.2.2.2.2.2.2.2.2.2.2.1 v.2.2.2.2.2.2.2.2.2.2.2.2.2.2.2.2.2.1 v.2.2.2.2.2.2.2.2.2.2.2.2.2.2.2.2.2.2) (L' := l_Model Z.2.1 Am v.1 v.2.1 v.2.2.1 v.2.2.2.1 v.2.2.2.2.1 v.2.2.2.2.2.1 v.2.2.2.2.2.2.1 v.2.2.2.2.2.2.2.1 v.2.2.2.2.2.2.2.2.1 v.2.2.2.2.2.2.2.2.2.1 v.2.2.2.2.2.2.2.2.2.2.1 v.2.2.2.2.2.2.2.2.2.2.2.1 v.2.2.2.2.2.2.2.2.2.2.2.2.1 v.2.2.2.2.2.2.2.2.2.2.2.2.2.1 v.2.2.2.2.2.2.2.2.2.2.2.2.2.2.1 v.2.2.2.2.2.2.2.2.2.2.2.2.2.2.2.1 v.2.2.2.2.2.2.2.2.2.2.2.2.2.2.2.2.1 u6 v.2.2.2.2.2.2.2.2.2.2.2.2.2.2.2.2.2.2) (C := RX7) (T := TX7) (N := 19) hx hb hts zinX7 tyX7 tyX7_ok nmX7 hown hK hP hD hS 0 rfl rfl 17 (by decide) (hts _ k_f_X7_204) (fun _ h9 => h9) rfl (tyX7_ok 17 (by decide)) rfl rfl (Nat.le_of_ble_eq_true rfl) rfl (z_d hX7_isNumber_0 30 rfl) (fun H locs hP hD hS => ?_)
        refine lv_aload_n hx hb (z_d hX7_isNumber_0 31 rfl) rfl (lv_at hl 0 rfl) ?_
        refine lv_dup hx hb (z_d hX7_isNumber_0 32 rfl) rfl ?_
        refine va_get (D := Z.1) (ci := 7) (v := .int v.2.2.2.2.2.2.2.2.2.2.2.2.2.2.2.2.1) (C := RX7) (T := TX7) (N := 19) hx hb hts zinX7 hown hK.1 (zP_reg hP 0 rfl) 0 rfl rfl 16 (by decide) (hts _ k_f_X7_198) (fun _ h9 => h9) rfl (z_d hX7_isNumber_0 33 rfl) ?_
        refine lv_iconst (v := 1) hx hb (z_d hX7_isNumber_0 34 rfl) (by decide) ?_
        refine lv_iadd hx hb (z_d hX7_isNumber_0 35 rfl) ?_
        refine z_let hF (fun u7 hu7 hF => ?_)
        refine lv_topE hu7 ?_
        refine z_put (Z := Z) (ci := 7) (v := .int u7) (ty := .int) (L := l_Model Z.2.1 Am v.1 v.2.1 v.2.2.1 v.2.2.2.1 v.2.2.2.2.1 v.2.2.2.2.2.1 v.2.2.2.2.2.2.1 v.2.2.2.2.2.2.2.1 v.2.2.2.2.2.2.2.2.1 v.2.2.2.2.2.2.2.2.2.1 v.2.2.2.2.2.2.2.2.2.2.1 v.2.2.2.2.2.2.2.2.2.2.2.1 v.2.2.2.2.2.2.2.2.2.2.2.2.1 v.2.2.2.2.2.2.2.2.2.2.2.2.2.1 v.2.2.2.2.2.2.2.2.2.2.2.2.2.2.1 v.2.2.2.2.2.2.2.2.2.2.2.2.2.2.2.1 v.2.2.2.2.2.2.2.2.2.2.2.2.2.2.2.2.1 u6 v.2.2.2.2.2.2.2.2.2.2.2.2.2.2.2.2.2.2) (L' := l_Model Z.2.1 Am v.1 v.2.1 v.2.2.1 v.2.2.2.1 v.2.2.2.2.1 v.2.2.2.2.2.1 v.2.2.2.2.2.2.1 v.2.2.2.2.2.2.2.1 v.2.2.2.2.2.2.2.2.1 v.2.2.2.2.2.2.2.2.2.1 v.2.2.2.2.2.2.2.2.2.2.1 v.2.2.2.2.2.2.2.2.2.2.2.1 v.2.2.2.2.2.2.2.2.2.2.2.2.1 v.2.2.2.2.2.2.2.2.2.2.2.2.2.1 v.2.2.2.2.2.2.2.2.2.2.2.2.2.2.1 v.2.2.2.2.2.2.2.2.2.2.2.2.2.2.2.1 u7 u6 v.2.2.2.2.2.2.2.2.2.2.2.2.2.2.2.2.2.2) (C := RX7) (T := TX7) (N := 19) hx hb hts zinX7 tyX7 tyX7_ok nmX7 hown hK hP hD hS 0 rfl rfl 16 (by decide) (hts _ k_f_X7_198) (fun _ h9 => h9) rfl (tyX7_ok 16 (by decide)) rfl rfl (Nat.le_of_ble_eq_true rfl) rfl (z_d hX7_isNumber_0 36 rfl) (fun H locs hP hD hS => ?_)
        refine lv_goto (tgt := 10) hx hb (z_d hX7_isNumber_0 37 rfl) (by decide) ?_
        exact ih _ _ hF _ _ ls hP hD hS (lv_sub hl [0, 1] rfl) K1
  have J68 : ∀ (M : t_Model) (x1 : Int32) (hF : j_X7_isNumber_68 M x1 = some R) (H : Heap) (locs : List Loc) (ls : Array Slot) (hP : va_P Z.1 vwCl (l_Model Z.2.1 Am M.1 M.2.1 M.2.2.1 M.2.2.2.1 M.2.2.2.2.1 M.2.2.2.2.2.1 M.2.2.2.2.2.2.1 M.2.2.2.2.2.2.2.1 M.2.2.2.2.2.2.2.2.1 M.2.2.2.2.2.2.2.2.2.1 M.2.2.2.2.2.2.2.2.2.2.1 M.2.2.2.2.2.2.2.2.2.2.2.1 M.2.2.2.2.2.2.2.2.2.2.2.2.1 M.2.2.2.2.2.2.2.2.2.2.2.2.2.1 M.2.2.2.2.2.2.2.2.2.2.2.2.2.2.1 M.2.2.2.2.2.2.2.2.2.2.2.2.2.2.2.1 M.2.2.2.2.2.2.2.2.2.2.2.2.2.2.2.2.1 M.2.2.2.2.2.2.2.2.2.2.2.2.2.2.2.2.2.1 M.2.2.2.2.2.2.2.2.2.2.2.2.2.2.2.2.2.2).flatten H) (hD : va_D A (l_Model Z.2.1 Am M.1 M.2.1 M.2.2.1 M.2.2.2.1 M.2.2.2.2.1 M.2.2.2.2.2.1 M.2.2.2.2.2.2.1 M.2.2.2.2.2.2.2.1 M.2.2.2.2.2.2.2.2.1 M.2.2.2.2.2.2.2.2.2.1 M.2.2.2.2.2.2.2.2.2.2.1 M.2.2.2.2.2.2.2.2.2.2.2.1 M.2.2.2.2.2.2.2.2.2.2.2.2.1 M.2.2.2.2.2.2.2.2.2.2.2.2.2.1 M.2.2.2.2.2.2.2.2.2.2.2.2.2.2.1 M.2.2.2.2.2.2.2.2.2.2.2.2.2.2.2.1 M.2.2.2.2.2.2.2.2.2.2.2.2.2.2.2.2.1 M.2.2.2.2.2.2.2.2.2.2.2.2.2.2.2.2.2.1 M.2.2.2.2.2.2.2.2.2.2.2.2.2.2.2.2.2.2).flatten) (hS : va_S A s.heap H locs) (hl : lv_has ls 3 [(0, .ref (Am 0)), (1, .int x1)]), W p l e rm_X7_isNumber s m ([.ref (Am 0)] : List Value).toArray below meth c H locs 0 0 Q (F0 m 68 ls []) := by
    intro M x1 hF H locs ls hP hD hS hl
    unfold j_X7_isNumber_68 at hF
    refine lv_aload_n hx hb (z_d hX7_isNumber_0 38 rfl) rfl (lv_at hl 0 rfl) ?_
    refine va_get (D := Z.1) (ci := 7) (v := .int M.2.2.2.2.2.2.2.2.2.2.2.2.2.2.2.2.1) (C := RX7) (T := TX7) (N := 19) hx hb hts zinX7 hown hK.1 (zP_reg hP 0 rfl) 0 rfl rfl 16 (by decide) (hts _ k_f_X7_198) (fun _ h9 => h9) rfl (z_d hX7_isNumber_0 39 rfl) ?_
    refine lv_iload_n hx hb (z_d hX7_isNumber_0 40 rfl) rfl (lv_at hl 1 rfl) ?_
    refine lv_icmp_eq (tgt := 87) hx hb (z_d hX7_isNumber_0 41 rfl) (by decide) (fun hc73 => ?_) (fun hc73 => ?_)
    · have hF := z_pos hc73 hF
      refine lv_iconst (v := 0) hx hb (z_d hX7_isNumber_0 47 rfl) (by decide) ?_
      have hz9 : narrow .boolean (.int 0) = .int 0 := rfl
      obtain rfl := Option.some.inj hF
      subst hQ
      subst hA
      exact W.zret hx hb hr hz9 (fun t ht hW => zq_mu (by rw [ht]; exact hP) (hS.F ht)) hS.2.2 (z_d hX7_isNumber_0 48 rfl)
    · have hF := z_neg hc73 hF
      refine lv_aload_n hx hb (z_d hX7_isNumber_0 42 rfl) rfl (lv_at hl 0 rfl) ?_
      refine lv_bipush (v := 48) hx hb (z_d hX7_isNumber_0 43 rfl) (by decide) ?_
      refine lv_bipush (v := 57) hx hb (z_d hX7_isNumber_0 44 rfl) (by decide) ?_
      refine z_bnd hF (fun q9 hq9 hF => ?_)
      refine z_ro_i (z_rV (As := [.int 48, .int 57]) (rest := []) hx hb hml hown hts vt_X7_isAt (c_X7_isAt l Z Am M 48 57 _ hq9) rfl rfl ⟨Nat.le_of_ble_eq_true rfl, Nat.le_of_ble_eq_true rfl⟩ k_m_X7_201 zPro_blind (z_recv (q := (RX7, TX7, 19)) (ci := 7) (q0 := 0) hK (zP_reg hP 0 rfl) rfl rfl) (z_prec hK hP) rfl hl.1 (Nat.le_of_ble_eq_true rfl) (z_d hX7_isNumber_0 45 rfl) ⟨Nat.zero_le _, Nat.zero_le _⟩) hS hP (fun H locs hP hS => ?_)
      refine lv_if_eq (tgt := 89) hx hb (z_d hX7_isNumber_0 46 rfl) (by decide) (fun hc84 => ?_) (fun hc84 => ?_)
      · have hF := z_pos hc84 hF
        refine lv_aload_n hx hb (z_d hX7_isNumber_0 49 rfl) rfl (lv_at hl 0 rfl) ?_
        refine va_get (D := Z.1) (ci := 7) (v := .int M.2.2.2.2.2.2.2.2.2.2.2.2.2.2.2.2.2.1) (C := RX7) (T := TX7) (N := 19) hx hb hts zinX7 hown hK.1 (zP_reg hP 0 rfl) 0 rfl rfl 17 (by decide) (hts _ k_f_X7_204) (fun _ h9 => h9) rfl (z_d hX7_isNumber_0 50 rfl) ?_
        refine z_let hF (fun q10 hq10 hF => ?_)
        refine z_ro_i (z_rS (As := [.int M.2.2.2.2.2.2.2.2.2.2.2.2.2.2.2.2.2.1]) (rest := []) hx hb hml hown hts vs_X7_isLength (c_X7_isLength l Z M.2.2.2.2.2.2.2.2.2.2.2.2.2.2.2.2.2.1 _ hq10) rfl rfl ⟨Nat.le_of_ble_eq_true rfl, Nat.le_of_ble_eq_true rfl⟩ k_m_X7_132 zPro_blind (z_prec hK zP_nil) rfl hl.1 (Nat.le_of_ble_eq_true rfl) (z_d hX7_isNumber_0 51 rfl) ⟨Nat.zero_le _, Nat.zero_le _⟩) hS hP (fun H locs hP hS => ?_)
        refine lv_istore_n (lv' := [(2, .int q10), (0, .ref (Am 0)), (1, .int x1)]) hx hb (z_d hX7_isNumber_0 52 rfl) rfl hl (by decide) rfl (fun ls hl => ?_)
        refine lv_aload_n hx hb (z_d hX7_isNumber_0 53 rfl) rfl (lv_at hl 1 rfl) ?_
        refine lv_iload_n hx hb (z_d hX7_isNumber_0 54 rfl) rfl (lv_at hl 0 rfl) ?_
        refine lv_if_eq (tgt := 109) hx hb (z_d hX7_isNumber_0 55 rfl) (by decide) (fun hc99 => ?_) (fun hc99 => ?_)
        · have hF := z_pos hc99 hF
          refine lv_iload_n hx hb (z_d hX7_isNumber_0 59 rfl) rfl (lv_at hl 2 rfl) ?_
          refine z_put (Z := Z) (ci := 7) (v := .int x1) (ty := .int) (L := l_Model Z.2.1 Am M.1 M.2.1 M.2.2.1 M.2.2.2.1 M.2.2.2.2.1 M.2.2.2.2.2.1 M.2.2.2.2.2.2.1 M.2.2.2.2.2.2.2.1 M.2.2.2.2.2.2.2.2.1 M.2.2.2.2.2.2.2.2.2.1 M.2.2.2.2.2.2.2.2.2.2.1 M.2.2.2.2.2.2.2.2.2.2.2.1 M.2.2.2.2.2.2.2.2.2.2.2.2.1 M.2.2.2.2.2.2.2.2.2.2.2.2.2.1 M.2.2.2.2.2.2.2.2.2.2.2.2.2.2.1 M.2.2.2.2.2.2.2.2.2.2.2.2.2.2.2.1 M.2.2.2.2.2.2.2.2.2.2.2.2.2.2.2.2.1 M.2.2.2.2.2.2.2.2.2.2.2.2.2.2.2.2.2.1 M.2.2.2.2.2.2.2.2.2.2.2.2.2.2.2.2.2.2) (L' := l_Model Z.2.1 Am M.1 M.2.1 M.2.2.1 M.2.2.2.1 M.2.2.2.2.1 M.2.2.2.2.2.1 M.2.2.2.2.2.2.1 M.2.2.2.2.2.2.2.1 M.2.2.2.2.2.2.2.2.1 M.2.2.2.2.2.2.2.2.2.1 M.2.2.2.2.2.2.2.2.2.2.1 M.2.2.2.2.2.2.2.2.2.2.2.1 M.2.2.2.2.2.2.2.2.2.2.2.2.1 M.2.2.2.2.2.2.2.2.2.2.2.2.2.1 M.2.2.2.2.2.2.2.2.2.2.2.2.2.2.1 M.2.2.2.2.2.2.2.2.2.2.2.2.2.2.2.1 x1 M.2.2.2.2.2.2.2.2.2.2.2.2.2.2.2.2.2.1 M.2.2.2.2.2.2.2.2.2.2.2.2.2.2.2.2.2.2) (C := RX7) (T := TX7) (N := 19) hx hb hts zinX7 tyX7 tyX7_ok nmX7 hown hK hP hD hS 0 rfl rfl 16 (by decide) (hts _ k_f_X7_198) (fun _ h9 => h9) rfl (tyX7_ok 16 (by decide)) rfl rfl (Nat.le_of_ble_eq_true rfl) rfl (z_d hX7_isNumber_1 0 rfl) (fun H locs hP hD hS => ?_)
          refine lv_iload_n hx hb (z_d hX7_isNumber_1 1 rfl) rfl (lv_at hl 0 rfl) ?_
          have hz9 := z_bool (hq10 ▸ X7_isLength_b M.2.2.2.2.2.2.2.2.2.2.2.2.2.2.2.2.2.1)
          obtain rfl := Option.some.inj hF
          subst hQ
          subst hA
          exact W.zret hx hb hr hz9 (fun t ht hW => zq_mu (by rw [ht]; exact hP) (hS.F ht)) hS.2.2 (z_d hX7_isNumber_1 2 rfl)
        · have hF := z_neg hc99 hF
          refine lv_aload_n hx hb (z_d hX7_isNumber_0 56 rfl) rfl (lv_at hl 1 rfl) ?_
          refine va_get (D := Z.1) (ci := 7) (v := .int M.2.2.2.2.2.2.2.2.2.2.2.2.2.2.2.2.1) (C := RX7) (T := TX7) (N := 19) hx hb hts zinX7 hown hK.1 (zP_reg hP 0 rfl) 0 rfl rfl 16 (by decide) (hts _ k_f_X7_198) (fun _ h9 => h9) rfl (z_d hX7_isNumber_0 57 rfl) ?_
          refine lv_goto (tgt := 110) hx hb (z_d hX7_isNumber_0 58 rfl) (by decide) ?_
          refine z_put (Z := Z) (ci := 7) (v := .int M.2.2.2.2.2.2.2.2.2.2.2.2.2.2.2.2.1) (ty := .int) (L := l_Model Z.2.1 Am M.1 M.2.1 M.2.2.1 M.2.2.2.1 M.2.2.2.2.1 M.2.2.2.2.2.1 M.2.2.2.2.2.2.1 M.2.2.2.2.2.2.2.1 M.2.2.2.2.2.2.2.2.1 M.2.2.2.2.2.2.2.2.2.1 M.2.2.2.2.2.2.2.2.2.2.1 M.2.2.2.2.2.2.2.2.2.2.2.1 M.2.2.2.2.2.2.2.2.2.2.2.2.1 M.2.2.2.2.2.2.2.2.2.2.2.2.2.1 M.2.2.2.2.2.2.2.2.2.2.2.2.2.2.1 M.2.2.2.2.2.2.2.2.2.2.2.2.2.2.2.1 M.2.2.2.2.2.2.2.2.2.2.2.2.2.2.2.2.1 M.2.2.2.2.2.2.2.2.2.2.2.2.2.2.2.2.2.1 M.2.2.2.2.2.2.2.2.2.2.2.2.2.2.2.2.2.2) (L' := l_Model Z.2.1 Am M.1 M.2.1 M.2.2.1 M.2.2.2.1 M.2.2.2.2.1 M.2.2.2.2.2.1 M.2.2.2.2.2.2.1 M.2.2.2.2.2.2.2.1 M.2.2.2.2.2.2.2.2.1 M.2.2.2.2.2.2.2.2.2.1 M.2.2.2.2.2.2.2.2.2.2.1 M.2.2.2.2.2.2.2.2.2.2.2.1 M.2.2.2.2.2.2.2.2.2.2.2.2.1 M.2.2.2.2.2.2.2.2.2.2.2.2.2.1 M.2.2.2.2.2.2.2.2.2.2.2.2.2.2.1 M.2.2.2.2.2.2.2.2.2.2.2.2.2.2.2.1 M.2.2.2.2.2.2.2.2.2.2.2.2.2.2.2.2.1 M.2.2.2.2.2.2.2.2.2.2.2.2.2.2.2.2.2.1 M.2.2.2.2.2.2.2.2.2.2.2.2.2.2.2.2.2.2) (C := RX7) (T := TX7) (N := 19) hx hb hts zinX7 tyX7 tyX7_ok nmX7 hown hK hP hD hS 0 rfl rfl 16 (by decide) (hts _ k_f_X7_198) (fun _ h9 => h9) rfl (tyX7_ok 16 (by decide)) rfl rfl (Nat.le_of_ble_eq_true rfl) rfl (z_d hX7_isNumber_1 0 rfl) (fun H locs hP hD hS => ?_)
          refine lv_iload_n hx hb (z_d hX7_isNumber_1 1 rfl) rfl (lv_at hl 0 rfl) ?_
          have hz9 := z_bool (hq10 ▸ X7_isLength_b M.2.2.2.2.2.2.2.2.2.2.2.2.2.2.2.2.2.1)
          obtain rfl := Option.some.inj hF
          subst hQ
          subst hA
          exact W.zret hx hb hr hz9 (fun t ht hW => zq_mu (by rw [ht]; exact hP) (hS.F ht)) hS.2.2 (z_d hX7_isNumber_1 2 rfl)
      · have hF := z_neg hc84 hF
        refine lv_iconst (v := 0) hx hb (z_d hX7_isNumber_0 47 rfl) (by decide) ?_
        have hz9 : narrow .boolean (.int 0) = .int 0 := rfl
        obtain rfl := Option.some.inj hF
        subst hQ
        subst hA
        exact W.zret hx hb hr hz9 (fun t ht hW => zq_mu (by rw [ht]; exact hP) (hS.F ht)) hS.2.2 (z_d hX7_isNumber_0 48 rfl)
  refine lv_aload_n hx hb (z_d hX7_isNumber_0 0 rfl) rfl (lv_at hl 0 rfl) ?_
  refine va_get (D := Z.1) (ci := 7) (v := .int M.2.2.2.2.2.2.2.2.2.2.2.2.2.2.2.2.1) (C := RX7) (T := TX7) (N := 19) hx hb hts zinX7 hown hK.1 (zP_reg hP 0 rfl) 0 rfl rfl 16 (by decide) (hts _ k_f_X7_198) (fun _ h9 => h9) rfl (z_d hX7_isNumber_0 1 rfl) ?_
  refine lv_istore_n (lv' := [(1, .int M.2.2.2.2.2.2.2.2.2.2.2.2.2.2.2.2.1), (0, .ref (Am 0))]) hx hb (z_d hX7_isNumber_0 2 rfl) rfl hl (by decide) rfl (fun ls hl => ?_)
  refine lv_aload_n hx hb (z_d hX7_isNumber_0 3 rfl) rfl (lv_at hl 1 rfl) ?_
  refine lv_iconst (v := 0) hx hb (z_d hX7_isNumber_0 4 rfl) (by decide) ?_
  refine z_put (Z := Z) (ci := 7) (v := .int 0) (ty := .int) (L := l_Model Z.2.1 Am M.1 M.2.1 M.2.2.1 M.2.2.2.1 M.2.2.2.2.1 M.2.2.2.2.2.1 M.2.2.2.2.2.2.1 M.2.2.2.2.2.2.2.1 M.2.2.2.2.2.2.2.2.1 M.2.2.2.2.2.2.2.2.2.1 M.2.2.2.2.2.2.2.2.2.2.1 M.2.2.2.2.2.2.2.2.2.2.2.1 M.2.2.2.2.2.2.2.2.2.2.2.2.1 M.2.2.2.2.2.2.2.2.2.2.2.2.2.1 M.2.2.2.2.2.2.2.2.2.2.2.2.2.2.1 M.2.2.2.2.2.2.2.2.2.2.2.2.2.2.2.1 M.2.2.2.2.2.2.2.2.2.2.2.2.2.2.2.2.1 M.2.2.2.2.2.2.2.2.2.2.2.2.2.2.2.2.2.1 M.2.2.2.2.2.2.2.2.2.2.2.2.2.2.2.2.2.2) (L' := l_Model Z.2.1 Am M.1 M.2.1 M.2.2.1 M.2.2.2.1 M.2.2.2.2.1 M.2.2.2.2.2.1 M.2.2.2.2.2.2.1 M.2.2.2.2.2.2.2.1 M.2.2.2.2.2.2.2.2.1 M.2.2.2.2.2.2.2.2.2.1 M.2.2.2.2.2.2.2.2.2.2.1 M.2.2.2.2.2.2.2.2.2.2.2.1 M.2.2.2.2.2.2.2.2.2.2.2.2.1 M.2.2.2.2.2.2.2.2.2.2.2.2.2.1 M.2.2.2.2.2.2.2.2.2.2.2.2.2.2.1 M.2.2.2.2.2.2.2.2.2.2.2.2.2.2.2.1 M.2.2.2.2.2.2.2.2.2.2.2.2.2.2.2.2.1 0 M.2.2.2.2.2.2.2.2.2.2.2.2.2.2.2.2.2.2) (C := RX7) (T := TX7) (N := 19) hx hb hts zinX7 tyX7 tyX7_ok nmX7 hown hK hP hD hS 0 rfl rfl 17 (by decide) (hts _ k_f_X7_204) (fun _ h9 => h9) rfl (tyX7_ok 17 (by decide)) rfl rfl (Nat.le_of_ble_eq_true rfl) rfl (z_d hX7_isNumber_0 5 rfl) (fun H locs hP hD hS => ?_)
  refine z_bnd hF (fun q8 hq8 hF => ?_)
  refine L10 M.2.2.2.2.2.2.2.2.2.2.2.2.2.2.2.2.1 _ _ _ hq8 _ _ ls hP hD hS (lv_sub hl [1, 0] rfl) (fun H locs ls hP hD hS hl => ?_)
  exact J68 q8 M.2.2.2.2.2.2.2.2.2.2.2.2.2.2.2.2.1 hF _ _ ls hP hD hS (lv_sub hl [0, 1] rfl)
def rm_X7_isItem : Room := { frames := 3, cells := 0, slots := 0, locals := 66 }
set_option maxRecDepth 100000 in
set_option maxHeartbeats 4000000 in
theorem c_X7_isItem (l : Launch) (Z : zZ) (Am : Nat → Nat) (M : t_Model) (R : Int32 × t_Model) (hF : X7_isItem M = some R) : zMU l yX7_isItem (zw yX7_isItem cX7_isItem 3 (some .boolean)) rm_X7_isItem Z [.ref (Am 0)] (w_Model Z.2.1 Am M) (w_Model Z.2.1 Am R.2) (some (.int R.1)) := by
  refine zMU_of (by decide) (Nat.le_of_ble_eq_true rfl) (fun p e s m below meth c hx hb hr hml hown hts hlocks hK A hA Q hQ ls hl hP hD hS => ?_)
  unfold X7_isItem at hF
  have hl : lv_has ls 3 [(0, .ref (Am 0))] := hl
  have hown : s.vm.findClass RX7 = some m.cls := hown
  have hP : va_P Z.1 vwCl (l_Model Z.2.1 Am M.1 M.2.1 M.2.2.1 M.2.2.2.1 M.2.2.2.2.1 M.2.2.2.2.2.1 M.2.2.2.2.2.2.1 M.2.2.2.2.2.2.2.1 M.2.2.2.2.2.2.2.2.1 M.2.2.2.2.2.2.2.2.2.1 M.2.2.2.2.2.2.2.2.2.2.1 M.2.2.2.2.2.2.2.2.2.2.2.1 M.2.2.2.2.2.2.2.2.2.2.2.2.1 M.2.2.2.2.2.2.2.2.2.2.2.2.2.1 M.2.2.2.2.2.2.2.2.2.2.2.2.2.2.1 M.2.2.2.2.2.2.2.2.2.2.2.2.2.2.2.1 M.2.2.2.2.2.2.2.2.2.2.2.2.2.2.2.2.1 M.2.2.2.2.2.2.2.2.2.2.2.2.2.2.2.2.2.1 M.2.2.2.2.2.2.2.2.2.2.2.2.2.2.2.2.2.2).flatten s.heap := hP
  have hD : va_D A (l_Model Z.2.1 Am M.1 M.2.1 M.2.2.1 M.2.2.2.1 M.2.2.2.2.1 M.2.2.2.2.2.1 M.2.2.2.2.2.2.1 M.2.2.2.2.2.2.2.1 M.2.2.2.2.2.2.2.2.1 M.2.2.2.2.2.2.2.2.2.1 M.2.2.2.2.2.2.2.2.2.2.1 M.2.2.2.2.2.2.2.2.2.2.2.1 M.2.2.2.2.2.2.2.2.2.2.2.2.1 M.2.2.2.2.2.2.2.2.2.2.2.2.2.1 M.2.2.2.2.2.2.2.2.2.2.2.2.2.2.1 M.2.2.2.2.2.2.2.2.2.2.2.2.2.2.2.1 M.2.2.2.2.2.2.2.2.2.2.2.2.2.2.2.2.1 M.2.2.2.2.2.2.2.2.2.2.2.2.2.2.2.2.2.1 M.2.2.2.2.2.2.2.2.2.2.2.2.2.2.2.2.2.2).flatten := hD
  have J113 : ∀ (M : t_Model) (x1 : Int32) (x2 : Int32) (hF : j_X7_isItem_113 M x1 x2 = some R) (H : Heap) (locs : List Loc) (ls : Array Slot) (hP : va_P Z.1 vwCl (l_Model Z.2.1 Am M.1 M.2.1 M.2.2.1 M.2.2.2.1 M.2.2.2.2.1 M.2.2.2.2.2.1 M.2.2.2.2.2.2.1 M.2.2.2.2.2.2.2.1 M.2.2.2.2.2.2.2.2.1 M.2.2.2.2.2.2.2.2.2.1 M.2.2.2.2.2.2.2.2.2.2.1 M.2.2.2.2.2.2.2.2.2.2.2.1 M.2.2.2.2.2.2.2.2.2.2.2.2.1 M.2.2.2.2.2.2.2.2.2.2.2.2.2.1 M.2.2.2.2.2.2.2.2.2.2.2.2.2.2.1 M.2.2.2.2.2.2.2.2.2.2.2.2.2.2.2.1 M.2.2.2.2.2.2.2.2.2.2.2.2.2.2.2.2.1 M.2.2.2.2.2.2.2.2.2.2.2.2.2.2.2.2.2.1 M.2.2.2.2.2.2.2.2.2.2.2.2.2.2.2.2.2.2).flatten H) (hD : va_D A (l_Model Z.2.1 Am M.1 M.2.1 M.2.2.1 M.2.2.2.1 M.2.2.2.2.1 M.2.2.2.2.2.1 M.2.2.2.2.2.2.1 M.2.2.2.2.2.2.2.1 M.2.2.2.2.2.2.2.2.1 M.2.2.2.2.2.2.2.2.2.1 M.2.2.2.2.2.2.2.2.2.2.1 M.2.2.2.2.2.2.2.2.2.2.2.1 M.2.2.2.2.2.2.2.2.2.2.2.2.1 M.2.2.2.2.2.2.2.2.2.2.2.2.2.1 M.2.2.2.2.2.2.2.2.2.2.2.2.2.2.1 M.2.2.2.2.2.2.2.2.2.2.2.2.2.2.2.1 M.2.2.2.2.2.2.2.2.2.2.2.2.2.2.2.2.1 M.2.2.2.2.2.2.2.2.2.2.2.2.2.2.2.2.2.1 M.2.2.2.2.2.2.2.2.2.2.2.2.2.2.2.2.2.2).flatten) (hS : va_S A s.heap H locs) (hl : lv_has ls 3 [(0, .ref (Am 0)), (1, .int x1), (2, .int x2)]), W p l e rm_X7_isItem s m ([.ref (Am 0)] : List Value).toArray below meth c H locs 0 0 Q (F0 m 113 ls []) := by
    intro M x1 x2 hF H locs ls hP hD hS hl
    unfold j_X7_isItem_113 at hF
    refine lv_aload_n hx hb (z_d hX7_isItem_1 5 rfl) rfl (lv_at hl 0 rfl) ?_
    refine lv_bipush (v := 59) hx hb (z_d hX7_isItem_1 6 rfl) (by decide) ?_
    refine z_bnd hF (fun q6 hq6 hF => ?_)
    refine z_mu0 (z_rV (As := [.int 59]) (rest := []) hx hb hml hown hts vt_X7_takes (c_X7_takes l Z Am M 59 _ hq6) rfl rfl ⟨Nat.le_of_ble_eq_true rfl, Nat.le_of_ble_eq_true rfl⟩ k_m_X7_210 zPmu_blind (z_recv (q := (RX7, TX7, 19)) (ci := 7) (q0 := 0) hK (zP_reg hP 0 rfl) rfl rfl) (z_prem hK hP hD) rfl hl.1 (Nat.le_of_ble_eq_true rfl) (z_d hX7_isItem_1 7 rfl) ⟨Nat.zero_le _, Nat.zero_le _⟩) hS hD (adr_Model _ _ _ _) (fun H locs hP hD hS => ?_)
    have hP : va_P Z.1 vwCl (l_Model Z.2.1 Am q6.2.1 q6.2.2.1 q6.2.2.2.1 q6.2.2.2.2.1 q6.2.2.2.2.2.1 q6.2.2.2.2.2.2.1 q6.2.2.2.2.2.2.2.1 q6.2.2.2.2.2.2.2.2.1 q6.2.2.2.2.2.2.2.2.2.1 q6.2.2.2.2.2.2.2.2.2.2.1 q6.2.2.2.2.2.2.2.2.2.2.2.1 q6.2.2.2.2.2.2.2.2.2.2.2.2.1 q6.2.2.2.2.2.2.2.2.2.2.2.2.2.1 q6.2.2.2.2.2.2.2.2.2.2.2.2.2.2.1 q6.2.2.2.2.2.2.2.2.2.2.2.2.2.2.2.1 q6.2.2.2.2.2.2.2.2.2.2.2.2.2.2.2.2.1 q6.2.2.2.2.2.2.2.2.2.2.2.2.2.2.2.2.2.1 q6.2.2.2.2.2.2.2.2.2.2.2.2.2.2.2.2.2.2.1 q6.2.2.2.2.2.2.2.2.2.2.2.2.2.2.2.2.2.2.2).flatten H := hP
    have hD : va_D A (l_Model Z.2.1 Am q6.2.1 q6.2.2.1 q6.2.2.2.1 q6.2.2.2.2.1 q6.2.2.2.2.2.1 q6.2.2.2.2.2.2.1 q6.2.2.2.2.2.2.2.1 q6.2.2.2.2.2.2.2.2.1 q6.2.2.2.2.2.2.2.2.2.1 q6.2.2.2.2.2.2.2.2.2.2.1 q6.2.2.2.2.2.2.2.2.2.2.2.1 q6.2.2.2.2.2.2.2.2.2.2.2.2.1 q6.2.2.2.2.2.2.2.2.2.2.2.2.2.1 q6.2.2.2.2.2.2.2.2.2.2.2.2.2.2.1 q6.2.2.2.2.2.2.2.2.2.2.2.2.2.2.2.1 q6.2.2.2.2.2.2.2.2.2.2.2.2.2.2.2.2.1 q6.2.2.2.2.2.2.2.2.2.2.2.2.2.2.2.2.2.1 q6.2.2.2.2.2.2.2.2.2.2.2.2.2.2.2.2.2.2.1 q6.2.2.2.2.2.2.2.2.2.2.2.2.2.2.2.2.2.2.2).flatten := hD
    refine W.eq (g2 := F0 m 119 ls [.int q6.1]) rfl ?_
    refine lv_if_ne (tgt := 124) hx hb (z_d hX7_isItem_1 8 rfl) (by decide) (fun hc119 => ?_) (fun hc119 => ?_)
    · have hF := z_neg hc119 hF
      refine lv_aload_n hx hb (z_d hX7_isItem_1 11 rfl) rfl (lv_at hl 0 rfl) ?_
      refine lv_aload_n hx hb (z_d hX7_isItem_1 12 rfl) rfl (lv_at hl 0 rfl) ?_
      refine va_get (D := Z.1) (ci := 7) (v := .ref (Am 1)) (C := RX7) (T := TX7) (N := 19) hx hb hts zinX7 hown hK.1 (zP_reg hP 0 rfl) 0 rfl rfl 0 (by decide) (hts _ k_f_X7_7) (fun _ h9 => h9) rfl (z_d hX7_isItem_1 13 rfl) ?_
      refine lv_iconst (v := 1) hx hb (z_d hX7_isItem_1 14 rfl) (by decide) ?_
      refine z_ix hF (fun hin hF => ?_)
      refine va_iald (D := Z.1) (f := q6.2.1) hx hb hK.1 (zP_reg hP 1 rfl) 0 0 rfl rfl hin (z_d hX7_isItem_1 15 rfl) ?_
      refine z_let hF (fun u7 hu7 hF => ?_)
      refine lv_topE hu7 ?_
      refine lv_iload_n hx hb (z_d hX7_isItem_1 16 rfl) rfl (lv_at hl 1 rfl) ?_
      refine lv_aload_n hx hb (z_d hX7_isItem_1 17 rfl) rfl (lv_at hl 0 rfl) ?_
      refine va_get (D := Z.1) (ci := 7) (v := .int q6.2.2.2.2.2.2.2.2.2.2.2.2.2.2.2.2.2.2.1) (C := RX7) (T := TX7) (N := 19) hx hb hts zinX7 hown hK.1 (zP_reg hP 0 rfl) 0 rfl rfl 17 (by decide) (hts _ k_f_X7_204) (fun _ h9 => h9) rfl (z_d hX7_isItem_1 18 rfl) ?_
      refine lv_iload_n hx hb (z_d hX7_isItem_1 19 rfl) rfl (lv_at hl 2 rfl) ?_
      refine z_bnd hF (fun q8 hq8 hF => ?_)
      refine z_mu0 (z_rV (As := [.int u7, .int x1, .int q6.2.2.2.2.2.2.2.2.2.2.2.2.2.2.2.2.2.2.1, .int x2]) (rest := []) hx hb hml hown hts vt_X7_comes (c_X7_comes l Z Am q6.2 u7 x1 q6.2.2.2.2.2.2.2.2.2.2.2.2.2.2.2.2.2.2.1 x2 _ hq8) rfl rfl ⟨Nat.le_of_ble_eq_true rfl, Nat.le_of_ble_eq_true rfl⟩ k_m_X7_138 zPmu_blind (z_recv (q := (RX7, TX7, 19)) (ci := 7) (q0 := 0) hK (zP_reg hP 0 rfl) rfl rfl) (z_prem hK hP hD) rfl hl.1 (Nat.le_of_ble_eq_true rfl) (z_d hX7_isItem_1 20 rfl) ⟨Nat.zero_le _, Nat.zero_le _⟩) hS hD (adr_Model _ _ _ _) (fun H locs hP hD hS => ?_)
      have hP : va_P Z.1 vwCl (l_Model Z.2.1 Am q8.1 q8.2.1 q8.2.2.1 q8.2.2.2.1 q8.2.2.2.2.1 q8.2.2.2.2.2.1 q8.2.2.2.2.2.2.1 q8.2.2.2.2.2.2.2.1 q8.2.2.2.2.2.2.2.2.1 q8.2.2.2.2.2.2.2.2.2.1 q8.2.2.2.2.2.2.2.2.2.2.1 q8.2.2.2.2.2.2.2.2.2.2.2.1 q8.2.2.2.2.2.2.2.2.2.2.2.2.1 q8.2.2.2.2.2.2.2.2.2.2.2.2.2.1 q8.2.2.2.2.2.2.2.2.2.2.2.2.2.2.1 q8.2.2.2.2.2.2.2.2.2.2.2.2.2.2.2.1 q8.2.2.2.2.2.2.2.2.2.2.2.2.2.2.2.2.1 q8.2.2.2.2.2.2.2.2.2.2.2.2.2.2.2.2.2.1 q8.2.2.2.2.2.2.2.2.2.2.2.2.2.2.2.2.2.2).flatten H := hP
      have hD : va_D A (l_Model Z.2.1 Am q8.1 q8.2.1 q8.2.2.1 q8.2.2.2.1 q8.2.2.2.2.1 q8.2.2.2.2.2.1 q8.2.2.2.2.2.2.1 q8.2.2.2.2.2.2.2.1 q8.2.2.2.2.2.2.2.2.1 q8.2.2.2.2.2.2.2.2.2.1 q8.2.2.2.2.2.2.2.2.2.2.1 q8.2.2.2.2.2.2.2.2.2.2.2.1 q8.2.2.2.2.2.2.2.2.2.2.2.2.1 q8.2.2.2.2.2.2.2.2.2.2.2.2.2.1 q8.2.2.2.2.2.2.2.2.2.2.2.2.2.2.1 q8.2.2.2.2.2.2.2.2.2.2.2.2.2.2.2.1 q8.2.2.2.2.2.2.2.2.2.2.2.2.2.2.2.2.1 q8.2.2.2.2.2.2.2.2.2.2.2.2.2.2.2.2.2.1 q8.2.2.2.2.2.2.2.2.2.2.2.2.2.2.2.2.2.2).flatten := hD
      refine W.eq (g2 := F0 m 140 ls []) rfl ?_
      refine lv_iconst (v := 1) hx hb (z_d hX7_isItem_1 21 rfl) (by decide) ?_
      have hz9 : narrow .boolean (.int 1) = .int 1 := rfl
      obtain rfl := Option.some.inj hF
      subst hQ
      subst hA
      exact W.zret hx hb hr hz9 (fun t ht hW => zq_mu (by rw [ht]; exact hP) (hS.F ht)) hS.2.2 (z_d hX7_isItem_1 22 rfl)
    · have hF := z_pos hc119 hF
      refine lv_iconst (v := 0) hx hb (z_d hX7_isItem_1 9 rfl) (by decide) ?_
      have hz9 : narrow .boolean (.int 0) = .int 0 := rfl
      obtain rfl := Option.some.inj hF
      subst hQ
      subst hA
      exact W.zret hx hb hr hz9 (fun t ht hW => zq_mu (by rw [ht]; exact hP) (hS.F ht)) hS.2.2 (z_d hX7_isItem_1 10 rfl)
  have J104 : ∀ (M : t_Model) (x1 : Int32) (x2 : Int32) (hF : j_X7_isItem_104 M x1 x2 = some R) (H : Heap) (locs : List Loc) (ls : Array Slot) (hP : va_P Z.1 vwCl (l_Model Z.2.1 Am M.1 M.2.1 M.2.2.1 M.2.2.2.1 M.2.2.2.2.1 M.2.2.2.2.2.1 M.2.2.2.2.2.2.1 M.2.2.2.2.2.2.2.1 M.2.2.2.2.2.2.2.2.1 M.2.2.2.2.2.2.2.2.2.1 M.2.2.2.2.2.2.2.2.2.2.1 M.2.2.2.2.2.2.2.2.2.2.2.1 M.2.2.2.2.2.2.2.2.2.2.2.2.1 M.2.2.2.2.2.2.2.2.2.2.2.2.2.1 M.2.2.2.2.2.2.2.2.2.2.2.2.2.2.1 M.2.2.2.2.2.2.2.2.2.2.2.2.2.2.2.1 M.2.2.2.2.2.2.2.2.2.2.2.2.2.2.2.2.1 M.2.2.2.2.2.2.2.2.2.2.2.2.2.2.2.2.2.1 M.2.2.2.2.2.2.2.2.2.2.2.2.2.2.2.2.2.2).flatten H) (hD : va_D A (l_Model Z.2.1 Am M.1 M.2.1 M.2.2.1 M.2.2.2.1 M.2.2.2.2.1 M.2.2.2.2.2.1 M.2.2.2.2.2.2.1 M.2.2.2.2.2.2.2.1 M.2.2.2.2.2.2.2.2.1 M.2.2.2.2.2.2.2.2.2.1 M.2.2.2.2.2.2.2.2.2.2.1 M.2.2.2.2.2.2.2.2.2.2.2.1 M.2.2.2.2.2.2.2.2.2.2.2.2.1 M.2.2.2.2.2.2.2.2.2.2.2.2.2.1 M.2.2.2.2.2.2.2.2.2.2.2.2.2.2.1 M.2.2.2.2.2.2.2.2.2.2.2.2.2.2.2.1 M.2.2.2.2.2.2.2.2.2.2.2.2.2.2.2.2.1 M.2.2.2.2.2.2.2.2.2.2.2.2.2.2.2.2.2.1 M.2.2.2.2.2.2.2.2.2.2.2.2.2.2.2.2.2.2).flatten) (hS : va_S A s.heap H locs) (hl : lv_has ls 3 [(0, .ref (Am 0)), (1, .int x1), (2, .int x2)]), W p l e rm_X7_isItem s m ([.ref (Am 0)] : List Value).toArray below meth c H locs 0 0 Q (F0 m 104 ls []) := by
    intro M x1 x2 hF H locs ls hP hD hS hl
    unfold j_X7_isItem_104 at hF
    refine lv_aload_n hx hb (z_d hX7_isItem_1 0 rfl) rfl (lv_at hl 0 rfl) ?_
    refine z_bnd hF (fun q5 hq5 hF => ?_)
    refine z_mu0 (z_rV (As := []) (rest := []) hx hb hml hown hts vt_X7_isNumber (c_X7_isNumber l Z Am M _ hq5) rfl rfl ⟨Nat.le_of_ble_eq_true rfl, Nat.le_of_ble_eq_true rfl⟩ k_m_X7_213 zPmu_blind (z_recv (q := (RX7, TX7, 19)) (ci := 7) (q0 := 0) hK (zP_reg hP 0 rfl) rfl rfl) (z_prem hK hP hD) rfl hl.1 (Nat.le_of_ble_eq_true rfl) (z_d hX7_isItem_1 1 rfl) ⟨Nat.zero_le _, Nat.zero_le _⟩) hS hD (adr_Model _ _ _ _) (fun H locs hP hD hS => ?_)
    have hP : va_P Z.1 vwCl (l_Model Z.2.1 Am q5.2.1 q5.2.2.1 q5.2.2.2.1 q5.2.2.2.2.1 q5.2.2.2.2.2.1 q5.2.2.2.2.2.2.1 q5.2.2.2.2.2.2.2.1 q5.2.2.2.2.2.2.2.2.1 q5.2.2.2.2.2.2.2.2.2.1 q5.2.2.2.2.2.2.2.2.2.2.1 q5.2.2.2.2.2.2.2.2.2.2.2.1 q5.2.2.2.2.2.2.2.2.2.2.2.2.1 q5.2.2.2.2.2.2.2.2.2.2.2.2.2.1 q5.2.2.2.2.2.2.2.2.2.2.2.2.2.2.1 q5.2.2.2.2.2.2.2.2.2.2.2.2.2.2.2.1 q5.2.2.2.2.2.2.2.2.2.2.2.2.2.2.2.2.1 q5.2.2.2.2.2.2.2.2.2.2.2.2.2.2.2.2.2.1 q5.2.2.2.2.2.2.2.2.2.2.2.2.2.2.2.2.2.2.1 q5.2.2.2.2.2.2.2.2.2.2.2.2.2.2.2.2.2.2.2).flatten H := hP
    have hD : va_D A (l_Model Z.2.1 Am q5.2.1 q5.2.2.1 q5.2.2.2.1 q5.2.2.2.2.1 q5.2.2.2.2.2.1 q5.2.2.2.2.2.2.1 q5.2.2.2.2.2.2.2.1 q5.2.2.2.2.2.2.2.2.1 q5.2.2.2.2.2.2.2.2.2.1 q5.2.2.2.2.2.2.2.2.2.2.1 q5.2.2.2.2.2.2.2.2.2.2.2.1 q5.2.2.2.2.2.2.2.2.2.2.2.2.1 q5.2.2.2.2.2.2.2.2.2.2.2.2.2.1 q5.2.2.2.2.2.2.2.2.2.2.2.2.2.2.1 q5.2.2.2.2.2.2.2.2.2.2.2.2.2.2.2.1 q5.2.2.2.2.2.2.2.2.2.2.2.2.2.2.2.2.1 q5.2.2.2.2.2.2.2.2.2.2.2.2.2.2.2.2.2.1 q5.2.2.2.2.2.2.2.2.2.2.2.2.2.2.2.2.2.2.1 q5.2.2.2.2.2.2.2.2.2.2.2.2.2.2.2.2.2.2.2).flatten := hD
    refine W.eq (g2 := F0 m 108 ls [.int q5.1]) rfl ?_
    refine lv_if_ne (tgt := 113) hx hb (z_d hX7_isItem_1 2 rfl) (by decide) (fun hc108 => ?_) (fun hc108 => ?_)
    · have hF := z_neg hc108 hF
      exact J113 q5.2 x1 x2 hF _ _ ls hP hD hS (lv_sub hl [0, 1, 2] rfl)
    · have hF := z_pos hc108 hF
      refine lv_iconst (v := 0) hx hb (z_d hX7_isItem_1 3 rfl) (by decide) ?_
      have hz9 : narrow .boolean (.int 0) = .int 0 := rfl
      obtain rfl := Option.some.inj hF
      subst hQ
      subst hA
      exact W.zret hx hb hr hz9 (fun t ht hW => zq_mu (by rw [ht]; exact hP) (hS.F ht)) hS.2.2 (z_d hX7_isItem_1 4 rfl)
  have J90 : ∀ (M : t_Model) (x1 : Int32) (x2 : Int32) (hF : j_X7_isItem_90 M x1 x2 = some R) (H : Heap) (locs : List Loc) (ls : Array Slot) (hP : va_P Z.1 vwCl (l_Model Z.2.1 Am M.1 M.2.1 M.2.2.1 M.2.2.2.1 M.2.2.2.2.1 M.2.2.2.2.2.1 M.2.2.2.2.2.2.1 M.2.2.2.2.2.2.2.1 M.2.2.2.2.2.2.2.2.1 M.2.2.2.2.2.2.2.2.2.1 M.2.2.2.2.2.2.2.2.2.2.1 M.2.2.2.2.2.2.2.2.2.2.2.1 M.2.2.2.2.2.2.2.2.2.2.2.2.1 M.2.2.2.2.2.2.2.2.2.2.2.2.2.1 M.2.2.2.2.2.2.2.2.2.2.2.2.2.2.1 M.2.2.2.2.2.2.2.2.2.2.2.2.2.2.2.1 M.2.2.2.2.2.2.2.2.2.2.2.2.2.2.2.2.1 M.2.2.2.2.2.2.2.2.2.2.2.2.2.2.2.2.2.1 M.2.2.2.2.2.2.2.2.2.2.2.2.2.2.2.2.2.2).flatten H) (hD : va_D A (l_Model Z.2.1 Am M.1 M.2.1 M.2.2.1 M.2.2.2.1 M.2.2.2.2.1 M.2.2.2.2.2.1 M.2.2.2.2.2.2.1 M.2.2.2.2.2.2.2.1 M.2.2.2.2.2.2.2.2.1 M.2.2.2.2.2.2.2.2.2.1 M.2.2.2.2.2.2.2.2.2.2.1 M.2.2.2.2.2.2.2.2.2.2.2.1 M.2.2.2.2.2.2.2.2.2.2.2.2.1 M.2.2.2.2.2.2.2.2.2.2.2.2.2.1 M.2.2.2.2.2.2.2.2.2.2.2.2.2.2.1 M.2.2.2.2.2.2.2.2.2.2.2.2.2.2.2.1 M.2.2.2.2.2.2.2.2.2.2.2.2.2.2.2.2.1 M.2.2.2.2.2.2.2.2.2.2.2.2.2.2.2.2.2.1 M.2.2.2.2.2.2.2.2.2.2.2.2.2.2.2.2.2.2).flatten) (hS : va_S A s.heap H locs) (hl : lv_has ls 3 [(0, .ref (Am 0)), (1, .int x1), (2, .int x2)]), W p l e rm_X7_isItem s m ([.ref (Am 0)] : List Value).toArray below meth c H locs 0 0 Q (F0 m 90 ls []) := by
    intro M x1 x2 hF H locs ls hP hD hS hl
    unfold j_X7_isItem_90 at hF
    refine lv_iload_n hx hb (z_d hX7_isItem_0 53 rfl) rfl (lv_at hl 1 rfl) ?_
    refine lv_iconst (v := 2) hx hb (z_d hX7_isItem_0 54 rfl) (by decide) ?_
    refine lv_icmp_ne (tgt := 104) hx hb (z_d hX7_isItem_0 55 rfl) (by decide) (fun hc92 => ?_) (fun hc92 => ?_)
    · have hF := z_neg hc92 hF
      exact J104 M x1 x2 hF _ _ ls hP hD hS (lv_sub hl [0, 1, 2] rfl)
    · have hF := z_pos hc92 hF
      refine lv_aload_n hx hb (z_d hX7_isItem_0 56 rfl) rfl (lv_at hl 0 rfl) ?_
      refine lv_bipush (v := 44) hx hb (z_d hX7_isItem_0 57 rfl) (by decide) ?_
      refine z_bnd hF (fun q9 hq9 hF => ?_)
      refine z_mu0 (z_rV (As := [.int 44]) (rest := []) hx hb hml hown hts vt_X7_takes (c_X7_takes l Z Am M 44 _ hq9) rfl rfl ⟨Nat.le_of_ble_eq_true rfl, Nat.le_of_ble_eq_true rfl⟩ k_m_X7_210 zPmu_blind (z_recv (q := (RX7, TX7, 19)) (ci := 7) (q0 := 0) hK (zP_reg hP 0 rfl) rfl rfl) (z_prem hK hP hD) rfl hl.1 (Nat.le_of_ble_eq_true rfl) (z_d hX7_isItem_0 58 rfl) ⟨Nat.zero_le _, Nat.zero_le _⟩) hS hD (adr_Model _ _ _ _) (fun H locs hP hD hS => ?_)
      have hP : va_P Z.1 vwCl (l_Model Z.2.1 Am q9.2.1 q9.2.2.1 q9.2.2.2.1 q9.2.2.2.2.1 q9.2.2.2.2.2.1 q9.2.2.2.2.2.2.1 q9.2.2.2.2.2.2.2.1 q9.2.2.2.2.2.2.2.2.1 q9.2.2.2.2.2.2.2.2.2.1 q9.2.2.2.2.2.2.2.2.2.2.1 q9.2.2.2.2.2.2.2.2.2.2.2.1 q9.2.2.2.2.2.2.2.2.2.2.2.2.1 q9.2.2.2.2.2.2.2.2.2.2.2.2.2.1 q9.2.2.2.2.2.2.2.2.2.2.2.2.2.2.1 q9.2.2.2.2.2.2.2.2.2.2.2.2.2.2.2.1 q9.2.2.2.2.2.2.2.2.2.2.2.2.2.2.2.2.1 q9.2.2.2.2.2.2.2.2.2.2.2.2.2.2.2.2.2.1 q9.2.2.2.2.2.2.2.2.2.2.2.2.2.2.2.2.2.2.1 q9.2.2.2.2.2.2.2.2.2.2.2.2.2.2.2.2.2.2.2).flatten H := hP
      have hD : va_D A (l_Model Z.2.1 Am q9.2.1 q9.2.2.1 q9.2.2.2.1 q9.2.2.2.2.1 q9.2.2.2.2.2.1 q9.2.2.2.2.2.2.1 q9.2.2.2.2.2.2.2.1 q9.2.2.2.2.2.2.2.2.1 q9.2.2.2.2.2.2.2.2.2.1 q9.2.2.2.2.2.2.2.2.2.2.1 q9.2.2.2.2.2.2.2.2.2.2.2.1 q9.2.2.2.2.2.2.2.2.2.2.2.2.1 q9.2.2.2.2.2.2.2.2.2.2.2.2.2.1 q9.2.2.2.2.2.2.2.2.2.2.2.2.2.2.1 q9.2.2.2.2.2.2.2.2.2.2.2.2.2.2.2.1 q9.2.2.2.2.2.2.2.2.2.2.2.2.2.2.2.2.1 q9.2.2.2.2.2.2.2.2.2.2.2.2.2.2.2.2.2.1 q9.2.2.2.2.2.2.2.2.2.2.2.2.2.2.2.2.2.2.1 q9.2.2.2.2.2.2.2.2.2.2.2.2.2.2.2.2.2.2.2).flatten := hD
      refine W.eq (g2 := F0 m 101 ls [.int q9.1]) rfl ?_
      refine lv_if_eq (tgt := 113) hx hb (z_d hX7_isItem_0 59 rfl) (by decide) (fun hc101 => ?_) (fun hc101 => ?_)
      · have hF := z_pos hc101 hF
        exact J113 q9.2 x1 x2 hF _ _ ls hP hD hS (lv_sub hl [0, 1, 2] rfl)
      · have hF := z_neg hc101 hF
        exact J104 q9.2 x1 x2 hF _ _ ls hP hD hS (lv_sub hl [0, 1, 2] rfl)
  refine lv_aload_n hx hb (z_d hX7_isItem_0 0 rfl) rfl (lv_at hl 0 rfl) ?_
  refine va_get (D := Z.1) (ci := 7) (v := .ref (Am 4)) (C := RX7) (T := TX7) (N := 19) hx hb hts zinX7 hown hK.1 (zP_reg hP 0 rfl) 0 rfl rfl 4 (by decide) (hts _ k_f_X7_19) (fun _ h9 => h9) rfl (z_d hX7_isItem_0 1 rfl) ?_
  refine lv_aload_n hx hb (z_d hX7_isItem_0 2 rfl) rfl (lv_at hl 0 rfl) ?_
  refine va_get (D := Z.1) (ci := 7) (v := .int M.2.2.2.2.2.2.2.2.2.2.2.2.2.2.2.2.1) (C := RX7) (T := TX7) (N := 19) hx hb hts zinX7 hown hK.1 (zP_reg hP 0 rfl) 0 rfl rfl 16 (by decide) (hts _ k_f_X7_198) (fun _ h9 => h9) rfl (z_d hX7_isItem_0 3 rfl) ?_
  refine z_ix hF (fun hin hF => ?_)
  refine va_iald (D := Z.1) (f := M.2.2.2.2.1) hx hb hK.1 (zP_reg hP 4 rfl) 0 0 rfl rfl hin (z_d hX7_isItem_0 4 rfl) ?_
  refine z_let hF (fun u1 hu1 hF => ?_)
  refine lv_topE hu1 ?_
  refine z_let hF (fun q2 hq2 hF => ?_)
  refine z_ro_i (z_rS (As := [.int u1]) (rest := []) hx hb hml hown hts vs_X7_kindOf (c_X7_kindOf l Z u1 _ hq2) rfl rfl ⟨Nat.le_of_ble_eq_true rfl, Nat.le_of_ble_eq_true rfl⟩ k_m_X7_207 zPro_blind (z_prec hK zP_nil) rfl hl.1 (Nat.le_of_ble_eq_true rfl) (z_d hX7_isItem_0 5 rfl) ⟨Nat.zero_le _, Nat.zero_le _⟩) hS hP (fun H locs hP hS => ?_)
  refine lv_istore_n (lv' := [(1, .int q2), (0, .ref (Am 0))]) hx hb (z_d hX7_isItem_0 6 rfl) rfl hl (by decide) rfl (fun ls hl => ?_)
  refine lv_iload_n hx hb (z_d hX7_isItem_0 7 rfl) rfl (lv_at hl 0 rfl) ?_
  refine lv_iconst (v := (-1)) hx hb (z_d hX7_isItem_0 8 rfl) (by decide) ?_
  refine lv_icmp_eq (tgt := 29) hx hb (z_d hX7_isItem_0 9 rfl) (by decide) (fun hc15 => ?_) (fun hc15 => ?_)
  · have hF := z_pos hc15 hF
    refine lv_iconst (v := 0) hx hb (z_d hX7_isItem_0 16 rfl) (by decide) ?_
    have hz9 : narrow .boolean (.int 0) = .int 0 := rfl
    obtain rfl := Option.some.inj hF
    subst hQ
    subst hA
    exact W.zret hx hb hr hz9 (fun t ht hW => zq_mu (by rw [ht]; exact hP) (hS.F ht)) hS.2.2 (z_d hX7_isItem_0 17 rfl)
  · have hF := z_neg hc15 hF
    refine lv_aload_n hx hb (z_d hX7_isItem_0 10 rfl) rfl (lv_at hl 1 rfl) ?_
    refine va_get (D := Z.1) (ci := 7) (v := .ref (Am 1)) (C := RX7) (T := TX7) (N := 19) hx hb hts zinX7 hown hK.1 (zP_reg hP 0 rfl) 0 rfl rfl 0 (by decide) (hts _ k_f_X7_7) (fun _ h9 => h9) rfl (z_d hX7_isItem_0 11 rfl) ?_
    refine lv_iconst (v := 1) hx hb (z_d hX7_isItem_0 12 rfl) (by decide) ?_
    refine z_ix hF (fun hin hF => ?_)
    refine va_iald (D := Z.1) (f := M.1) hx hb hK.1 (zP_reg hP 1 rfl) 0 0 rfl rfl hin (z_d hX7_isItem_0 13 rfl) ?_
    refine z_let hF (fun u3 hu3 hF => ?_)
    refine lv_topE hu3 ?_
    refine lv_bipush (v := 60) hx hb (z_d hX7_isItem_0 14 rfl) (by decide) ?_
    refine lv_icmp_ne (tgt := 31) hx hb (z_d hX7_isItem_0 15 rfl) (by decide) (fun hc26 => ?_) (fun hc26 => ?_)
    · have hF := z_neg hc26 hF
      refine lv_aload_n hx hb (z_d hX7_isItem_0 18 rfl) rfl (lv_at hl 1 rfl) ?_
      refine lv_dup hx hb (z_d hX7_isItem_0 19 rfl) rfl ?_
      refine va_get (D := Z.1) (ci := 7) (v := .int M.2.2.2.2.2.2.2.2.2.2.2.2.2.2.2.2.1) (C := RX7) (T := TX7) (N := 19) hx hb hts zinX7 hown hK.1 (zP_reg hP 0 rfl) 0 rfl rfl 16 (by decide) (hts _ k_f_X7_198) (fun _ h9 => h9) rfl (z_d hX7_isItem_0 20 rfl) ?_
      refine lv_iconst (v := 1) hx hb (z_d hX7_isItem_0 21 rfl) (by decide) ?_
      refine lv_iadd hx hb (z_d hX7_isItem_0 22 rfl) ?_
      refine z_let hF (fun u4 hu4 hF => ?_)
      refine lv_topE hu4 ?_
      refine z_put (Z := Z) (ci := 7) (v := .int u4) (ty := .int) (L := l_Model Z.2.1 Am M.1 M.2.1 M.2.2.1 M.2.2.2.1 M.2.2.2.2.1 M.2.2.2.2.2.1 M.2.2.2.2.2.2.1 M.2.2.2.2.2.2.2.1 M.2.2.2.2.2.2.2.2.1 M.2.2.2.2.2.2.2.2.2.1 M.2.2.2.2.2.2.2.2.2.2.1 M.2.2.2.2.2.2.2.2.2.2.2.1 M.2.2.2.2.2.2.2.2.2.2.2.2.1 M.2.2.2.2.2.2.2.2.2.2.2.2.2.1 M.2.2.2.2.2.2.2.2.2.2.2.2.2.2.1 M.2.2.2.2.2.2.2.2.2.2.2.2.2.2.2.1 M.2.2.2.2.2.2.2.2.2.2.2.2.2.2.2.2.1 M.2.2.2.2.2.2.2.2.2.2.2.2.2.2.2.2.2.1 M.2.2.2.2.2.2.2.2.2.2.2.2.2.2.2.2.2.2) (L' := l_Model Z.2.1 Am M.1 M.2.1 M.2.2.1 M.2.2.2.1 M.2.2.2.2.1 M.2.2.2.2.2.1 M.2.2.2.2.2.2.1 M.2.2.2.2.2.2.2.1 M.2.2.2.2.2.2.2.2.1 M.2.2.2.2.2.2.2.2.2.1 M.2.2.2.2.2.2.2.2.2.2.1 M.2.2.2.2.2.2.2.2.2.2.2.1 M.2.2.2.2.2.2.2.2.2.2.2.2.1 M.2.2.2.2.2.2.2.2.2.2.2.2.2.1 M.2.2.2.2.2.2.2.2.2.2.2.2.2.2.1 M.2.2.2.2.2.2.2.2.2.2.2.2.2.2.2.1 u4 M.2.2.2.2.2.2.2.2.2.2.2.2.2.2.2.2.2.1 M.2.2.2.2.2.2.2.2.2.2.2.2.2.2.2.2.2.2) (C := RX7) (T := TX7) (N := 19) hx hb hts zinX7 tyX7 tyX7_ok nmX7 hown hK hP hD hS 0 rfl rfl 16 (by decide) (hts _ k_f_X7_198) (fun _ h9 => h9) rfl (tyX7_ok 16 (by decide)) rfl rfl (Nat.le_of_ble_eq_true rfl) rfl (z_d hX7_isItem_0 23 rfl) (fun H locs hP hD hS => ?_)
      refine lv_iconst (v := (-1)) hx hb (z_d hX7_isItem_0 24 rfl) (by decide) ?_
      refine lv_istore_n (lv' := [(2, .int (-1)), (1, .int q2), (0, .ref (Am 0))]) hx hb (z_d hX7_isItem_0 25 rfl) rfl hl (by decide) rfl (fun ls hl => ?_)
      refine lv_iload_n hx hb (z_d hX7_isItem_0 26 rfl) rfl (lv_at hl 1 rfl) ?_
      refine lv_iconst (v := 2) hx hb (z_d hX7_isItem_0 27 rfl) (by decide) ?_
      refine lv_icmp_ne (tgt := 90) hx hb (z_d hX7_isItem_0 28 rfl) (by decide) (fun hc45 => ?_) (fun hc45 => ?_)
      · have hF := z_neg hc45 hF
        exact J90 (M.1, M.2.1, M.2.2.1, M.2.2.2.1, M.2.2.2.2.1, M.2.2.2.2.2.1, M.2.2.2.2.2.2.1, M.2.2.2.2.2.2.2.1, M.2.2.2.2.2.2.2.2.1, M.2.2.2.2.2.2.2.2.2.1, M.2.2.2.2.2.2.2.2.2.2.1, M.2.2.2.2.2.2.2.2.2.2.2.1, M.2.2.2.2.2.2.2.2.2.2.2.2.1, M.2.2.2.2.2.2.2.2.2.2.2.2.2.1, M.2.2.2.2.2.2.2.2.2.2.2.2.2.2.1, M.2.2.2.2.2.2.2.2.2.2.2.2.2.2.2.1, u4, M.2.2.2.2.2.2.2.2.2.2.2.2.2.2.2.2.2.1, M.2.2.2.2.2.2.2.2.2.2.2.2.2.2.2.2.2.2) q2 (-1) hF _ _ ls hP hD hS (lv_sub hl [2, 1, 0] rfl)
      · have hF := z_pos hc45 hF
        refine lv_aload_n hx hb (z_d hX7_isItem_0 29 rfl) rfl (lv_at hl 2 rfl) ?_
        refine lv_bipush (v := 48) hx hb (z_d hX7_isItem_0 30 rfl) (by decide) ?_
        refine lv_bipush (v := 57) hx hb (z_d hX7_isItem_0 31 rfl) (by decide) ?_
        refine z_bnd hF (fun q10 hq10 hF => ?_)
        refine z_ro_i (z_rV (As := [.int 48, .int 57]) (rest := []) hx hb hml hown hts vt_X7_isAt (c_X7_isAt l Z Am (M.1, M.2.1, M.2.2.1, M.2.2.2.1, M.2.2.2.2.1, M.2.2.2.2.2.1, M.2.2.2.2.2.2.1, M.2.2.2.2.2.2.2.1, M.2.2.2.2.2.2.2.2.1, M.2.2.2.2.2.2.2.2.2.1, M.2.2.2.2.2.2.2.2.2.2.1, M.2.2.2.2.2.2.2.2.2.2.2.1, M.2.2.2.2.2.2.2.2.2.2.2.2.1, M.2.2.2.2.2.2.2.2.2.2.2.2.2.1, M.2.2.2.2.2.2.2.2.2.2.2.2.2.2.1, M.2.2.2.2.2.2.2.2.2.2.2.2.2.2.2.1, u4, M.2.2.2.2.2.2.2.2.2.2.2.2.2.2.2.2.2.1, M.2.2.2.2.2.2.2.2.2.2.2.2.2.2.2.2.2.2) 48 57 _ hq10) rfl rfl ⟨Nat.le_of_ble_eq_true rfl, Nat.le_of_ble_eq_true rfl⟩ k_m_X7_201 zPro_blind (z_recv (q := (RX7, TX7, 19)) (ci := 7) (q0 := 0) hK (zP_reg hP 0 rfl) rfl rfl) (z_prec hK hP) rfl hl.1 (Nat.le_of_ble_eq_true rfl) (z_d hX7_isItem_0 32 rfl) ⟨Nat.zero_le _, Nat.zero_le _⟩) hS hP (fun H locs hP hS => ?_)
        refine lv_if_ne (tgt := 61) hx hb (z_d hX7_isItem_0 33 rfl) (by decide) (fun hc56 => ?_) (fun hc56 => ?_)
        · have hF := z_neg hc56 hF
          refine lv_aload_n hx hb (z_d hX7_isItem_0 36 rfl) rfl (lv_at hl 2 rfl) ?_
          refine va_get (D := Z.1) (ci := 7) (v := .ref (Am 4)) (C := RX7) (T := TX7) (N := 19) hx hb hts zinX7 hown hK.1 (zP_reg hP 0 rfl) 0 rfl rfl 4 (by decide) (hts _ k_f_X7_19) (fun _ h9 => h9) rfl (z_d hX7_isItem_0 37 rfl) ?_
          refine lv_aload_n hx hb (z_d hX7_isItem_0 38 rfl) rfl (lv_at hl 2 rfl) ?_
          refine va_get (D := Z.1) (ci := 7) (v := .int u4) (C := RX7) (T := TX7) (N := 19) hx hb hts zinX7 hown hK.1 (zP_reg hP 0 rfl) 0 rfl rfl 16 (by decide) (hts _ k_f_X7_198) (fun _ h9 => h9) rfl (z_d hX7_isItem_0 39 rfl) ?_
          refine z_ix hF (fun hin hF => ?_)
          refine va_iald (D := Z.1) (f := M.2.2.2.2.1) hx hb hK.1 (zP_reg hP 4 rfl) 0 0 rfl rfl hin (z_d hX7_isItem_0 40 rfl) ?_
          refine z_let hF (fun u11 hu11 hF => ?_)
          refine lv_topE hu11 ?_
          refine lv_bipush (v := 48) hx hb (z_d hX7_isItem_0 41 rfl) (by decide) ?_
          refine lv_isub hx hb (z_d hX7_isItem_0 42 rfl) ?_
          refine z_let hF (fun u12 hu12 hF => ?_)
          refine lv_topE hu12 ?_
          refine lv_istore_n (lv' := [(2, .int u12), (1, .int q2), (0, .ref (Am 0))]) hx hb (z_d hX7_isItem_0 43 rfl) rfl hl (by decide) rfl (fun ls hl => ?_)
          refine lv_aload_n hx hb (z_d hX7_isItem_0 44 rfl) rfl (lv_at hl 2 rfl) ?_
          refine lv_dup hx hb (z_d hX7_isItem_0 45 rfl) rfl ?_
          refine va_get (D := Z.1) (ci := 7) (v := .int u4) (C := RX7) (T := TX7) (N := 19) hx hb hts zinX7 hown hK.1 (zP_reg hP 0 rfl) 0 rfl rfl 16 (by decide) (hts _ k_f_X7_198) (fun _ h9 => h9) rfl (z_d hX7_isItem_0 46 rfl) ?_
          refine lv_iconst (v := 1) hx hb (z_d hX7_isItem_0 47 rfl) (by decide) ?_
          refine lv_iadd hx hb (z_d hX7_isItem_0 48 rfl) ?_
          refine z_let hF (fun u13 hu13 hF => ?_)
          refine lv_topE hu13 ?_
          refine z_put (Z := Z) (ci := 7) (v := .int u13) (ty := .int) (L := l_Model Z.2.1 Am M.1 M.2.1 M.2.2.1 M.2.2.2.1 M.2.2.2.2.1 M.2.2.2.2.2.1 M.2.2.2.2.2.2.1 M.2.2.2.2.2.2.2.1 M.2.2.2.2.2.2.2.2.1 M.2.2.2.2.2.2.2.2.2.1 M.2.2.2.2.2.2.2.2.2.2.1 M.2.2.2.2.2.2.2.2.2.2.2.1 M.2.2.2.2.2.2.2.2.2.2.2.2.1 M.2.2.2.2.2.2.2.2.2.2.2.2.2.1 M.2.2.2.2.2.2.2.2.2.2.2.2.2.2.1 M.2.2.2.2.2.2.2.2.2.2.2.2.2.2.2.1 u4 M.2.2.2.2.2.2.2.2.2.2.2.2.2.2.2.2.2.1 M.2.2.2.2.2.2.2.2.2.2.2.2.2.2.2.2.2.2) (L' := l_Model Z.2.1 Am M.1 M.2.1 M.2.2.1 M.2.2.2.1 M.2.2.2.2.1 M.2.2.2.2.2.1 M.2.2.2.2.2.2.1 M.2.2.2.2.2.2.2.1 M.2.2.2.2.2.2.2.2.1 M.2.2.2.2.2.2.2.2.2.1 M.2.2.2.2.2.2.2.2.2.2.1 M.2.2.2.2.2.2.2.2.2.2.2.1 M.2.2.2.2.2.2.2.2.2.2.2.2.1 M.2.2.2.2.2.2.2.2.2.2.2.2.2.1 M.2.2.2.2.2.2.2.2.2.2.2.2.2.2.1 M.2.2.2.2.2.2.2.2.2.2.2.2.2.2.2.1 u13 M.2.2.2.2.2.2.2.2.2.2.2.2.2.2.2.2.2.1 M.2.2.2.2.2.2.2.2.2.2.2.2.2.2.2.2.2.2) (C := RX7) (T := TX7) (N := 19) hx hb hts zinX7 tyX7 tyX7_ok nmX7 hown hK hP hD hS 0 rfl rfl 16 (by decide) (hts _ k_f_X7_198) (fun _ h9 => h9) rfl (tyX7_ok 16 (by decide)) rfl rfl (Nat.le_of_ble_eq_true rfl) rfl (z_d hX7_isItem_0 49 rfl) (fun H locs hP hD hS => ?_)
          refine lv_aload_n hx hb (z_d hX7_isItem_0 50 rfl) rfl (lv_at hl 2 rfl) ?_
          refine lv_bipush (v := 10) hx hb (z_d hX7_isItem_0 51 rfl) (by decide) ?_
          refine z_put (Z := Z) (ci := 7) (v := .int 10) (ty := .int) (L := l_Model Z.2.1 Am M.1 M.2.1 M.2.2.1 M.2.2.2.1 M.2.2.2.2.1 M.2.2.2.2.2.1 M.2.2.2.2.2.2.1 M.2.2.2.2.2.2.2.1 M.2.2.2.2.2.2.2.2.1 M.2.2.2.2.2.2.2.2.2.1 M.2.2.2.2.2.2.2.2.2.2.1 M.2.2.2.2.2.2.2.2.2.2.2.1 M.2.2.2.2.2.2.2.2.2.2.2.2.1 M.2.2.2.2.2.2.2.2.2.2.2.2.2.1 M.2.2.2.2.2.2.2.2.2.2.2.2.2.2.1 M.2.2.2.2.2.2.2.2.2.2.2.2.2.2.2.1 u13 M.2.2.2.2.2.2.2.2.2.2.2.2.2.2.2.2.2.1 M.2.2.2.2.2.2.2.2.2.2.2.2.2.2.2.2.2.2) (L' := l_Model Z.2.1 Am M.1 M.2.1 M.2.2.1 M.2.2.2.1 M.2.2.2.2.1 M.2.2.2.2.2.1 M.2.2.2.2.2.2.1 M.2.2.2.2.2.2.2.1 M.2.2.2.2.2.2.2.2.1 M.2.2.2.2.2.2.2.2.2.1 M.2.2.2.2.2.2.2.2.2.2.1 M.2.2.2.2.2.2.2.2.2.2.2.1 M.2.2.2.2.2.2.2.2.2.2.2.2.1 M.2.2.2.2.2.2.2.2.2.2.2.2.2.1 M.2.2.2.2.2.2.2.2.2.2.2.2.2.2.1 M.2.2.2.2.2.2.2.2.2.2.2.2.2.2.2.1 u13 10 M.2.2.2.2.2.2.2.2.2.2.2.2.2.2.2.2.2.2) (C := RX7) (T := TX7) (N := 19) hx hb hts zinX7 tyX7 tyX7_ok nmX7 hown hK hP hD hS 0 rfl rfl 17 (by decide) (hts _ k_f_X7_204) (fun _ h9 => h9) rfl (tyX7_ok 17 (by decide)) rfl rfl (Nat.le_of_ble_eq_true rfl) rfl (z_d hX7_isItem_0 52 rfl) (fun H locs hP hD hS => ?_)
          exact J90 (M.1, M.2.1, M.2.2.1, M.2.2.2.1, M.2.2.2.2.1, M.2.2.2.2.2.1, M.2.2.2.2.2.2.1, M.2.2.2.2.2.2.2.1, M.2.2.2.2.2.2.2.2.1, M.2.2.2.2.2.2.2.2.2.1, M.2.2.2.2.2.2.2.2.2.2.1, M.2.2.2.2.2.2.2.2.2.2.2.1, M.2.2.2.2.2.2.2.2.2.2.2.2.1, M.2.2.2.2.2.2.2.2.2.2.2.2.2.1, M.2.2.2.2.2.2.2.2.2.2.2.2.2.2.1, M.2.2.2.2.2.2.2.2.2.2.2.2.2.2.2.1, u13, 10, M.2.2.2.2.2.2.2.2.2.2.2.2.2.2.2.2.2.2) q2 u12 hF _ _ ls hP hD hS (lv_sub hl [2, 1, 0] rfl)
        · have hF := z_pos hc56 hF
          refine lv_iconst (v := 0) hx hb (z_d hX7_isItem_0 34 rfl) (by decide) ?_
          have hz9 : narrow .boolean (.int 0) = .int 0 := rfl
          obtain rfl := Option.some.inj hF
          subst hQ
          subst hA
          exact W.zret hx hb hr hz9 (fun t ht hW => zq_mu (by rw [ht]; exact hP) (hS.F ht)) hS.2.2 (z_d hX7_isItem_0 35 rfl)
    · have hF := z_pos hc26 hF
      refine lv_iconst (v := 0) hx hb (z_d hX7_isItem_0 16 rfl) (by decide) ?_
      have hz9 : narrow .boolean (.int 0) = .int 0 := rfl
      obtain rfl := Option.some.inj hF
      subst hQ
      subst hA
      exact W.zret hx hb hr hz9 (fun t ht hW => zq_mu (by rw [ht]; exact hP) (hS.F ht)) hS.2.2 (z_d hX7_isItem_0 17 rfl)
def rm_X7_parse : Room := { frames := 4, cells := 0, slots := 0, locals := 88 }
set_option maxRecDepth 100000 in
set_option maxHeartbeats 4000000 in
theorem c_X7_parse (l : Launch) (Z : zZ) (Am : Nat → Nat) (M : t_Model) (R : Int32 × t_Model) (hF : X7_parse M = some R) : zMU l yX7_parse (zw yX7_parse cX7_parse 1 (some .int)) rm_X7_parse Z [.ref (Am 0)] (w_Model Z.2.1 Am M) (w_Model Z.2.1 Am R.2) (some (.int R.1)) := by
  refine zMU_of (by decide) (Nat.le_of_ble_eq_true rfl) (fun p e s m below meth c hx hb hr hml hown hts hlocks hK A hA Q hQ ls hl hP hD hS => ?_)
  unfold X7_parse at hF
  have hl : lv_has ls 1 [(0, .ref (Am 0))] := hl
  have hown : s.vm.findClass RX7 = some m.cls := hown
  have hP : va_P Z.1 vwCl (l_Model Z.2.1 Am M.1 M.2.1 M.2.2.1 M.2.2.2.1 M.2.2.2.2.1 M.2.2.2.2.2.1 M.2.2.2.2.2.2.1 M.2.2.2.2.2.2.2.1 M.2.2.2.2.2.2.2.2.1 M.2.2.2.2.2.2.2.2.2.1 M.2.2.2.2.2.2.2.2.2.2.1 M.2.2.2.2.2.2.2.2.2.2.2.1 M.2.2.2.2.2.2.2.2.2.2.2.2.1 M.2.2.2.2.2.2.2.2.2.2.2.2.2.1 M.2.2.2.2.2.2.2.2.2.2.2.2.2.2.1 M.2.2.2.2.2.2.2.2.2.2.2.2.2.2.2.1 M.2.2.2.2.2.2.2.2.2.2.2.2.2.2.2.2.1 M.2.2.2.2.2.2.2.2.2.2.2.2.2.2.2.2.2.1 M.2.2.2.2.2.2.2.2.2.2.2.2.2.2.2.2.2.2).flatten s.heap := hP
  have hD : va_D A (l_Model Z.2.1 Am M.1 M.2.1 M.2.2.1 M.2.2.2.1 M.2.2.2.2.1 M.2.2.2.2.2.1 M.2.2.2.2.2.2.1 M.2.2.2.2.2.2.2.1 M.2.2.2.2.2.2.2.2.1 M.2.2.2.2.2.2.2.2.2.1 M.2.2.2.2.2.2.2.2.2.2.1 M.2.2.2.2.2.2.2.2.2.2.2.1 M.2.2.2.2.2.2.2.2.2.2.2.2.1 M.2.2.2.2.2.2.2.2.2.2.2.2.2.1 M.2.2.2.2.2.2.2.2.2.2.2.2.2.2.1 M.2.2.2.2.2.2.2.2.2.2.2.2.2.2.2.1 M.2.2.2.2.2.2.2.2.2.2.2.2.2.2.2.2.1 M.2.2.2.2.2.2.2.2.2.2.2.2.2.2.2.2.2.1 M.2.2.2.2.2.2.2.2.2.2.2.2.2.2.2.2.2.2).flatten := hD
  have L21 : ∀  (n : Nat) (v : t_Model) (X : (t_Model) ⊕ (Int32 × t_Model)) (hF : zloop (b_X7_parse_21  ) n v = some X) (H : Heap) (locs : List Loc) (ls : Array Slot) (hP : va_P Z.1 vwCl (l_Model Z.2.1 Am v.1 v.2.1 v.2.2.1 v.2.2.2.1 v.2.2.2.2.1 v.2.2.2.2.2.1 v.2.2.2.2.2.2.1 v.2.2.2.2.2.2.2.1 v.2.2.2.2.2.2.2.2.1 v.2.2.2.2.2.2.2.2.2.1 v.2.2.2.2.2.2.2.2.2.2.1 v.2.2.2.2.2.2.2.2.2.2.2.1 v.2.2.2.2.2.2.2.2.2.2.2.2.1 v.2.2.2.2.2.2.2.2.2.2.2.2.2.1 v.2.2.2.2.2.2.2.2.2.2.2.2.2.2.1 v.2.2.2.2.2.2.2.2.2.2.2.2.2.2.2.1 v.2.2.2.2.2.2.2.2.2.2.2.2.2.2.2.2.1 v.2.2.2.2.2.2.2.2.2.2.2.2.2.2.2.2.2.1 v.2.2.2.2.2.2.2.2.2.2.2.2.2.2.2.2.2.2).flatten H) (hD : va_D A (l_Model Z.2.1 Am v.1 v.2.1 v.2.2.1 v.2.2.2.1 v.2.2.2.2.1 v.2.2.2.2.2.1 v.2.2.2.2.2.2.1 v.2.2.2.2.2.2.2.1 v.2.2.2.2.2.2.2.2.1 v.2.2.2.2.2.2.2.2.2.1 v.2.2.2.2.2.2.2.2.2.2.1 v.2.2.2.2.2.2.2.2.2.2.2.1 v.2.2.2.2.2.2.2.2.2.2.2.2.1 v.2.2.2.2.2.2.2.2.2.2.2.2.2.1 v.2.2.2.2.2.2.2.2.2.2.2.2.2.2.1 v.2.2.2.2.2.2.2.2.2.2.2.2.2.2.2.1 v.2.2.2.2.2.2.2.2.2.2.2.2.2.2.2.2.1 v.2.2.2.2.2.2.2.2.2.2.2.2.2.2.2.2.2.1 v.2.2.2.2.2.2.2.2.2.2.2.2.2.2.2.2.2.2).flatten) (hS : va_S A s.heap H locs) (hl : lv_has ls 1 [(0, .ref (Am 0))]) (K1 : ∀ Y, X = .inl Y → ∀ (H : Heap) (locs : List Loc) (ls : Array Slot) (hP : va_P Z.1 vwCl (l_Model Z.2.1 Am Y.1 Y.2.1 Y.2.2.1 Y.2.2.2.1 Y.2.2.2.2.1 Y.2.2.2.2.2.1 Y.2.2.2.2.2.2.1 Y.2.2.2.2.2.2.2.1 Y.2.2.2.2.2.2.2.2.1 Y.2.2.2.2.2.2.2.2.2.1 Y.2.2.2.2.2.2.2.2.2.2.1 Y.2.2.2.2.2.2.2.2.2.2.2.1 Y.2.2.2.2.2.2.2.2.2.2.2.2.1 Y.2.2.2.2.2.2.2.2.2.2.2.2.2.1 Y.2.2.2.2.2.2.2.2.2.2.2.2.2.2.1 Y.2.2.2.2.2.2.2.2.2.2.2.2.2.2.2.1 Y.2.2.2.2.2.2.2.2.2.2.2.2.2.2.2.2.1 Y.2.2.2.2.2.2.2.2.2.2.2.2.2.2.2.2.2.1 Y.2.2.2.2.2.2.2.2.2.2.2.2.2.2.2.2.2.2).flatten H) (hD : va_D A (l_Model Z.2.1 Am Y.1 Y.2.1 Y.2.2.1 Y.2.2.2.1 Y.2.2.2.2.1 Y.2.2.2.2.2.1 Y.2.2.2.2.2.2.1 Y.2.2.2.2.2.2.2.1 Y.2.2.2.2.2.2.2.2.1 Y.2.2.2.2.2.2.2.2.2.1 Y.2.2.2.2.2.2.2.2.2.2.1 Y.2.2.2.2.2.2.2.2.2.2.2.1 Y.2.2.2.2.2.2.2.2.2.2.2.2.1 Y.2.2.2.2.2.2.2.2.2.2.2.2.2.1 Y.2.2.2.2.2.2.2.2.2.2.2.2.2.2.1 Y.2.2.2.2.2.2.2.2.2.2.2.2.2.2.2.1 Y.2.2.2.2.2.2.2.2.2.2.2.2.2.2.2.2.1 Y.2.2.2.2.2.2.2.2.2.2.2.2.2.2.2.2.2.1 Y.2.2.2.2.2.2.2.2.2.2.2.2.2.2.2.2.2.2).flatten) (hS : va_S A s.heap H locs) (hl : lv_has ls 1 [(0, .ref (Am 0))]), W p l e rm_X7_parse s m ([.ref (Am 0)] : List Value).toArray below meth c H locs 0 0 Q (F0 m 58 ls [])) (K2 : ∀ Y, X = .inr Y → ∀ (H : Heap) (locs : List Loc) (ls : Array Slot) (hP : va_P Z.1 vwCl (l_Model Z.2.1 Am Y.2.1 Y.2.2.1 Y.2.2.2.1 Y.2.2.2.2.1 Y.2.2.2.2.2.1 Y.2.2.2.2.2.2.1 Y.2.2.2.2.2.2.2.1 Y.2.2.2.2.2.2.2.2.1 Y.2.2.2.2.2.2.2.2.2.1 Y.2.2.2.2.2.2.2.2.2.2.1 Y.2.2.2.2.2.2.2.2.2.2.2.1 Y.2.2.2.2.2.2.2.2.2.2.2.2.1 Y.2.2.2.2.2.2.2.2.2.2.2.2.2.1 Y.2.2.2.2.2.2.2.2.2.2.2.2.2.2.1 Y.2.2.2.2.2.2.2.2.2.2.2.2.2.2.2.1 Y.2.2.2.2.2.2.2.2.2.2.2.2.2.2.2.2.1 Y.2.2.2.2.2.2.2.2.2.2.2.2.2.2.2.2.2.1 Y.2.2.2.2.2.2.2.2.2.2.2.2.2.2.2.2.2.2.1 Y.2.2.2.2.2.2.2.2.2.2.2.2.2.2.2.2.2.2.2).flatten H) (hD : va_D A (l_Model Z.2.1 Am Y.2.1 Y.2.2.1 Y.2.2.2.1 Y.2.2.2.2.1 Y.2.2.2.2.2.1 Y.2.2.2.2.2.2.1 Y.2.2.2.2.2.2.2.1 Y.2.2.2.2.2.2.2.2.1 Y.2.2.2.2.2.2.2.2.2.1 Y.2.2.2.2.2.2.2.2.2.2.1 Y.2.2.2.2.2.2.2.2.2.2.2.1 Y.2.2.2.2.2.2.2.2.2.2.2.2.1 Y.2.2.2.2.2.2.2.2.2.2.2.2.2.1 Y.2.2.2.2.2.2.2.2.2.2.2.2.2.2.1 Y.2.2.2.2.2.2.2.2.2.2.2.2.2.2.2.1 Y.2.2.2.2.2.2.2.2.2.2.2.2.2.2.2.2.1 Y.2.2.2.2.2.2.2.2.2.2.2.2.2.2.2.2.2.1 Y.2.2.2.2.2.2.2.2.2.2.2.2.2.2.2.2.2.2.1 Y.2.2.2.2.2.2.2.2.2.2.2.2.2.2.2.2.2.2.2).flatten) (hS : va_S A s.heap H locs), W p l e rm_X7_parse s m ([.ref (Am 0)] : List Value).toArray below meth c H locs 0 0 Q (F0 m 57 ls [.int Y.1])), W p l e rm_X7_parse s m ([.ref (Am 0)] : List Value).toArray below meth c H locs 0 0 Q (F0 m 21 ls []) := by
    skip
    refine z_loopE (fun rec ih v X hF H locs ls hP hD hS hl K1 K2 => ?_)
    unfold b_X7_parse_21 at hF
    refine lv_aload_n hx hb (z_d hX7_parse_0 13 rfl) rfl (lv_at hl 0 rfl) ?_
    refine va_get (D := Z.1) (ci := 7) (v := .int v.2.2.2.2.2.2.2.2.2.2.2.2.2.2.2.2.1) (C := RX7) (T := TX7) (N := 19) hx hb hts zinX7 hown hK.1 (zP_reg hP 0 rfl) 0 rfl rfl 16 (by decide) (hts _ k_f_X7_198) (fun _ h9 => h9) rfl (z_d hX7_parse_0 14 rfl) ?_
    refine lv_aload_n hx hb (z_d hX7_parse_0 15 rfl) rfl (lv_at hl 0 rfl) ?_
    refine va_get (D := Z.1) (ci := 7) (v := .int v.2.2.2.2.2.1) (C := RX7) (T := TX7) (N := 19) hx hb hts zinX7 hown hK.1 (zP_reg hP 0 rfl) 0 rfl rfl 5 (by decide) (hts _ k_f_X7_195) (fun _ h9 => h9) rfl (z_d hX7_parse_0 16 rfl) ?_
    refine lv_icmp_ge (tgt := 58) hx hb (z_d hX7_parse_0 17 rfl) (by decide) (fun hc29 => ?_) (fun hc29 => ?_)
    · have hF := z_pos hc29 hF
      obtain rfl := Option.some.inj hF
      exact K1 _ rfl _ _ ls hP hD hS (lv_sub hl [0] rfl)
    · have hF := z_neg hc29 hF
      refine lv_aload_n hx hb (z_d hX7_parse_0 18 rfl) rfl (lv_at hl 0 rfl) ?_
      refine z_bnd hF (fun q3 hq3 hF => ?_)
      refine z_mu0 (z_rV (As := []) (rest := []) hx hb hml hown hts vt_X7_isItem (c_X7_isItem l Z Am v _ hq3) rfl rfl ⟨Nat.le_of_ble_eq_true rfl, Nat.le_of_ble_eq_true rfl⟩ k_m_X7_216 zPmu_blind (z_recv (q := (RX7, TX7, 19)) (ci := 7) (q0 := 0) hK (zP_reg hP 0 rfl) rfl rfl) (z_prem hK hP hD) rfl hl.1 (Nat.le_of_ble_eq_true rfl) (z_d hX7_parse_0 19 rfl) ⟨Nat.zero_le _, Nat.zero_le _⟩) hS hD (adr_Model _ _ _ _) (fun H locs hP hD hS => ?_)
      have hP : va_P Z.1 vwCl (l_Model Z.2.1 Am q3.2.1 q3.2.2.1 q3.2.2.2.1 q3.2.2.2.2.1 q3.2.2.2.2.2.1 q3.2.2.2.2.2.2.1 q3.2.2.2.2.2.2.2.1 q3.2.2.2.2.2.2.2.2.1 q3.2.2.2.2.2.2.2.2.2.1 q3.2.2.2.2.2.2.2.2.2.2.1 q3.2.2.2.2.2.2.2.2.2.2.2.1 q3.2.2.2.2.2.2.2.2.2.2.2.2.1 q3.2.2.2.2.2.2.2.2.2.2.2.2.2.1 q3.2.2.2.2.2.2.2.2.2.2.2.2.2.2.1 q3.2.2.2.2.2.2.2.2.2.2.2.2.2.2.2.1 q3.2.2.2.2.2.2.2.2.2.2.2.2.2.2.2.2.1 q3.2.2.2.2.2.2.2.2.2.2.2.2.2.2.2.2.2.1 q3.2.2.2.2.2.2.2.2.2.2.2.2.2.2.2.2.2.2.1 q3.2.2.2.2.2.2.2.2.2.2.2.2.2.2.2.2.2.2.2).flatten H := hP
      have hD : va_D A (l_Model Z.2.1 Am q3.2.1 q3.2.2.1 q3.2.2.2.1 q3.2.2.2.2.1 q3.2.2.2.2.2.1 q3.2.2.2.2.2.2.1 q3.2.2.2.2.2.2.2.1 q3.2.2.2.2.2.2.2.2.1 q3.2.2.2.2.2.2.2.2.2.1 q3.2.2.2.2.2.2.2.2.2.2.1 q3.2.2.2.2.2.2.2.2.2.2.2.1 q3.2.2.2.2.2.2.2.2.2.2.2.2.1 q3.2.2.2.2.2.2.2.2.2.2.2.2.2.1 q3.2.2.2.2.2.2.2.2.2.2.2.2.2.2.1 q3.2.2.2.2.2.2.2.2.2.2.2.2.2.2.2.1 q3.2.2.2.2.2.2.2.2.2.2.2.2.2.2.2.2.1 q3.2.2.2.2.2.2.2.2.2.2.2.2.2.2.2.2.2.1 q3.2.2.2.2.2.2.2.2.2.2.2.2.2.2.2.2.2.2.1 q3.2.2.2.2.2.2.2.2.2.2.2.2.2.2.2.2.2.2.2).flatten := hD
      refine W.eq (g2 := F0 m 36 ls [.int q3.1]) rfl ?_
      refine lv_if_ne (tgt := 21) hx hb (z_d hX7_parse_0 20 rfl) (by decide) (fun hc36 => ?_) (fun hc36 => ?_)
      · have hF := z_neg hc36 hF
        exact ih _ _ hF _ _ ls hP hD hS (lv_sub hl [0] rfl) K1 K2
      · have hF := z_pos hc36 hF
        refine lv_aload_n hx hb (z_d hX7_parse_0 21 rfl) rfl (lv_at hl 0 rfl) ?_
        refine va_get (D := Z.1) (ci := 7) (v := .ref (Am 1)) (C := RX7) (T := TX7) (N := 19) hx hb hts zinX7 hown hK.1 (zP_reg hP 0 rfl) 0 rfl rfl 0 (by decide) (hts _ k_f_X7_7) (fun _ h9 => h9) rfl (z_d hX7_parse_0 22 rfl) ?_
        refine lv_aload_n hx hb (z_d hX7_parse_0 23 rfl) rfl (lv_at hl 0 rfl) ?_
        refine va_get (D := Z.1) (ci := 7) (v := .ref (Am 3)) (C := RX7) (T := TX7) (N := 19) hx hb hts zinX7 hown hK.1 (zP_reg hP 0 rfl) 0 rfl rfl 2 (by decide) (hts _ k_f_X7_16) (fun _ h9 => h9) rfl (z_d hX7_parse_0 24 rfl) ?_
        refine z_bnd hF (fun q4 hq4 hF => ?_)
        refine z_mu2 (L := l_Model Z.2.1 Am q3.2.1 q3.2.2.1 q3.2.2.2.1 q3.2.2.2.2.1 q3.2.2.2.2.2.1 q3.2.2.2.2.2.2.1 q3.2.2.2.2.2.2.2.1 q3.2.2.2.2.2.2.2.2.1 q3.2.2.2.2.2.2.2.2.2.1 q3.2.2.2.2.2.2.2.2.2.2.1 q3.2.2.2.2.2.2.2.2.2.2.2.1 q3.2.2.2.2.2.2.2.2.2.2.2.2.1 q3.2.2.2.2.2.2.2.2.2.2.2.2.2.1 q3.2.2.2.2.2.2.2.2.2.2.2.2.2.2.1 q3.2.2.2.2.2.2.2.2.2.2.2.2.2.2.2.1 q3.2.2.2.2.2.2.2.2.2.2.2.2.2.2.2.2.1 q3.2.2.2.2.2.2.2.2.2.2.2.2.2.2.2.2.2.1 q3.2.2.2.2.2.2.2.2.2.2.2.2.2.2.2.2.2.2.1 q3.2.2.2.2.2.2.2.2.2.2.2.2.2.2.2.2.2.2.2) (L' := l_Model Z.2.1 Am q4 q3.2.2.1 q3.2.2.2.1 q3.2.2.2.2.1 q3.2.2.2.2.2.1 q3.2.2.2.2.2.2.1 q3.2.2.2.2.2.2.2.1 q3.2.2.2.2.2.2.2.2.1 q3.2.2.2.2.2.2.2.2.2.1 q3.2.2.2.2.2.2.2.2.2.2.1 q3.2.2.2.2.2.2.2.2.2.2.2.1 q3.2.2.2.2.2.2.2.2.2.2.2.2.1 q3.2.2.2.2.2.2.2.2.2.2.2.2.2.1 q3.2.2.2.2.2.2.2.2.2.2.2.2.2.2.1 q3.2.2.2.2.2.2.2.2.2.2.2.2.2.2.2.1 q3.2.2.2.2.2.2.2.2.2.2.2.2.2.2.2.2.1 q3.2.2.2.2.2.2.2.2.2.2.2.2.2.2.2.2.2.1 q3.2.2.2.2.2.2.2.2.2.2.2.2.2.2.2.2.2.2.1 q3.2.2.2.2.2.2.2.2.2.2.2.2.2.2.2.2.2.2.2) (z_rS (As := [.ref (Am 1), .ref (Am 3)]) (rest := []) hx hb hml hown hts vs_X7_copies (c_X7_copies l Z (Am 1) (Am 3) q3.2.1 q3.2.2.2.1 _ hq4) rfl rfl ⟨Nat.le_of_ble_eq_true rfl, Nat.le_of_ble_eq_true rfl⟩ k_m_X7_47 zPmu_blind (z_prem hK (zP_r2 hP 1 3 rfl rfl) (zD_r2 hD 1 3 rfl rfl (by decide))) rfl hl.1 (Nat.le_of_ble_eq_true rfl) (z_d hX7_parse_0 25 rfl) ⟨Nat.zero_le _, Nat.zero_le _⟩) hS hP hD 1 3 rfl rfl (by decide) rfl rfl rfl (fun H locs hP hD hS => ?_)
        refine W.eq (g2 := F0 m 50 ls []) rfl ?_
        refine lv_bipush (v := (-10)) hx hb (z_d hX7_parse_0 26 rfl) (by decide) ?_
        refine lv_aload_n hx hb (z_d hX7_parse_0 27 rfl) rfl (lv_at hl 0 rfl) ?_
        refine va_get (D := Z.1) (ci := 7) (v := .int q3.2.2.2.2.2.2.2.2.2.2.2.2.2.2.2.2.2.1) (C := RX7) (T := TX7) (N := 19) hx hb hts zinX7 hown hK.1 (zP_reg hP 0 rfl) 0 rfl rfl 16 (by decide) (hts _ k_f_X7_198) (fun _ h9 => h9) rfl (z_d hX7_parse_0 28 rfl) ?_
        refine lv_isub hx hb (z_d hX7_parse_0 29 rfl) ?_
        refine z_let hF (fun u5 hu5 hF => ?_)
        refine lv_topE hu5 ?_
        obtain rfl := Option.some.inj hF
        exact (K2 _ rfl _ _ ls hP hD hS)
  refine lv_aload_n hx hb (z_d hX7_parse_0 0 rfl) rfl (lv_at hl 0 rfl) ?_
  refine lv_iconst (v := 0) hx hb (z_d hX7_parse_0 1 rfl) (by decide) ?_
  refine z_put (Z := Z) (ci := 7) (v := .int 0) (ty := .int) (L := l_Model Z.2.1 Am M.1 M.2.1 M.2.2.1 M.2.2.2.1 M.2.2.2.2.1 M.2.2.2.2.2.1 M.2.2.2.2.2.2.1 M.2.2.2.2.2.2.2.1 M.2.2.2.2.2.2.2.2.1 M.2.2.2.2.2.2.2.2.2.1 M.2.2.2.2.2.2.2.2.2.2.1 M.2.2.2.2.2.2.2.2.2.2.2.1 M.2.2.2.2.2.2.2.2.2.2.2.2.1 M.2.2.2.2.2.2.2.2.2.2.2.2.2.1 M.2.2.2.2.2.2.2.2.2.2.2.2.2.2.1 M.2.2.2.2.2.2.2.2.2.2.2.2.2.2.2.1 M.2.2.2.2.2.2.2.2.2.2.2.2.2.2.2.2.1 M.2.2.2.2.2.2.2.2.2.2.2.2.2.2.2.2.2.1 M.2.2.2.2.2.2.2.2.2.2.2.2.2.2.2.2.2.2) (L' := l_Model Z.2.1 Am M.1 M.2.1 M.2.2.1 M.2.2.2.1 M.2.2.2.2.1 M.2.2.2.2.2.1 0 M.2.2.2.2.2.2.2.1 M.2.2.2.2.2.2.2.2.1 M.2.2.2.2.2.2.2.2.2.1 M.2.2.2.2.2.2.2.2.2.2.1 M.2.2.2.2.2.2.2.2.2.2.2.1 M.2.2.2.2.2.2.2.2.2.2.2.2.1 M.2.2.2.2.2.2.2.2.2.2.2.2.2.1 M.2.2.2.2.2.2.2.2.2.2.2.2.2.2.1 M.2.2.2.2.2.2.2.2.2.2.2.2.2.2.2.1 M.2.2.2.2.2.2.2.2.2.2.2.2.2.2.2.2.1 M.2.2.2.2.2.2.2.2.2.2.2.2.2.2.2.2.2.1 M.2.2.2.2.2.2.2.2.2.2.2.2.2.2.2.2.2.2) (C := RX7) (T := TX7) (N := 19) hx hb hts zinX7 tyX7 tyX7_ok nmX7 hown hK hP hD hS 0 rfl rfl 6 (by decide) (hts _ k_f_X7_43) (fun _ h9 => h9) rfl (tyX7_ok 6 (by decide)) rfl rfl (Nat.le_of_ble_eq_true rfl) rfl (z_d hX7_parse_0 2 rfl) (fun H locs hP hD hS => ?_)
  refine lv_aload_n hx hb (z_d hX7_parse_0 3 rfl) rfl (lv_at hl 0 rfl) ?_
  refine z_bnd hF (fun q1 hq1 hF => ?_)
  refine z_mu0 (z_rV (As := []) (rest := []) hx hb hml hown hts vt_X7_hold (c_X7_hold l Z Am (M.1, M.2.1, M.2.2.1, M.2.2.2.1, M.2.2.2.2.1, M.2.2.2.2.2.1, 0, M.2.2.2.2.2.2.2.1, M.2.2.2.2.2.2.2.2.1, M.2.2.2.2.2.2.2.2.2.1, M.2.2.2.2.2.2.2.2.2.2.1, M.2.2.2.2.2.2.2.2.2.2.2.1, M.2.2.2.2.2.2.2.2.2.2.2.2.1, M.2.2.2.2.2.2.2.2.2.2.2.2.2.1, M.2.2.2.2.2.2.2.2.2.2.2.2.2.2.1, M.2.2.2.2.2.2.2.2.2.2.2.2.2.2.2.1, M.2.2.2.2.2.2.2.2.2.2.2.2.2.2.2.2.1, M.2.2.2.2.2.2.2.2.2.2.2.2.2.2.2.2.2.1, M.2.2.2.2.2.2.2.2.2.2.2.2.2.2.2.2.2.2) _ hq1) rfl rfl ⟨Nat.le_of_ble_eq_true rfl, Nat.le_of_ble_eq_true rfl⟩ k_m_X7_135 zPmu_blind (z_recv (q := (RX7, TX7, 19)) (ci := 7) (q0 := 0) hK (zP_reg hP 0 rfl) rfl rfl) (z_prem hK hP hD) rfl hl.1 (Nat.le_of_ble_eq_true rfl) (z_d hX7_parse_0 4 rfl) ⟨Nat.zero_le _, Nat.zero_le _⟩) hS hD (adr_Model _ _ _ _) (fun H locs hP hD hS => ?_)
  have hP : va_P Z.1 vwCl (l_Model Z.2.1 Am q1.1 q1.2.1 q1.2.2.1 q1.2.2.2.1 q1.2.2.2.2.1 q1.2.2.2.2.2.1 q1.2.2.2.2.2.2.1 q1.2.2.2.2.2.2.2.1 q1.2.2.2.2.2.2.2.2.1 q1.2.2.2.2.2.2.2.2.2.1 q1.2.2.2.2.2.2.2.2.2.2.1 q1.2.2.2.2.2.2.2.2.2.2.2.1 q1.2.2.2.2.2.2.2.2.2.2.2.2.1 q1.2.2.2.2.2.2.2.2.2.2.2.2.2.1 q1.2.2.2.2.2.2.2.2.2.2.2.2.2.2.1 q1.2.2.2.2.2.2.2.2.2.2.2.2.2.2.2.1 q1.2.2.2.2.2.2.2.2.2.2.2.2.2.2.2.2.1 q1.2.2.2.2.2.2.2.2.2.2.2.2.2.2.2.2.2.1 q1.2.2.2.2.2.2.2.2.2.2.2.2.2.2.2.2.2.2).flatten H := hP
  have hD : va_D A (l_Model Z.2.1 Am q1.1 q1.2.1 q1.2.2.1 q1.2.2.2.1 q1.2.2.2.2.1 q1.2.2.2.2.2.1 q1.2.2.2.2.2.2.1 q1.2.2.2.2.2.2.2.1 q1.2.2.2.2.2.2.2.2.1 q1.2.2.2.2.2.2.2.2.2.1 q1.2.2.2.2.2.2.2.2.2.2.1 q1.2.2.2.2.2.2.2.2.2.2.2.1 q1.2.2.2.2.2.2.2.2.2.2.2.2.1 q1.2.2.2.2.2.2.2.2.2.2.2.2.2.1 q1.2.2.2.2.2.2.2.2.2.2.2.2.2.2.1 q1.2.2.2.2.2.2.2.2.2.2.2.2.2.2.2.1 q1.2.2.2.2.2.2.2.2.2.2.2.2.2.2.2.2.1 q1.2.2.2.2.2.2.2.2.2.2.2.2.2.2.2.2.2.1 q1.2.2.2.2.2.2.2.2.2.2.2.2.2.2.2.2.2.2).flatten := hD
  refine W.eq (g2 := F0 m 9 ls []) rfl ?_
  refine lv_aload_n hx hb (z_d hX7_parse_0 5 rfl) rfl (lv_at hl 0 rfl) ?_
  refine va_get (D := Z.1) (ci := 7) (v := .ref (Am 1)) (C := RX7) (T := TX7) (N := 19) hx hb hts zinX7 hown hK.1 (zP_reg hP 0 rfl) 0 rfl rfl 0 (by decide) (hts _ k_f_X7_7) (fun _ h9 => h9) rfl (z_d hX7_parse_0 6 rfl) ?_
  refine lv_iconst (v := 1) hx hb (z_d hX7_parse_0 7 rfl) (by decide) ?_
  refine lv_iconst (v := 0) hx hb (z_d hX7_parse_0 8 rfl) (by decide) ?_
  refine z_ix hF (fun hin hF => ?_)
  refine z_let hF (fun g2 hg2 hF => ?_)
  refine z_iast (Z := Z) (L := l_Model Z.2.1 Am q1.1 q1.2.1 q1.2.2.1 q1.2.2.2.1 q1.2.2.2.2.1 q1.2.2.2.2.2.1 q1.2.2.2.2.2.2.1 q1.2.2.2.2.2.2.2.1 q1.2.2.2.2.2.2.2.2.1 q1.2.2.2.2.2.2.2.2.2.1 q1.2.2.2.2.2.2.2.2.2.2.1 q1.2.2.2.2.2.2.2.2.2.2.2.1 q1.2.2.2.2.2.2.2.2.2.2.2.2.1 q1.2.2.2.2.2.2.2.2.2.2.2.2.2.1 q1.2.2.2.2.2.2.2.2.2.2.2.2.2.2.1 q1.2.2.2.2.2.2.2.2.2.2.2.2.2.2.2.1 q1.2.2.2.2.2.2.2.2.2.2.2.2.2.2.2.2.1 q1.2.2.2.2.2.2.2.2.2.2.2.2.2.2.2.2.2.1 q1.2.2.2.2.2.2.2.2.2.2.2.2.2.2.2.2.2.2) (L' := l_Model Z.2.1 Am g2 q1.2.1 q1.2.2.1 q1.2.2.2.1 q1.2.2.2.2.1 q1.2.2.2.2.2.1 q1.2.2.2.2.2.2.1 q1.2.2.2.2.2.2.2.1 q1.2.2.2.2.2.2.2.2.1 q1.2.2.2.2.2.2.2.2.2.1 q1.2.2.2.2.2.2.2.2.2.2.1 q1.2.2.2.2.2.2.2.2.2.2.2.1 q1.2.2.2.2.2.2.2.2.2.2.2.2.1 q1.2.2.2.2.2.2.2.2.2.2.2.2.2.1 q1.2.2.2.2.2.2.2.2.2.2.2.2.2.2.1 q1.2.2.2.2.2.2.2.2.2.2.2.2.2.2.2.1 q1.2.2.2.2.2.2.2.2.2.2.2.2.2.2.2.2.1 q1.2.2.2.2.2.2.2.2.2.2.2.2.2.2.2.2.2.1 q1.2.2.2.2.2.2.2.2.2.2.2.2.2.2.2.2.2.2) (f := q1.1) hx hb hK hP hD hS 1 rfl hin hg2 rfl (z_d hX7_parse_0 9 rfl) (fun H locs hP hD hS => ?_)
  refine lv_aload_n hx hb (z_d hX7_parse_0 10 rfl) rfl (lv_at hl 0 rfl) ?_
  refine lv_iconst (v := 0) hx hb (z_d hX7_parse_0 11 rfl) (by decide) ?_
  refine z_put (Z := Z) (ci := 7) (v := .int 0) (ty := .int) (L := l_Model Z.2.1 Am g2 q1.2.1 q1.2.2.1 q1.2.2.2.1 q1.2.2.2.2.1 q1.2.2.2.2.2.1 q1.2.2.2.2.2.2.1 q1.2.2.2.2.2.2.2.1 q1.2.2.2.2.2.2.2.2.1 q1.2.2.2.2.2.2.2.2.2.1 q1.2.2.2.2.2.2.2.2.2.2.1 q1.2.2.2.2.2.2.2.2.2.2.2.1 q1.2.2.2.2.2.2.2.2.2.2.2.2.1 q1.2.2.2.2.2.2.2.2.2.2.2.2.2.1 q1.2.2.2.2.2.2.2.2.2.2.2.2.2.2.1 q1.2.2.2.2.2.2.2.2.2.2.2.2.2.2.2.1 q1.2.2.2.2.2.2.2.2.2.2.2.2.2.2.2.2.1 q1.2.2.2.2.2.2.2.2.2.2.2.2.2.2.2.2.2.1 q1.2.2.2.2.2.2.2.2.2.2.2.2.2.2.2.2.2.2) (L' := l_Model Z.2.1 Am g2 q1.2.1 q1.2.2.1 q1.2.2.2.1 q1.2.2.2.2.1 q1.2.2.2.2.2.1 q1.2.2.2.2.2.2.1 q1.2.2.2.2.2.2.2.1 q1.2.2.2.2.2.2.2.2.1 q1.2.2.2.2.2.2.2.2.2.1 q1.2.2.2.2.2.2.2.2.2.2.1 q1.2.2.2.2.2.2.2.2.2.2.2.1 q1.2.2.2.2.2.2.2.2.2.2.2.2.1 q1.2.2.2.2.2.2.2.2.2.2.2.2.2.1 q1.2.2.2.2.2.2.2.2.2.2.2.2.2.2.1 q1.2.2.2.2.2.2.2.2.2.2.2.2.2.2.2.1 0 q1.2.2.2.2.2.2.2.2.2.2.2.2.2.2.2.2.2.1 q1.2.2.2.2.2.2.2.2.2.2.2.2.2.2.2.2.2.2) (C := RX7) (T := TX7) (N := 19) hx hb hts zinX7 tyX7 tyX7_ok nmX7 hown hK hP hD hS 0 rfl rfl 16 (by decide) (hts _ k_f_X7_198) (fun _ h9 => h9) rfl (tyX7_ok 16 (by decide)) rfl rfl (Nat.le_of_ble_eq_true rfl) rfl (z_d hX7_parse_0 12 rfl) (fun H locs hP hD hS => ?_)
  refine z_bnd hF (fun q6 hq6 hF => ?_)
  refine L21  _ _ _ hq6 _ _ ls hP hD hS (lv_sub hl [0] rfl) (fun y7 e9 H locs ls hP hD hS hl => ?_) (fun r e9 H locs ls hP hD hS => ?_)
  · subst e9
    have hF := z_inl hF
    refine lv_aload_n hx hb (z_d hX7_parse_0 31 rfl) rfl (lv_at hl 0 rfl) ?_
    refine lv_aload_n hx hb (z_d hX7_parse_0 32 rfl) rfl (lv_at hl 0 rfl) ?_
    refine va_get (D := Z.1) (ci := 7) (v := .ref (Am 1)) (C := RX7) (T := TX7) (N := 19) hx hb hts zinX7 hown hK.1 (zP_reg hP 0 rfl) 0 rfl rfl 0 (by decide) (hts _ k_f_X7_7) (fun _ h9 => h9) rfl (z_d hX7_parse_0 33 rfl) ?_
    refine lv_iconst (v := 1) hx hb (z_d hX7_parse_0 34 rfl) (by decide) ?_
    refine z_ix hF (fun hin hF => ?_)
    refine va_iald (D := Z.1) (f := y7.1) hx hb hK.1 (zP_reg hP 1 rfl) 0 0 rfl rfl hin (z_d hX7_parse_0 35 rfl) ?_
    refine z_let hF (fun u8 hu8 hF => ?_)
    refine lv_topE hu8 ?_
    refine z_bnd hF (fun q9 hq9 hF => ?_)
    refine z_mu0 (z_rV (As := [.int u8]) (rest := []) hx hb hml hown hts vt_X7_ends (c_X7_ends l Z Am y7 u8 _ hq9) rfl rfl ⟨Nat.le_of_ble_eq_true rfl, Nat.le_of_ble_eq_true rfl⟩ k_m_X7_146 zPmu_blind (z_recv (q := (RX7, TX7, 19)) (ci := 7) (q0 := 0) hK (zP_reg hP 0 rfl) rfl rfl) (z_prem hK hP hD) rfl hl.1 (Nat.le_of_ble_eq_true rfl) (z_d hX7_parse_0 36 rfl) ⟨Nat.zero_le _, Nat.zero_le _⟩) hS hD (adr_Model _ _ _ _) (fun H locs hP hD hS => ?_)
    have hP : va_P Z.1 vwCl (l_Model Z.2.1 Am q9.2.1 q9.2.2.1 q9.2.2.2.1 q9.2.2.2.2.1 q9.2.2.2.2.2.1 q9.2.2.2.2.2.2.1 q9.2.2.2.2.2.2.2.1 q9.2.2.2.2.2.2.2.2.1 q9.2.2.2.2.2.2.2.2.2.1 q9.2.2.2.2.2.2.2.2.2.2.1 q9.2.2.2.2.2.2.2.2.2.2.2.1 q9.2.2.2.2.2.2.2.2.2.2.2.2.1 q9.2.2.2.2.2.2.2.2.2.2.2.2.2.1 q9.2.2.2.2.2.2.2.2.2.2.2.2.2.2.1 q9.2.2.2.2.2.2.2.2.2.2.2.2.2.2.2.1 q9.2.2.2.2.2.2.2.2.2.2.2.2.2.2.2.2.1 q9.2.2.2.2.2.2.2.2.2.2.2.2.2.2.2.2.2.1 q9.2.2.2.2.2.2.2.2.2.2.2.2.2.2.2.2.2.2.1 q9.2.2.2.2.2.2.2.2.2.2.2.2.2.2.2.2.2.2.2).flatten H := hP
    have hD : va_D A (l_Model Z.2.1 Am q9.2.1 q9.2.2.1 q9.2.2.2.1 q9.2.2.2.2.1 q9.2.2.2.2.2.1 q9.2.2.2.2.2.2.1 q9.2.2.2.2.2.2.2.1 q9.2.2.2.2.2.2.2.2.1 q9.2.2.2.2.2.2.2.2.2.1 q9.2.2.2.2.2.2.2.2.2.2.1 q9.2.2.2.2.2.2.2.2.2.2.2.1 q9.2.2.2.2.2.2.2.2.2.2.2.2.1 q9.2.2.2.2.2.2.2.2.2.2.2.2.2.1 q9.2.2.2.2.2.2.2.2.2.2.2.2.2.2.1 q9.2.2.2.2.2.2.2.2.2.2.2.2.2.2.2.1 q9.2.2.2.2.2.2.2.2.2.2.2.2.2.2.2.2.1 q9.2.2.2.2.2.2.2.2.2.2.2.2.2.2.2.2.2.1 q9.2.2.2.2.2.2.2.2.2.2.2.2.2.2.2.2.2.2.1 q9.2.2.2.2.2.2.2.2.2.2.2.2.2.2.2.2.2.2.2).flatten := hD
    refine W.eq (g2 := F0 m 68 ls [.int q9.1]) rfl ?_
    obtain rfl := Option.some.inj hF
    subst hQ
    subst hA
    exact W.iret hx hb hr (fun t ht hW => zq_mu (by rw [ht]; exact hP) (hS.F ht)) hS.2.2 (z_d hX7_parse_0 37 rfl)
  · subst e9
    have hF := z_inr hF
    obtain rfl := Option.some.inj hF
    subst hQ
    subst hA
    exact W.iret hx hb hr (fun t ht hW => zq_mu (by rw [ht]; exact hP) (hS.F ht)) hS.2.2 (z_d hX7_parse_0 30 rfl)
def rm_X7_undo : Room := { frames := 1, cells := 0, slots := 0, locals := 21 }
set_option maxRecDepth 100000 in
set_option maxHeartbeats 4000000 in
theorem c_X7_undo (l : Launch) (Z : zZ) (Am : Nat → Nat) (M : t_Model) (R : Int32 × t_Model) (hF : X7_undo M = some R) : zMU l yX7_undo (zw yX7_undo cX7_undo 2 (some .int)) rm_X7_undo Z [.ref (Am 0)] (w_Model Z.2.1 Am M) (w_Model Z.2.1 Am R.2) (some (.int R.1)) := by
  refine zMU_of (by decide) (Nat.le_of_ble_eq_true rfl) (fun p e s m below meth c hx hb hr hml hown hts hlocks hK A hA Q hQ ls hl hP hD hS => ?_)
  unfold X7_undo at hF
  have hl : lv_has ls 2 [(0, .ref (Am 0))] := hl
  have hown : s.vm.findClass RX7 = some m.cls := hown
  have hP : va_P Z.1 vwCl (l_Model Z.2.1 Am M.1 M.2.1 M.2.2.1 M.2.2.2.1 M.2.2.2.2.1 M.2.2.2.2.2.1 M.2.2.2.2.2.2.1 M.2.2.2.2.2.2.2.1 M.2.2.2.2.2.2.2.2.1 M.2.2.2.2.2.2.2.2.2.1 M.2.2.2.2.2.2.2.2.2.2.1 M.2.2.2.2.2.2.2.2.2.2.2.1 M.2.2.2.2.2.2.2.2.2.2.2.2.1 M.2.2.2.2.2.2.2.2.2.2.2.2.2.1 M.2.2.2.2.2.2.2.2.2.2.2.2.2.2.1 M.2.2.2.2.2.2.2.2.2.2.2.2.2.2.2.1 M.2.2.2.2.2.2.2.2.2.2.2.2.2.2.2.2.1 M.2.2.2.2.2.2.2.2.2.2.2.2.2.2.2.2.2.1 M.2.2.2.2.2.2.2.2.2.2.2.2.2.2.2.2.2.2).flatten s.heap := hP
  have hD : va_D A (l_Model Z.2.1 Am M.1 M.2.1 M.2.2.1 M.2.2.2.1 M.2.2.2.2.1 M.2.2.2.2.2.1 M.2.2.2.2.2.2.1 M.2.2.2.2.2.2.2.1 M.2.2.2.2.2.2.2.2.1 M.2.2.2.2.2.2.2.2.2.1 M.2.2.2.2.2.2.2.2.2.2.1 M.2.2.2.2.2.2.2.2.2.2.2.1 M.2.2.2.2.2.2.2.2.2.2.2.2.1 M.2.2.2.2.2.2.2.2.2.2.2.2.2.1 M.2.2.2.2.2.2.2.2.2.2.2.2.2.2.1 M.2.2.2.2.2.2.2.2.2.2.2.2.2.2.2.1 M.2.2.2.2.2.2.2.2.2.2.2.2.2.2.2.2.1 M.2.2.2.2.2.2.2.2.2.2.2.2.2.2.2.2.2.1 M.2.2.2.2.2.2.2.2.2.2.2.2.2.2.2.2.2.2).flatten := hD
  have L25 : ∀  (n : Nat) (v : t_Model × Int32) (X : t_Model) (hF : zloop (b_X7_undo_25  ) n v = some X) (H : Heap) (locs : List Loc) (ls : Array Slot) (hP : va_P Z.1 vwCl (l_Model Z.2.1 Am v.1.1 v.1.2.1 v.1.2.2.1 v.1.2.2.2.1 v.1.2.2.2.2.1 v.1.2.2.2.2.2.1 v.1.2.2.2.2.2.2.1 v.1.2.2.2.2.2.2.2.1 v.1.2.2.2.2.2.2.2.2.1 v.1.2.2.2.2.2.2.2.2.2.1 v.1.2.2.2.2.2.2.2.2.2.2.1 v.1.2.2.2.2.2.2.2.2.2.2.2.1 v.1.2.2.2.2.2.2.2.2.2.2.2.2.1 v.1.2.2.2.2.2.2.2.2.2.2.2.2.2.1 v.1.2.2.2.2.2.2.2.2.2.2.2.2.2.2.1 v.1.2.2.2.2.2.2.2.2.2.2.2.2.2.2.2.1 v.1.2.2.2.2.2.2.2.2.2.2.2.2.2.2.2.2.1 v.1.2.2.2.2.2.2.2.2.2.2.2.2.2.2.2.2.2.1 v.1.2.2.2.2.2.2.2.2.2.2.2.2.2.2.2.2.2.2).flatten H) (hD : va_D A (l_Model Z.2.1 Am v.1.1 v.1.2.1 v.1.2.2.1 v.1.2.2.2.1 v.1.2.2.2.2.1 v.1.2.2.2.2.2.1 v.1.2.2.2.2.2.2.1 v.1.2.2.2.2.2.2.2.1 v.1.2.2.2.2.2.2.2.2.1 v.1.2.2.2.2.2.2.2.2.2.1 v.1.2.2.2.2.2.2.2.2.2.2.1 v.1.2.2.2.2.2.2.2.2.2.2.2.1 v.1.2.2.2.2.2.2.2.2.2.2.2.2.1 v.1.2.2.2.2.2.2.2.2.2.2.2.2.2.1 v.1.2.2.2.2.2.2.2.2.2.2.2.2.2.2.1 v.1.2.2.2.2.2.2.2.2.2.2.2.2.2.2.2.1 v.1.2.2.2.2.2.2.2.2.2.2.2.2.2.2.2.2.1 v.1.2.2.2.2.2.2.2.2.2.2.2.2.2.2.2.2.2.1 v.1.2.2.2.2.2.2.2.2.2.2.2.2.2.2.2.2.2.2).flatten) (hS : va_S A s.heap H locs) (hl : lv_has ls 2 [(0, .ref (Am 0)), (1, .int v.2)]) (K1 : ∀ (H : Heap) (locs : List Loc) (ls : Array Slot) (hP : va_P Z.1 vwCl (l_Model Z.2.1 Am X.1 X.2.1 X.2.2.1 X.2.2.2.1 X.2.2.2.2.1 X.2.2.2.2.2.1 X.2.2.2.2.2.2.1 X.2.2.2.2.2.2.2.1 X.2.2.2.2.2.2.2.2.1 X.2.2.2.2.2.2.2.2.2.1 X.2.2.2.2.2.2.2.2.2.2.1 X.2.2.2.2.2.2.2.2.2.2.2.1 X.2.2.2.2.2.2.2.2.2.2.2.2.1 X.2.2.2.2.2.2.2.2.2.2.2.2.2.1 X.2.2.2.2.2.2.2.2.2.2.2.2.2.2.1 X.2.2.2.2.2.2.2.2.2.2.2.2.2.2.2.1 X.2.2.2.2.2.2.2.2.2.2.2.2.2.2.2.2.1 X.2.2.2.2.2.2.2.2.2.2.2.2.2.2.2.2.2.1 X.2.2.2.2.2.2.2.2.2.2.2.2.2.2.2.2.2.2).flatten H) (hD : va_D A (l_Model Z.2.1 Am X.1 X.2.1 X.2.2.1 X.2.2.2.1 X.2.2.2.2.1 X.2.2.2.2.2.1 X.2.2.2.2.2.2.1 X.2.2.2.2.2.2.2.1 X.2.2.2.2.2.2.2.2.1 X.2.2.2.2.2.2.2.2.2.1 X.2.2.2.2.2.2.2.2.2.2.1 X.2.2.2.2.2.2.2.2.2.2.2.1 X.2.2.2.2.2.2.2.2.2.2.2.2.1 X.2.2.2.2.2.2.2.2.2.2.2.2.2.1 X.2.2.2.2.2.2.2.2.2.2.2.2.2.2.1 X.2.2.2.2.2.2.2.2.2.2.2.2.2.2.2.1 X.2.2.2.2.2.2.2.2.2.2.2.2.2.2.2.2.1 X.2.2.2.2.2.2.2.2.2.2.2.2.2.2.2.2.2.1 X.2.2.2.2.2.2.2.2.2.2.2.2.2.2.2.2.2.2).flatten) (hS : va_S A s.heap H locs) (hl : lv_has ls 2 [(0, .ref (Am 0))]), W p l e rm_X7_undo s m ([.ref (Am 0)] : List Value).toArray below meth c H locs 0 0 Q (F0 m 59 ls [])), W p l e rm_X7_undo s m ([.ref (Am 0)] : List Value).toArray below meth c H locs 0 0 Q (F0 m 25 ls []) := by
    skip
    refine z_loopE (fun rec ih v X hF H locs ls hP hD hS hl K1 => ?_)
    unfold b_X7_undo_25 at hF
    refine lv_iload_n hx hb (z_d hX7_undo_0 15 rfl) rfl (lv_at hl 1 rfl) ?_
    refine lv_sipush (v := 542) hx hb (z_d hX7_undo_0 16 rfl) (by decide) ?_
    refine lv_icmp_ge (tgt := 59) hx hb (z_d hX7_undo_0 17 rfl) (by decide) (fun hc29 => ?_) (fun hc29 => ?_)
    · have hF := z_pos hc29 hF
      obtain rfl := Option.some.inj hF
      exact K1 _ _ ls hP hD hS (lv_sub hl [0] rfl)
    · have hF := z_neg hc29 hF
      refine lv_aload_n hx hb (z_d hX7_undo_0 18 rfl) rfl (lv_at hl 0 rfl) ?_
      refine va_get (D := Z.1) (ci := 7) (v := .ref (Am 1)) (C := RX7) (T := TX7) (N := 19) hx hb hts zinX7 hown hK.1 (zP_reg hP 0 rfl) 0 rfl rfl 0 (by decide) (hts _ k_f_X7_7) (fun _ h9 => h9) rfl (z_d hX7_undo_0 19 rfl) ?_
      refine lv_iload_n hx hb (z_d hX7_undo_0 20 rfl) rfl (lv_at hl 1 rfl) ?_
      refine lv_aload_n hx hb (z_d hX7_undo_0 21 rfl) rfl (lv_at hl 0 rfl) ?_
      refine va_get (D := Z.1) (ci := 7) (v := .ref (Am 2)) (C := RX7) (T := TX7) (N := 19) hx hb hts zinX7 hown hK.1 (zP_reg hP 0 rfl) 0 rfl rfl 1 (by decide) (hts _ k_f_X7_13) (fun _ h9 => h9) rfl (z_d hX7_undo_0 22 rfl) ?_
      refine lv_sipush (v := 542) hx hb (z_d hX7_undo_0 23 rfl) (by decide) ?_
      refine lv_aload_n hx hb (z_d hX7_undo_0 24 rfl) rfl (lv_at hl 0 rfl) ?_
      refine va_get (D := Z.1) (ci := 7) (v := .int v.1.2.2.2.1) (C := RX7) (T := TX7) (N := 19) hx hb hts zinX7 hown hK.1 (zP_reg hP 0 rfl) 0 rfl rfl 3 (by decide) (hts _ k_f_X7_51) (fun _ h9 => h9) rfl (z_d hX7_undo_0 25 rfl) ?_
      refine lv_imul hx hb (z_d hX7_undo_0 26 rfl) ?_
      refine z_let hF (fun u2 hu2 hF => ?_)
      refine lv_topE hu2 ?_
      refine lv_iload_n hx hb (z_d hX7_undo_0 27 rfl) rfl (lv_at hl 1 rfl) ?_
      refine lv_iadd hx hb (z_d hX7_undo_0 28 rfl) ?_
      refine z_let hF (fun u3 hu3 hF => ?_)
      refine lv_topE hu3 ?_
      refine z_ix hF (fun hin hF => ?_)
      refine va_iald (D := Z.1) (f := v.1.2.1) hx hb hK.1 (zP_reg hP 2 rfl) 0 0 rfl rfl hin (z_d hX7_undo_0 29 rfl) ?_
      refine z_let hF (fun u4 hu4 hF => ?_)
      refine lv_topE hu4 ?_
      refine z_ix hF (fun hin hF => ?_)
      refine z_let hF (fun g5 hg5 hF => ?_)
      refine z_iast (Z := Z) (L := l_Model Z.2.1 Am v.1.1 v.1.2.1 v.1.2.2.1 v.1.2.2.2.1 v.1.2.2.2.2.1 v.1.2.2.2.2.2.1 v.1.2.2.2.2.2.2.1 v.1.2.2.2.2.2.2.2.1 v.1.2.2.2.2.2.2.2.2.1 v.1.2.2.2.2.2.2.2.2.2.1 v.1.2.2.2.2.2.2.2.2.2.2.1 v.1.2.2.2.2.2.2.2.2.2.2.2.1 v.1.2.2.2.2.2.2.2.2.2.2.2.2.1 v.1.2.2.2.2.2.2.2.2.2.2.2.2.2.1 v.1.2.2.2.2.2.2.2.2.2.2.2.2.2.2.1 v.1.2.2.2.2.2.2.2.2.2.2.2.2.2.2.2.1 v.1.2.2.2.2.2.2.2.2.2.2.2.2.2.2.2.2.1 v.1.2.2.2.2.2.2.2.2.2.2.2.2.2.2.2.2.2.1 v.1.2.2.2.2.2.2.2.2.2.2.2.2.2.2.2.2.2.2) (L' := l_Model Z.2.1 Am g5 v.1.2.1 v.1.2.2.1 v.1.2.2.2.1 v.1.2.2.2.2.1 v.1.2.2.2.2.2.1 v.1.2.2.2.2.2.2.1 v.1.2.2.2.2.2.2.2.1 v.1.2.2.2.2.2.2.2.2.1 v.1.2.2.2.2.2.2.2.2.2.1 v.1.2.2.2.2.2.2.2.2.2.2.1 v.1.2.2.2.2.2.2.2.2.2.2.2.1 v.1.2.2.2.2.2.2.2.2.2.2.2.2.1 v.1.2.2.2.2.2.2.2.2.2.2.2.2.2.1 v.1.2.2.2.2.2.2.2.2.2.2.2.2.2.2.1 v.1.2.2.2.2.2.2.2.2.2.2.2.2.2.2.2.1 v.1.2.2.2.2.2.2.2.2.2.2.2.2.2.2.2.2.1 v.1.2.2.2.2.2.2.2.2.2.2.2.2.2.2.2.2.2.1 v.1.2.2.2.2.2.2.2.2.2.2.2.2.2.2.2.2.2.2) (f := v.1.1) hx hb hK hP hD hS 1 rfl hin hg5 rfl (z_d hX7_undo_0 30 rfl) (fun H locs hP hD hS => ?_)
      refine z_let hF (fun u6 hu6 hF => ?_)
      refine lv_iinc (v := u6) (lv' := [(1, .int u6), (0, .ref (Am 0))]) hx hb (z_d hX7_undo_0 31 rfl) hl (k := 1) rfl (z_inc1 hu6) (by decide) rfl (fun ls hl => ?_)
      refine lv_goto (tgt := 25) hx hb (z_d hX7_undo_0 32 rfl) (by decide) ?_
      exact ih _ _ hF _ _ ls hP hD hS (lv_sub hl [1, 0] rfl) K1
  refine lv_aload_n hx hb (z_d hX7_undo_0 0 rfl) rfl (lv_at hl 0 rfl) ?_
  refine va_get (D := Z.1) (ci := 7) (v := .int M.2.2.2.1) (C := RX7) (T := TX7) (N := 19) hx hb hts zinX7 hown hK.1 (zP_reg hP 0 rfl) 0 rfl rfl 3 (by decide) (hts _ k_f_X7_51) (fun _ h9 => h9) rfl (z_d hX7_undo_0 1 rfl) ?_
  refine lv_if_ne (tgt := 13) hx hb (z_d hX7_undo_0 2 rfl) (by decide) (fun hc4 => ?_) (fun hc4 => ?_)
  · have hF := z_neg hc4 hF
    refine lv_aload_n hx hb (z_d hX7_undo_0 7 rfl) rfl (lv_at hl 0 rfl) ?_
    refine lv_dup hx hb (z_d hX7_undo_0 8 rfl) rfl ?_
    refine va_get (D := Z.1) (ci := 7) (v := .int M.2.2.2.1) (C := RX7) (T := TX7) (N := 19) hx hb hts zinX7 hown hK.1 (zP_reg hP 0 rfl) 0 rfl rfl 3 (by decide) (hts _ k_f_X7_51) (fun _ h9 => h9) rfl (z_d hX7_undo_0 9 rfl) ?_
    refine lv_iconst (v := 1) hx hb (z_d hX7_undo_0 10 rfl) (by decide) ?_
    refine lv_isub hx hb (z_d hX7_undo_0 11 rfl) ?_
    refine z_let hF (fun u1 hu1 hF => ?_)
    refine lv_topE hu1 ?_
    refine z_put (Z := Z) (ci := 7) (v := .int u1) (ty := .int) (L := l_Model Z.2.1 Am M.1 M.2.1 M.2.2.1 M.2.2.2.1 M.2.2.2.2.1 M.2.2.2.2.2.1 M.2.2.2.2.2.2.1 M.2.2.2.2.2.2.2.1 M.2.2.2.2.2.2.2.2.1 M.2.2.2.2.2.2.2.2.2.1 M.2.2.2.2.2.2.2.2.2.2.1 M.2.2.2.2.2.2.2.2.2.2.2.1 M.2.2.2.2.2.2.2.2.2.2.2.2.1 M.2.2.2.2.2.2.2.2.2.2.2.2.2.1 M.2.2.2.2.2.2.2.2.2.2.2.2.2.2.1 M.2.2.2.2.2.2.2.2.2.2.2.2.2.2.2.1 M.2.2.2.2.2.2.2.2.2.2.2.2.2.2.2.2.1 M.2.2.2.2.2.2.2.2.2.2.2.2.2.2.2.2.2.1 M.2.2.2.2.2.2.2.2.2.2.2.2.2.2.2.2.2.2) (L' := l_Model Z.2.1 Am M.1 M.2.1 M.2.2.1 u1 M.2.2.2.2.1 M.2.2.2.2.2.1 M.2.2.2.2.2.2.1 M.2.2.2.2.2.2.2.1 M.2.2.2.2.2.2.2.2.1 M.2.2.2.2.2.2.2.2.2.1 M.2.2.2.2.2.2.2.2.2.2.1 M.2.2.2.2.2.2.2.2.2.2.2.1 M.2.2.2.2.2.2.2.2.2.2.2.2.1 M.2.2.2.2.2.2.2.2.2.2.2.2.2.1 M.2.2.2.2.2.2.2.2.2.2.2.2.2.2.1 M.2.2.2.2.2.2.2.2.2.2.2.2.2.2.2.1 M.2.2.2.2.2.2.2.2.2.2.2.2.2.2.2.2.1 M.2.2.2.2.2.2.2.2.2.2.2.2.2.2.2.2.2.1 M.2.2.2.2.2.2.2.2.2.2.2.2.2.2.2.2.2.2) (C := RX7) (T := TX7) (N := 19) hx hb hts zinX7 tyX7 tyX7_ok nmX7 hown hK hP hD hS 0 rfl rfl 3 (by decide) (hts _ k_f_X7_51) (fun _ h9 => h9) rfl (tyX7_ok 3 (by decide)) rfl rfl (Nat.le_of_ble_eq_true rfl) rfl (z_d hX7_undo_0 12 rfl) (fun H locs hP hD hS => ?_)
    refine lv_iconst (v := 0) hx hb (z_d hX7_undo_0 13 rfl) (by decide) ?_
    refine lv_istore_n (lv' := [(1, .int 0), (0, .ref (Am 0))]) hx hb (z_d hX7_undo_0 14 rfl) rfl hl (by decide) rfl (fun ls hl => ?_)
    refine z_bnd hF (fun q7 hq7 hF => ?_)
    refine L25  _ _ _ hq7 _ _ ls hP hD hS (lv_sub hl [1, 0] rfl) (fun H locs ls hP hD hS hl => ?_)
    refine lv_aload_n hx hb (z_d hX7_undo_0 33 rfl) rfl (lv_at hl 0 rfl) ?_
    refine lv_aload_n hx hb (z_d hX7_undo_0 34 rfl) rfl (lv_at hl 0 rfl) ?_
    refine va_get (D := Z.1) (ci := 7) (v := .int q7.2.2.2.1) (C := RX7) (T := TX7) (N := 19) hx hb hts zinX7 hown hK.1 (zP_reg hP 0 rfl) 0 rfl rfl 3 (by decide) (hts _ k_f_X7_51) (fun _ h9 => h9) rfl (z_d hX7_undo_0 35 rfl) ?_
    refine z_let hF (fun q8 hq8 hF => ?_)
    refine z_mu0 (z_rV (As := [.int q7.2.2.2.1]) (rest := []) hx hb hml hown hts vt_X7_tells (c_X7_tells l Z Am q7 q7.2.2.2.1 _ hq8) rfl rfl ⟨Nat.le_of_ble_eq_true rfl, Nat.le_of_ble_eq_true rfl⟩ k_m_X7_54 zPmu_blind (z_recv (q := (RX7, TX7, 19)) (ci := 7) (q0 := 0) hK (zP_reg hP 0 rfl) rfl rfl) (z_prem hK hP hD) rfl hl.1 (Nat.le_of_ble_eq_true rfl) (z_d hX7_undo_0 36 rfl) ⟨Nat.zero_le _, Nat.zero_le _⟩) hS hD (adr_Model _ _ _ _) (fun H locs hP hD hS => ?_)
    have hP : va_P Z.1 vwCl (l_Model Z.2.1 Am q8.2.1 q8.2.2.1 q8.2.2.2.1 q8.2.2.2.2.1 q8.2.2.2.2.2.1 q8.2.2.2.2.2.2.1 q8.2.2.2.2.2.2.2.1 q8.2.2.2.2.2.2.2.2.1 q8.2.2.2.2.2.2.2.2.2.1 q8.2.2.2.2.2.2.2.2.2.2.1 q8.2.2.2.2.2.2.2.2.2.2.2.1 q8.2.2.2.2.2.2.2.2.2.2.2.2.1 q8.2.2.2.2.2.2.2.2.2.2.2.2.2.1 q8.2.2.2.2.2.2.2.2.2.2.2.2.2.2.1 q8.2.2.2.2.2.2.2.2.2.2.2.2.2.2.2.1 q8.2.2.2.2.2.2.2.2.2.2.2.2.2.2.2.2.1 q8.2.2.2.2.2.2.2.2.2.2.2.2.2.2.2.2.2.1 q8.2.2.2.2.2.2.2.2.2.2.2.2.2.2.2.2.2.2.1 q8.2.2.2.2.2.2.2.2.2.2.2.2.2.2.2.2.2.2.2).flatten H := hP
    have hD : va_D A (l_Model Z.2.1 Am q8.2.1 q8.2.2.1 q8.2.2.2.1 q8.2.2.2.2.1 q8.2.2.2.2.2.1 q8.2.2.2.2.2.2.1 q8.2.2.2.2.2.2.2.1 q8.2.2.2.2.2.2.2.2.1 q8.2.2.2.2.2.2.2.2.2.1 q8.2.2.2.2.2.2.2.2.2.2.1 q8.2.2.2.2.2.2.2.2.2.2.2.1 q8.2.2.2.2.2.2.2.2.2.2.2.2.1 q8.2.2.2.2.2.2.2.2.2.2.2.2.2.1 q8.2.2.2.2.2.2.2.2.2.2.2.2.2.2.1 q8.2.2.2.2.2.2.2.2.2.2.2.2.2.2.2.1 q8.2.2.2.2.2.2.2.2.2.2.2.2.2.2.2.2.1 q8.2.2.2.2.2.2.2.2.2.2.2.2.2.2.2.2.2.1 q8.2.2.2.2.2.2.2.2.2.2.2.2.2.2.2.2.2.2.1 q8.2.2.2.2.2.2.2.2.2.2.2.2.2.2.2.2.2.2.2).flatten := hD
    refine W.eq (g2 := F0 m 67 ls [.int q8.1]) rfl ?_
    obtain rfl := Option.some.inj hF
    subst hQ
    subst hA
    exact W.iret hx hb hr (fun t ht hW => zq_mu (by rw [ht]; exact hP) (hS.F ht)) hS.2.2 (z_d hX7_undo_0 37 rfl)
  · have hF := z_pos hc4 hF
    refine lv_aload_n hx hb (z_d hX7_undo_0 3 rfl) rfl (lv_at hl 0 rfl) ?_
    refine lv_iconst (v := 1) hx hb (z_d hX7_undo_0 4 rfl) (by decide) ?_
    refine z_let hF (fun q9 hq9 hF => ?_)
    refine z_mu0 (z_rV (As := [.int 1]) (rest := []) hx hb hml hown hts vt_X7_fails (c_X7_fails l Z Am M 1 _ hq9) rfl rfl ⟨Nat.le_of_ble_eq_true rfl, Nat.le_of_ble_eq_true rfl⟩ k_m_X7_129 zPmu_blind (z_recv (q := (RX7, TX7, 19)) (ci := 7) (q0 := 0) hK (zP_reg hP 0 rfl) rfl rfl) (z_prem hK hP hD) rfl hl.1 (Nat.le_of_ble_eq_true rfl) (z_d hX7_undo_0 5 rfl) ⟨Nat.zero_le _, Nat.zero_le _⟩) hS hD (adr_Model _ _ _ _) (fun H locs hP hD hS => ?_)
    have hP : va_P Z.1 vwCl (l_Model Z.2.1 Am q9.2.1 q9.2.2.1 q9.2.2.2.1 q9.2.2.2.2.1 q9.2.2.2.2.2.1 q9.2.2.2.2.2.2.1 q9.2.2.2.2.2.2.2.1 q9.2.2.2.2.2.2.2.2.1 q9.2.2.2.2.2.2.2.2.2.1 q9.2.2.2.2.2.2.2.2.2.2.1 q9.2.2.2.2.2.2.2.2.2.2.2.1 q9.2.2.2.2.2.2.2.2.2.2.2.2.1 q9.2.2.2.2.2.2.2.2.2.2.2.2.2.1 q9.2.2.2.2.2.2.2.2.2.2.2.2.2.2.1 q9.2.2.2.2.2.2.2.2.2.2.2.2.2.2.2.1 q9.2.2.2.2.2.2.2.2.2.2.2.2.2.2.2.2.1 q9.2.2.2.2.2.2.2.2.2.2.2.2.2.2.2.2.2.1 q9.2.2.2.2.2.2.2.2.2.2.2.2.2.2.2.2.2.2.1 q9.2.2.2.2.2.2.2.2.2.2.2.2.2.2.2.2.2.2.2).flatten H := hP
    have hD : va_D A (l_Model Z.2.1 Am q9.2.1 q9.2.2.1 q9.2.2.2.1 q9.2.2.2.2.1 q9.2.2.2.2.2.1 q9.2.2.2.2.2.2.1 q9.2.2.2.2.2.2.2.1 q9.2.2.2.2.2.2.2.2.1 q9.2.2.2.2.2.2.2.2.2.1 q9.2.2.2.2.2.2.2.2.2.2.1 q9.2.2.2.2.2.2.2.2.2.2.2.1 q9.2.2.2.2.2.2.2.2.2.2.2.2.1 q9.2.2.2.2.2.2.2.2.2.2.2.2.2.1 q9.2.2.2.2.2.2.2.2.2.2.2.2.2.2.1 q9.2.2.2.2.2.2.2.2.2.2.2.2.2.2.2.1 q9.2.2.2.2.2.2.2.2.2.2.2.2.2.2.2.2.1 q9.2.2.2.2.2.2.2.2.2.2.2.2.2.2.2.2.2.1 q9.2.2.2.2.2.2.2.2.2.2.2.2.2.2.2.2.2.2.1 q9.2.2.2.2.2.2.2.2.2.2.2.2.2.2.2.2.2.2.2).flatten := hD
    refine W.eq (g2 := F0 m 12 ls [.int q9.1]) rfl ?_
    obtain rfl := Option.some.inj hF
    subst hQ
    subst hA
    exact W.iret hx hb hr (fun t ht hW => zq_mu (by rw [ht]; exact hP) (hS.F ht)) hS.2.2 (z_d hX7_undo_0 6 rfl)
def rm_X7_mix : Room := { frames := 0, cells := 0, slots := 0, locals := 0 }
set_option maxRecDepth 100000 in
set_option maxHeartbeats 4000000 in
theorem c_X7_mix (l : Launch) (Z : zZ) (Am : Nat → Nat) (M : t_Model) (p1 : Int32) (R : t_Model) (hF : X7_mix M p1 = R) : zMU l yX7_mix (zw yX7_mix cX7_mix 2 none) rm_X7_mix Z [.ref (Am 0), .int p1] (w_Model Z.2.1 Am M) (w_Model Z.2.1 Am R) none := by
  refine zMU_of (by decide) (Nat.le_of_ble_eq_true rfl) (fun p e s m below meth c hx hb hr hml hown hts hlocks hK A hA Q hQ ls hl hP hD hS => ?_)
  unfold X7_mix at hF
  have hl : lv_has ls 2 [(0, .ref (Am 0)), (1, .int p1)] := hl
  have hown : s.vm.findClass RX7 = some m.cls := hown
  have hP : va_P Z.1 vwCl (l_Model Z.2.1 Am M.1 M.2.1 M.2.2.1 M.2.2.2.1 M.2.2.2.2.1 M.2.2.2.2.2.1 M.2.2.2.2.2.2.1 M.2.2.2.2.2.2.2.1 M.2.2.2.2.2.2.2.2.1 M.2.2.2.2.2.2.2.2.2.1 M.2.2.2.2.2.2.2.2.2.2.1 M.2.2.2.2.2.2.2.2.2.2.2.1 M.2.2.2.2.2.2.2.2.2.2.2.2.1 M.2.2.2.2.2.2.2.2.2.2.2.2.2.1 M.2.2.2.2.2.2.2.2.2.2.2.2.2.2.1 M.2.2.2.2.2.2.2.2.2.2.2.2.2.2.2.1 M.2.2.2.2.2.2.2.2.2.2.2.2.2.2.2.2.1 M.2.2.2.2.2.2.2.2.2.2.2.2.2.2.2.2.2.1 M.2.2.2.2.2.2.2.2.2.2.2.2.2.2.2.2.2.2).flatten s.heap := hP
  have hD : va_D A (l_Model Z.2.1 Am M.1 M.2.1 M.2.2.1 M.2.2.2.1 M.2.2.2.2.1 M.2.2.2.2.2.1 M.2.2.2.2.2.2.1 M.2.2.2.2.2.2.2.1 M.2.2.2.2.2.2.2.2.1 M.2.2.2.2.2.2.2.2.2.1 M.2.2.2.2.2.2.2.2.2.2.1 M.2.2.2.2.2.2.2.2.2.2.2.1 M.2.2.2.2.2.2.2.2.2.2.2.2.1 M.2.2.2.2.2.2.2.2.2.2.2.2.2.1 M.2.2.2.2.2.2.2.2.2.2.2.2.2.2.1 M.2.2.2.2.2.2.2.2.2.2.2.2.2.2.2.1 M.2.2.2.2.2.2.2.2.2.2.2.2.2.2.2.2.1 M.2.2.2.2.2.2.2.2.2.2.2.2.2.2.2.2.2.1 M.2.2.2.2.2.2.2.2.2.2.2.2.2.2.2.2.2.2).flatten := hD
  refine lv_aload_n hx hb (z_d hX7_mix_0 0 rfl) rfl (lv_at hl 0 rfl) ?_
  refine lv_ldc2 hx hb hown (hts _ k_l_X7_219) (z_d hX7_mix_0 1 rfl) ?_
  refine lv_aload_n hx hb (z_d hX7_mix_0 2 rfl) rfl (lv_at hl 0 rfl) ?_
  refine va_get (D := Z.1) (ci := 7) (v := .long M.2.2.2.2.2.2.2.2.2.2.2.2.2.2.2.2.2.2) (C := RX7) (T := TX7) (N := 19) hx hb hts zinX7 hown hK.1 (zP_reg hP 0 rfl) 0 rfl rfl 18 (by decide) (hts _ k_f_X7_221) (fun _ h9 => h9) rfl (z_d hX7_mix_0 3 rfl) ?_
  refine lv_lmul hx hb (z_d hX7_mix_0 4 rfl) ?_
  refine z_let hF (fun u1 hu1 hF => ?_)
  refine lv_topEl hu1 ?_
  refine lv_iload_n hx hb (z_d hX7_mix_0 5 rfl) rfl (lv_at hl 1 rfl) ?_
  refine lv_i2l (v := p1.toInt64) hx hb (z_d hX7_mix_0 6 rfl) rfl ?_
  refine z_let hF (fun u2 hu2 hF => ?_)
  refine lv_topEl hu2 ?_
  refine lv_ladd hx hb (z_d hX7_mix_0 7 rfl) ?_
  refine z_let hF (fun u3 hu3 hF => ?_)
  refine lv_topEl hu3 ?_
  refine z_put (Z := Z) (ci := 7) (v := .long u3) (ty := .long) (L := l_Model Z.2.1 Am M.1 M.2.1 M.2.2.1 M.2.2.2.1 M.2.2.2.2.1 M.2.2.2.2.2.1 M.2.2.2.2.2.2.1 M.2.2.2.2.2.2.2.1 M.2.2.2.2.2.2.2.2.1 M.2.2.2.2.2.2.2.2.2.1 M.2.2.2.2.2.2.2.2.2.2.1 M.2.2.2.2.2.2.2.2.2.2.2.1 M.2.2.2.2.2.2.2.2.2.2.2.2.1 M.2.2.2.2.2.2.2.2.2.2.2.2.2.1 M.2.2.2.2.2.2.2.2.2.2.2.2.2.2.1 M.2.2.2.2.2.2.2.2.2.2.2.2.2.2.2.1 M.2.2.2.2.2.2.2.2.2.2.2.2.2.2.2.2.1 M.2.2.2.2.2.2.2.2.2.2.2.2.2.2.2.2.2.1 M.2.2.2.2.2.2.2.2.2.2.2.2.2.2.2.2.2.2) (L' := l_Model Z.2.1 Am M.1 M.2.1 M.2.2.1 M.2.2.2.1 M.2.2.2.2.1 M.2.2.2.2.2.1 M.2.2.2.2.2.2.1 M.2.2.2.2.2.2.2.1 M.2.2.2.2.2.2.2.2.1 M.2.2.2.2.2.2.2.2.2.1 M.2.2.2.2.2.2.2.2.2.2.1 M.2.2.2.2.2.2.2.2.2.2.2.1 M.2.2.2.2.2.2.2.2.2.2.2.2.1 M.2.2.2.2.2.2.2.2.2.2.2.2.2.1 M.2.2.2.2.2.2.2.2.2.2.2.2.2.2.1 M.2.2.2.2.2.2.2.2.2.2.2.2.2.2.2.1 M.2.2.2.2.2.2.2.2.2.2.2.2.2.2.2.2.1 M.2.2.2.2.2.2.2.2.2.2.2.2.2.2.2.2.2.1 u3) (C := RX7) (T := TX7) (N := 19) hx hb hts zinX7 tyX7 tyX7_ok nmX7 hown hK hP hD hS 0 rfl rfl 18 (by decide) (hts _ k_f_X7_221) (fun _ h9 => h9) rfl (tyX7_ok 18 (by decide)) rfl rfl (Nat.le_of_ble_eq_true rfl) rfl (z_d hX7_mix_0 8 rfl) (fun H locs hP hD hS => ?_)
  obtain rfl := hF
  subst hQ
  subst hA
  exact W.vret hx hb hr (fun t ht hW => zq_mu (by rw [ht]; exact hP) (hS.F ht)) hS.2.2 (z_d hX7_mix_0 9 rfl)
def rm_X7_digest : Room := { frames := 6, cells := 0, slots := 0, locals := 141 }
set_option maxRecDepth 100000 in
set_option maxHeartbeats 4000000 in
theorem c_X7_digest (l : Launch) (Z : zZ) (Am : Nat → Nat) (M : t_Model) (R : Int64 × t_Model) (hF : X7_digest M = some R) : zMU l yX7_digest (zw yX7_digest cX7_digest 3 (some .long)) rm_X7_digest Z [.ref (Am 0)] (w_Model Z.2.1 Am M) (w_Model Z.2.1 Am R.2) (some (.long R.1)) := by
  refine zMU_of (by decide) (Nat.le_of_ble_eq_true rfl) (fun p e s m below meth c hx hb hr hml hown hts hlocks hK A hA Q hQ ls hl hP hD hS => ?_)
  unfold X7_digest at hF
  have hl : lv_has ls 3 [(0, .ref (Am 0))] := hl
  have hown : s.vm.findClass RX7 = some m.cls := hown
  have hP : va_P Z.1 vwCl (l_Model Z.2.1 Am M.1 M.2.1 M.2.2.1 M.2.2.2.1 M.2.2.2.2.1 M.2.2.2.2.2.1 M.2.2.2.2.2.2.1 M.2.2.2.2.2.2.2.1 M.2.2.2.2.2.2.2.2.1 M.2.2.2.2.2.2.2.2.2.1 M.2.2.2.2.2.2.2.2.2.2.1 M.2.2.2.2.2.2.2.2.2.2.2.1 M.2.2.2.2.2.2.2.2.2.2.2.2.1 M.2.2.2.2.2.2.2.2.2.2.2.2.2.1 M.2.2.2.2.2.2.2.2.2.2.2.2.2.2.1 M.2.2.2.2.2.2.2.2.2.2.2.2.2.2.2.1 M.2.2.2.2.2.2.2.2.2.2.2.2.2.2.2.2.1 M.2.2.2.2.2.2.2.2.2.2.2.2.2.2.2.2.2.1 M.2.2.2.2.2.2.2.2.2.2.2.2.2.2.2.2.2.2).flatten s.heap := hP
  have hD : va_D A (l_Model Z.2.1 Am M.1 M.2.1 M.2.2.1 M.2.2.2.1 M.2.2.2.2.1 M.2.2.2.2.2.1 M.2.2.2.2.2.2.1 M.2.2.2.2.2.2.2.1 M.2.2.2.2.2.2.2.2.1 M.2.2.2.2.2.2.2.2.2.1 M.2.2.2.2.2.2.2.2.2.2.1 M.2.2.2.2.2.2.2.2.2.2.2.1 M.2.2.2.2.2.2.2.2.2.2.2.2.1 M.2.2.2.2.2.2.2.2.2.2.2.2.2.1 M.2.2.2.2.2.2.2.2.2.2.2.2.2.2.1 M.2.2.2.2.2.2.2.2.2.2.2.2.2.2.2.1 M.2.2.2.2.2.2.2.2.2.2.2.2.2.2.2.2.1 M.2.2.2.2.2.2.2.2.2.2.2.2.2.2.2.2.2.1 M.2.2.2.2.2.2.2.2.2.2.2.2.2.2.2.2.2.2).flatten := hD
  have L32 : ∀  (n : Nat) (v : t_Model × Int32) (X : t_Model) (hF : zloop (b_X7_digest_32  ) n v = some X) (H : Heap) (locs : List Loc) (ls : Array Slot) (hP : va_P Z.1 vwCl (l_Model Z.2.1 Am v.1.1 v.1.2.1 v.1.2.2.1 v.1.2.2.2.1 v.1.2.2.2.2.1 v.1.2.2.2.2.2.1 v.1.2.2.2.2.2.2.1 v.1.2.2.2.2.2.2.2.1 v.1.2.2.2.2.2.2.2.2.1 v.1.2.2.2.2.2.2.2.2.2.1 v.1.2.2.2.2.2.2.2.2.2.2.1 v.1.2.2.2.2.2.2.2.2.2.2.2.1 v.1.2.2.2.2.2.2.2.2.2.2.2.2.1 v.1.2.2.2.2.2.2.2.2.2.2.2.2.2.1 v.1.2.2.2.2.2.2.2.2.2.2.2.2.2.2.1 v.1.2.2.2.2.2.2.2.2.2.2.2.2.2.2.2.1 v.1.2.2.2.2.2.2.2.2.2.2.2.2.2.2.2.2.1 v.1.2.2.2.2.2.2.2.2.2.2.2.2.2.2.2.2.2.1 v.1.2.2.2.2.2.2.2.2.2.2.2.2.2.2.2.2.2.2).flatten H) (hD : va_D A (l_Model Z.2.1 Am v.1.1 v.1.2.1 v.1.2.2.1 v.1.2.2.2.1 v.1.2.2.2.2.1 v.1.2.2.2.2.2.1 v.1.2.2.2.2.2.2.1 v.1.2.2.2.2.2.2.2.1 v.1.2.2.2.2.2.2.2.2.1 v.1.2.2.2.2.2.2.2.2.2.1 v.1.2.2.2.2.2.2.2.2.2.2.1 v.1.2.2.2.2.2.2.2.2.2.2.2.1 v.1.2.2.2.2.2.2.2.2.2.2.2.2.1 v.1.2.2.2.2.2.2.2.2.2.2.2.2.2.1 v.1.2.2.2.2.2.2.2.2.2.2.2.2.2.2.1 v.1.2.2.2.2.2.2.2.2.2.2.2.2.2.2.2.1 v.1.2.2.2.2.2.2.2.2.2.2.2.2.2.2.2.2.1 v.1.2.2.2.2.2.2.2.2.2.2.2.2.2.2.2.2.2.1 v.1.2.2.2.2.2.2.2.2.2.2.2.2.2.2.2.2.2.2).flatten) (hS : va_S A s.heap H locs) (hl : lv_has ls 3 [(0, .ref (Am 0)), (1, .int v.2)]) (K1 : ∀ (H : Heap) (locs : List Loc) (ls : Array Slot) (hP : va_P Z.1 vwCl (l_Model Z.2.1 Am X.1 X.2.1 X.2.2.1 X.2.2.2.1 X.2.2.2.2.1 X.2.2.2.2.2.1 X.2.2.2.2.2.2.1 X.2.2.2.2.2.2.2.1 X.2.2.2.2.2.2.2.2.1 X.2.2.2.2.2.2.2.2.2.1 X.2.2.2.2.2.2.2.2.2.2.1 X.2.2.2.2.2.2.2.2.2.2.2.1 X.2.2.2.2.2.2.2.2.2.2.2.2.1 X.2.2.2.2.2.2.2.2.2.2.2.2.2.1 X.2.2.2.2.2.2.2.2.2.2.2.2.2.2.1 X.2.2.2.2.2.2.2.2.2.2.2.2.2.2.2.1 X.2.2.2.2.2.2.2.2.2.2.2.2.2.2.2.2.1 X.2.2.2.2.2.2.2.2.2.2.2.2.2.2.2.2.2.1 X.2.2.2.2.2.2.2.2.2.2.2.2.2.2.2.2.2.2).flatten H) (hD : va_D A (l_Model Z.2.1 Am X.1 X.2.1 X.2.2.1 X.2.2.2.1 X.2.2.2.2.1 X.2.2.2.2.2.1 X.2.2.2.2.2.2.1 X.2.2.2.2.2.2.2.1 X.2.2.2.2.2.2.2.2.1 X.2.2.2.2.2.2.2.2.2.1 X.2.2.2.2.2.2.2.2.2.2.1 X.2.2.2.2.2.2.2.2.2.2.2.1 X.2.2.2.2.2.2.2.2.2.2.2.2.1 X.2.2.2.2.2.2.2.2.2.2.2.2.2.1 X.2.2.2.2.2.2.2.2.2.2.2.2.2.2.1 X.2.2.2.2.2.2.2.2.2.2.2.2.2.2.2.1 X.2.2.2.2.2.2.2.2.2.2.2.2.2.2.2.2.1 X.2.2.2.2.2.2.2.2.2.2.2.2.2.2.2.2.2.1 X.2.2.2.2.2.2.2.2.2.2.2.2.2.2.2.2.2.2).flatten) (hS : va_S A s.heap H locs) (hl : lv_has ls 3 [(0, .ref (Am 0))]), W p l e rm_X7_digest s m ([.ref (Am 0)] : List Value).toArray below meth c H locs 0 0 Q (F0 m 53 ls [])), W p l e rm_X7_digest s m ([.ref (Am 0)] : List Value).toArray below meth c H locs 0 0 Q (F0 m 32 ls []) := by
    skip
    refine z_loopE (fun rec ih v X hF H locs ls hP hD hS hl K1 => ?_)
    unfold b_X7_digest_32 at hF
    refine lv_iload_n hx hb (z_d hX7_digest_0 18 rfl) rfl (lv_at hl 1 rfl) ?_
    refine lv_bipush (v := 8) hx hb (z_d hX7_digest_0 19 rfl) (by decide) ?_
    refine lv_icmp_ge (tgt := 53) hx hb (z_d hX7_digest_0 20 rfl) (by decide) (fun hc35 => ?_) (fun hc35 => ?_)
    · have hF := z_pos hc35 hF
      obtain rfl := Option.some.inj hF
      exact K1 _ _ ls hP hD hS (lv_sub hl [0] rfl)
    · have hF := z_neg hc35 hF
      refine lv_aload_n hx hb (z_d hX7_digest_0 21 rfl) rfl (lv_at hl 0 rfl) ?_
      refine lv_aload_n hx hb (z_d hX7_digest_0 22 rfl) rfl (lv_at hl 0 rfl) ?_
      refine lv_iload_n hx hb (z_d hX7_digest_0 23 rfl) rfl (lv_at hl 1 rfl) ?_
      refine z_bnd hF (fun q4 hq4 hF => ?_)
      refine z_ro_i (z_rV (As := [.int v.2]) (rest := [.ref (Am 0)]) hx hb hml hown hts vt_X7_valueOf (c_X7_valueOf l Z Am v.1 v.2 _ hq4) rfl rfl ⟨Nat.le_of_ble_eq_true rfl, Nat.le_of_ble_eq_true rfl⟩ k_m_X7_174 zPro_blind (z_recv (q := (RX7, TX7, 19)) (ci := 7) (q0 := 0) hK (zP_reg hP 0 rfl) rfl rfl) (z_prec hK hP) rfl hl.1 (Nat.le_of_ble_eq_true rfl) (z_d hX7_digest_0 24 rfl) ⟨Nat.zero_le _, Nat.zero_le _⟩) hS hP (fun H locs hP hS => ?_)
      refine z_let hF (fun q5 hq5 hF => ?_)
      refine z_mu0 (z_rV (As := [.int q4]) (rest := []) hx hb hml hown hts vt_X7_mix (c_X7_mix l Z Am v.1 q4 _ hq5) rfl rfl ⟨Nat.le_of_ble_eq_true rfl, Nat.le_of_ble_eq_true rfl⟩ k_m_X7_227 zPmu_blind (z_recv (q := (RX7, TX7, 19)) (ci := 7) (q0 := 0) hK (zP_reg hP 0 rfl) rfl rfl) (z_prem hK hP hD) rfl hl.1 (Nat.le_of_ble_eq_true rfl) (z_d hX7_digest_0 25 rfl) ⟨Nat.zero_le _, Nat.zero_le _⟩) hS hD (adr_Model _ _ _ _) (fun H locs hP hD hS => ?_)
      have hP : va_P Z.1 vwCl (l_Model Z.2.1 Am q5.1 q5.2.1 q5.2.2.1 q5.2.2.2.1 q5.2.2.2.2.1 q5.2.2.2.2.2.1 q5.2.2.2.2.2.2.1 q5.2.2.2.2.2.2.2.1 q5.2.2.2.2.2.2.2.2.1 q5.2.2.2.2.2.2.2.2.2.1 q5.2.2.2.2.2.2.2.2.2.2.1 q5.2.2.2.2.2.2.2.2.2.2.2.1 q5.2.2.2.2.2.2.2.2.2.2.2.2.1 q5.2.2.2.2.2.2.2.2.2.2.2.2.2.1 q5.2.2.2.2.2.2.2.2.2.2.2.2.2.2.1 q5.2.2.2.2.2.2.2.2.2.2.2.2.2.2.2.1 q5.2.2.2.2.2.2.2.2.2.2.2.2.2.2.2.2.1 q5.2.2.2.2.2.2.2.2.2.2.2.2.2.2.2.2.2.1 q5.2.2.2.2.2.2.2.2.2.2.2.2.2.2.2.2.2.2).flatten H := hP
      have hD : va_D A (l_Model Z.2.1 Am q5.1 q5.2.1 q5.2.2.1 q5.2.2.2.1 q5.2.2.2.2.1 q5.2.2.2.2.2.1 q5.2.2.2.2.2.2.1 q5.2.2.2.2.2.2.2.1 q5.2.2.2.2.2.2.2.2.1 q5.2.2.2.2.2.2.2.2.2.1 q5.2.2.2.2.2.2.2.2.2.2.1 q5.2.2.2.2.2.2.2.2.2.2.2.1 q5.2.2.2.2.2.2.2.2.2.2.2.2.1 q5.2.2.2.2.2.2.2.2.2.2.2.2.2.1 q5.2.2.2.2.2.2.2.2.2.2.2.2.2.2.1 q5.2.2.2.2.2.2.2.2.2.2.2.2.2.2.2.1 q5.2.2.2.2.2.2.2.2.2.2.2.2.2.2.2.2.1 q5.2.2.2.2.2.2.2.2.2.2.2.2.2.2.2.2.2.1 q5.2.2.2.2.2.2.2.2.2.2.2.2.2.2.2.2.2.2).flatten := hD
      refine W.eq (g2 := F0 m 47 ls []) rfl ?_
      refine z_let hF (fun u6 hu6 hF => ?_)
      refine lv_iinc (v := u6) (lv' := [(1, .int u6), (0, .ref (Am 0))]) hx hb (z_d hX7_digest_0 26 rfl) hl (k := 1) rfl (z_inc1 hu6) (by decide) rfl (fun ls hl => ?_)
      refine lv_goto (tgt := 32) hx hb (z_d hX7_digest_0 27 rfl) (by decide) ?_
      exact ih _ _ hF _ _ ls hP hD hS (lv_sub hl [1, 0] rfl) K1
  have L55 : ∀  (n : Nat) (v : t_Model × Int32) (X : t_Model) (hF : zloop (b_X7_digest_55  ) n v = some X) (H : Heap) (locs : List Loc) (ls : Array Slot) (hP : va_P Z.1 vwCl (l_Model Z.2.1 Am v.1.1 v.1.2.1 v.1.2.2.1 v.1.2.2.2.1 v.1.2.2.2.2.1 v.1.2.2.2.2.2.1 v.1.2.2.2.2.2.2.1 v.1.2.2.2.2.2.2.2.1 v.1.2.2.2.2.2.2.2.2.1 v.1.2.2.2.2.2.2.2.2.2.1 v.1.2.2.2.2.2.2.2.2.2.2.1 v.1.2.2.2.2.2.2.2.2.2.2.2.1 v.1.2.2.2.2.2.2.2.2.2.2.2.2.1 v.1.2.2.2.2.2.2.2.2.2.2.2.2.2.1 v.1.2.2.2.2.2.2.2.2.2.2.2.2.2.2.1 v.1.2.2.2.2.2.2.2.2.2.2.2.2.2.2.2.1 v.1.2.2.2.2.2.2.2.2.2.2.2.2.2.2.2.2.1 v.1.2.2.2.2.2.2.2.2.2.2.2.2.2.2.2.2.2.1 v.1.2.2.2.2.2.2.2.2.2.2.2.2.2.2.2.2.2.2).flatten H) (hD : va_D A (l_Model Z.2.1 Am v.1.1 v.1.2.1 v.1.2.2.1 v.1.2.2.2.1 v.1.2.2.2.2.1 v.1.2.2.2.2.2.1 v.1.2.2.2.2.2.2.1 v.1.2.2.2.2.2.2.2.1 v.1.2.2.2.2.2.2.2.2.1 v.1.2.2.2.2.2.2.2.2.2.1 v.1.2.2.2.2.2.2.2.2.2.2.1 v.1.2.2.2.2.2.2.2.2.2.2.2.1 v.1.2.2.2.2.2.2.2.2.2.2.2.2.1 v.1.2.2.2.2.2.2.2.2.2.2.2.2.2.1 v.1.2.2.2.2.2.2.2.2.2.2.2.2.2.2.1 v.1.2.2.2.2.2.2.2.2.2.2.2.2.2.2.2.1 v.1.2.2.2.2.2.2.2.2.2.2.2.2.2.2.2.2.1 v.1.2.2.2.2.2.2.2.2.2.2.2.2.2.2.2.2.2.1 v.1.2.2.2.2.2.2.2.2.2.2.2.2.2.2.2.2.2.2).flatten) (hS : va_S A s.heap H locs) (hl : lv_has ls 3 [(0, .ref (Am 0)), (1, .int v.2)]) (K1 : ∀ (H : Heap) (locs : List Loc) (ls : Array Slot) (hP : va_P Z.1 vwCl (l_Model Z.2.1 Am X.1 X.2.1 X.2.2.1 X.2.2.2.1 X.2.2.2.2.1 X.2.2.2.2.2.1 X.2.2.2.2.2.2.1 X.2.2.2.2.2.2.2.1 X.2.2.2.2.2.2.2.2.1 X.2.2.2.2.2.2.2.2.2.1 X.2.2.2.2.2.2.2.2.2.2.1 X.2.2.2.2.2.2.2.2.2.2.2.1 X.2.2.2.2.2.2.2.2.2.2.2.2.1 X.2.2.2.2.2.2.2.2.2.2.2.2.2.1 X.2.2.2.2.2.2.2.2.2.2.2.2.2.2.1 X.2.2.2.2.2.2.2.2.2.2.2.2.2.2.2.1 X.2.2.2.2.2.2.2.2.2.2.2.2.2.2.2.2.1 X.2.2.2.2.2.2.2.2.2.2.2.2.2.2.2.2.2.1 X.2.2.2.2.2.2.2.2.2.2.2.2.2.2.2.2.2.2).flatten H) (hD : va_D A (l_Model Z.2.1 Am X.1 X.2.1 X.2.2.1 X.2.2.2.1 X.2.2.2.2.1 X.2.2.2.2.2.1 X.2.2.2.2.2.2.1 X.2.2.2.2.2.2.2.1 X.2.2.2.2.2.2.2.2.1 X.2.2.2.2.2.2.2.2.2.1 X.2.2.2.2.2.2.2.2.2.2.1 X.2.2.2.2.2.2.2.2.2.2.2.1 X.2.2.2.2.2.2.2.2.2.2.2.2.1 X.2.2.2.2.2.2.2.2.2.2.2.2.2.1 X.2.2.2.2.2.2.2.2.2.2.2.2.2.2.1 X.2.2.2.2.2.2.2.2.2.2.2.2.2.2.2.1 X.2.2.2.2.2.2.2.2.2.2.2.2.2.2.2.2.1 X.2.2.2.2.2.2.2.2.2.2.2.2.2.2.2.2.2.1 X.2.2.2.2.2.2.2.2.2.2.2.2.2.2.2.2.2.2).flatten) (hS : va_S A s.heap H locs) (hl : lv_has ls 3 [(0, .ref (Am 0))]), W p l e rm_X7_digest s m ([.ref (Am 0)] : List Value).toArray below meth c H locs 0 0 Q (F0 m 90 ls [])), W p l e rm_X7_digest s m ([.ref (Am 0)] : List Value).toArray below meth c H locs 0 0 Q (F0 m 55 ls []) := by
    skip
    refine z_loopE (fun rec ih v X hF H locs ls hP hD hS hl K1 => ?_)
    unfold b_X7_digest_55 at hF
    refine lv_iload_n hx hb (z_d hX7_digest_0 30 rfl) rfl (lv_at hl 1 rfl) ?_
    refine lv_bipush (v := 10) hx hb (z_d hX7_digest_0 31 rfl) (by decide) ?_
    refine lv_aload_n hx hb (z_d hX7_digest_0 32 rfl) rfl (lv_at hl 0 rfl) ?_
    refine va_get (D := Z.1) (ci := 7) (v := .ref (Am 1)) (C := RX7) (T := TX7) (N := 19) hx hb hts zinX7 hown hK.1 (zP_reg hP 0 rfl) 0 rfl rfl 0 (by decide) (hts _ k_f_X7_7) (fun _ h9 => h9) rfl (z_d hX7_digest_0 33 rfl) ?_
    refine lv_iconst (v := 1) hx hb (z_d hX7_digest_0 34 rfl) (by decide) ?_
    refine z_ix hF (fun hin hF => ?_)
    refine va_iald (D := Z.1) (f := v.1.1) hx hb hK.1 (zP_reg hP 1 rfl) 0 0 rfl rfl hin (z_d hX7_digest_0 35 rfl) ?_
    refine z_let hF (fun u8 hu8 hF => ?_)
    refine lv_topE hu8 ?_
    refine lv_imul hx hb (z_d hX7_digest_0 36 rfl) ?_
    refine z_let hF (fun u9 hu9 hF => ?_)
    refine lv_topE hu9 ?_
    refine lv_icmp_ge (tgt := 90) hx hb (z_d hX7_digest_0 37 rfl) (by decide) (fun hc65 => ?_) (fun hc65 => ?_)
    · have hF := z_pos hc65 hF
      obtain rfl := Option.some.inj hF
      exact K1 _ _ ls hP hD hS (lv_sub hl [0] rfl)
    · have hF := z_neg hc65 hF
      refine lv_aload_n hx hb (z_d hX7_digest_0 38 rfl) rfl (lv_at hl 0 rfl) ?_
      refine lv_aload_n hx hb (z_d hX7_digest_0 39 rfl) rfl (lv_at hl 0 rfl) ?_
      refine lv_iload_n hx hb (z_d hX7_digest_0 40 rfl) rfl (lv_at hl 1 rfl) ?_
      refine lv_bipush (v := 10) hx hb (z_d hX7_digest_0 41 rfl) (by decide) ?_
      refine lv_idiv hx hb (z_d hX7_digest_0 42 rfl) (by decide) ?_
      refine z_let hF (fun u10 hu10 hF => ?_)
      refine lv_topE hu10 ?_
      refine lv_iload_n hx hb (z_d hX7_digest_0 43 rfl) rfl (lv_at hl 1 rfl) ?_
      refine lv_bipush (v := 10) hx hb (z_d hX7_digest_0 44 rfl) (by decide) ?_
      refine lv_irem hx hb (z_d hX7_digest_0 45 rfl) (by decide) ?_
      refine z_let hF (fun u11 hu11 hF => ?_)
      refine lv_topE hu11 ?_
      refine z_bnd hF (fun q12 hq12 hF => ?_)
      refine z_ro_i (z_rV (As := [.int u10, .int u11]) (rest := [.ref (Am 0)]) hx hb hml hown hts vt_X7_elementOf (c_X7_elementOf l Z Am v.1 u10 u11 _ hq12) rfl rfl ⟨Nat.le_of_ble_eq_true rfl, Nat.le_of_ble_eq_true rfl⟩ k_m_X7_177 zPro_blind (z_recv (q := (RX7, TX7, 19)) (ci := 7) (q0 := 0) hK (zP_reg hP 0 rfl) rfl rfl) (z_prec hK hP) rfl hl.1 (Nat.le_of_ble_eq_true rfl) (z_d hX7_digest_0 46 rfl) ⟨Nat.zero_le _, Nat.zero_le _⟩) hS hP (fun H locs hP hS => ?_)
      refine z_let hF (fun q13 hq13 hF => ?_)
      refine z_mu0 (z_rV (As := [.int q12]) (rest := []) hx hb hml hown hts vt_X7_mix (c_X7_mix l Z Am v.1 q12 _ hq13) rfl rfl ⟨Nat.le_of_ble_eq_true rfl, Nat.le_of_ble_eq_true rfl⟩ k_m_X7_227 zPmu_blind (z_recv (q := (RX7, TX7, 19)) (ci := 7) (q0 := 0) hK (zP_reg hP 0 rfl) rfl rfl) (z_prem hK hP hD) rfl hl.1 (Nat.le_of_ble_eq_true rfl) (z_d hX7_digest_0 47 rfl) ⟨Nat.zero_le _, Nat.zero_le _⟩) hS hD (adr_Model _ _ _ _) (fun H locs hP hD hS => ?_)
      have hP : va_P Z.1 vwCl (l_Model Z.2.1 Am q13.1 q13.2.1 q13.2.2.1 q13.2.2.2.1 q13.2.2.2.2.1 q13.2.2.2.2.2.1 q13.2.2.2.2.2.2.1 q13.2.2.2.2.2.2.2.1 q13.2.2.2.2.2.2.2.2.1 q13.2.2.2.2.2.2.2.2.2.1 q13.2.2.2.2.2.2.2.2.2.2.1 q13.2.2.2.2.2.2.2.2.2.2.2.1 q13.2.2.2.2.2.2.2.2.2.2.2.2.1 q13.2.2.2.2.2.2.2.2.2.2.2.2.2.1 q13.2.2.2.2.2.2.2.2.2.2.2.2.2.2.1 q13.2.2.2.2.2.2.2.2.2.2.2.2.2.2.2.1 q13.2.2.2.2.2.2.2.2.2.2.2.2.2.2.2.2.1 q13.2.2.2.2.2.2.2.2.2.2.2.2.2.2.2.2.2.1 q13.2.2.2.2.2.2.2.2.2.2.2.2.2.2.2.2.2.2).flatten H := hP
      have hD : va_D A (l_Model Z.2.1 Am q13.1 q13.2.1 q13.2.2.1 q13.2.2.2.1 q13.2.2.2.2.1 q13.2.2.2.2.2.1 q13.2.2.2.2.2.2.1 q13.2.2.2.2.2.2.2.1 q13.2.2.2.2.2.2.2.2.1 q13.2.2.2.2.2.2.2.2.2.1 q13.2.2.2.2.2.2.2.2.2.2.1 q13.2.2.2.2.2.2.2.2.2.2.2.1 q13.2.2.2.2.2.2.2.2.2.2.2.2.1 q13.2.2.2.2.2.2.2.2.2.2.2.2.2.1 q13.2.2.2.2.2.2.2.2.2.2.2.2.2.2.1 q13.2.2.2.2.2.2.2.2.2.2.2.2.2.2.2.1 q13.2.2.2.2.2.2.2.2.2.2.2.2.2.2.2.2.1 q13.2.2.2.2.2.2.2.2.2.2.2.2.2.2.2.2.2.1 q13.2.2.2.2.2.2.2.2.2.2.2.2.2.2.2.2.2.2).flatten := hD
      refine W.eq (g2 := F0 m 84 ls []) rfl ?_
      refine z_let hF (fun u14 hu14 hF => ?_)
      refine lv_iinc (v := u14) (lv' := [(1, .int u14), (0, .ref (Am 0))]) hx hb (z_d hX7_digest_0 48 rfl) hl (k := 1) rfl (z_inc1 hu14) (by decide) rfl (fun ls hl => ?_)
      refine lv_goto (tgt := 55) hx hb (z_d hX7_digest_0 49 rfl) (by decide) ?_
      exact ih _ _ hF _ _ ls hP hD hS (lv_sub hl [1, 0] rfl) K1
  have L97 : ∀ (x1 : Int32) (n : Nat) (v : t_Model × Int32) (X : t_Model) (hF : zloop (b_X7_digest_97  x1) n v = some X) (H : Heap) (locs : List Loc) (ls : Array Slot) (hP : va_P Z.1 vwCl (l_Model Z.2.1 Am v.1.1 v.1.2.1 v.1.2.2.1 v.1.2.2.2.1 v.1.2.2.2.2.1 v.1.2.2.2.2.2.1 v.1.2.2.2.2.2.2.1 v.1.2.2.2.2.2.2.2.1 v.1.2.2.2.2.2.2.2.2.1 v.1.2.2.2.2.2.2.2.2.2.1 v.1.2.2.2.2.2.2.2.2.2.2.1 v.1.2.2.2.2.2.2.2.2.2.2.2.1 v.1.2.2.2.2.2.2.2.2.2.2.2.2.1 v.1.2.2.2.2.2.2.2.2.2.2.2.2.2.1 v.1.2.2.2.2.2.2.2.2.2.2.2.2.2.2.1 v.1.2.2.2.2.2.2.2.2.2.2.2.2.2.2.2.1 v.1.2.2.2.2.2.2.2.2.2.2.2.2.2.2.2.2.1 v.1.2.2.2.2.2.2.2.2.2.2.2.2.2.2.2.2.2.1 v.1.2.2.2.2.2.2.2.2.2.2.2.2.2.2.2.2.2.2).flatten H) (hD : va_D A (l_Model Z.2.1 Am v.1.1 v.1.2.1 v.1.2.2.1 v.1.2.2.2.1 v.1.2.2.2.2.1 v.1.2.2.2.2.2.1 v.1.2.2.2.2.2.2.1 v.1.2.2.2.2.2.2.2.1 v.1.2.2.2.2.2.2.2.2.1 v.1.2.2.2.2.2.2.2.2.2.1 v.1.2.2.2.2.2.2.2.2.2.2.1 v.1.2.2.2.2.2.2.2.2.2.2.2.1 v.1.2.2.2.2.2.2.2.2.2.2.2.2.1 v.1.2.2.2.2.2.2.2.2.2.2.2.2.2.1 v.1.2.2.2.2.2.2.2.2.2.2.2.2.2.2.1 v.1.2.2.2.2.2.2.2.2.2.2.2.2.2.2.2.1 v.1.2.2.2.2.2.2.2.2.2.2.2.2.2.2.2.2.1 v.1.2.2.2.2.2.2.2.2.2.2.2.2.2.2.2.2.2.1 v.1.2.2.2.2.2.2.2.2.2.2.2.2.2.2.2.2.2.2).flatten) (hS : va_S A s.heap H locs) (hl : lv_has ls 3 [(0, .ref (Am 0)), (1, .int x1), (2, .int v.2)]) (K1 : ∀ (H : Heap) (locs : List Loc) (ls : Array Slot) (hP : va_P Z.1 vwCl (l_Model Z.2.1 Am X.1 X.2.1 X.2.2.1 X.2.2.2.1 X.2.2.2.2.1 X.2.2.2.2.2.1 X.2.2.2.2.2.2.1 X.2.2.2.2.2.2.2.1 X.2.2.2.2.2.2.2.2.1 X.2.2.2.2.2.2.2.2.2.1 X.2.2.2.2.2.2.2.2.2.2.1 X.2.2.2.2.2.2.2.2.2.2.2.1 X.2.2.2.2.2.2.2.2.2.2.2.2.1 X.2.2.2.2.2.2.2.2.2.2.2.2.2.1 X.2.2.2.2.2.2.2.2.2.2.2.2.2.2.1 X.2.2.2.2.2.2.2.2.2.2.2.2.2.2.2.1 X.2.2.2.2.2.2.2.2.2.2.2.2.2.2.2.2.1 X.2.2.2.2.2.2.2.2.2.2.2.2.2.2.2.2.2.1 X.2.2.2.2.2.2.2.2.2.2.2.2.2.2.2.2.2.2).flatten H) (hD : va_D A (l_Model Z.2.1 Am X.1 X.2.1 X.2.2.1 X.2.2.2.1 X.2.2.2.2.1 X.2.2.2.2.2.1 X.2.2.2.2.2.2.1 X.2.2.2.2.2.2.2.1 X.2.2.2.2.2.2.2.2.1 X.2.2.2.2.2.2.2.2.2.1 X.2.2.2.2.2.2.2.2.2.2.1 X.2.2.2.2.2.2.2.2.2.2.2.1 X.2.2.2.2.2.2.2.2.2.2.2.2.1 X.2.2.2.2.2.2.2.2.2.2.2.2.2.1 X.2.2.2.2.2.2.2.2.2.2.2.2.2.2.1 X.2.2.2.2.2.2.2.2.2.2.2.2.2.2.2.1 X.2.2.2.2.2.2.2.2.2.2.2.2.2.2.2.2.1 X.2.2.2.2.2.2.2.2.2.2.2.2.2.2.2.2.2.1 X.2.2.2.2.2.2.2.2.2.2.2.2.2.2.2.2.2.2).flatten) (hS : va_S A s.heap H locs) (hl : lv_has ls 3 [(0, .ref (Am 0))]), W p l e rm_X7_digest s m ([.ref (Am 0)] : List Value).toArray below meth c H locs 0 0 Q (F0 m 127 ls [])), W p l e rm_X7_digest s m ([.ref (Am 0)] : List Value).toArray below meth c H locs 0 0 Q (F0 m 97 ls []) := by
    intro x1
    refine z_loopE (fun rec ih v X hF H locs ls hP hD hS hl K1 => ?_)
    unfold b_X7_digest_97 at hF
    refine lv_iload_n hx hb (z_d hX7_digest_0 55 rfl) rfl (lv_at hl 2 rfl) ?_
    refine lv_bipush (v := 10) hx hb (z_d hX7_digest_0 56 rfl) (by decide) ?_
    refine lv_iload_n hx hb (z_d hX7_digest_0 57 rfl) rfl (lv_at hl 1 rfl) ?_
    refine lv_imul hx hb (z_d hX7_digest_0 58 rfl) ?_
    refine z_let hF (fun u17 hu17 hF => ?_)
    refine lv_topE hu17 ?_
    refine lv_icmp_ge (tgt := 127) hx hb (z_d hX7_digest_0 59 rfl) (by decide) (fun hc102 => ?_) (fun hc102 => ?_)
    · have hF := z_pos hc102 hF
      obtain rfl := Option.some.inj hF
      exact K1 _ _ ls hP hD hS (lv_sub hl [0] rfl)
    · have hF := z_neg hc102 hF
      refine lv_aload_n hx hb (z_d hX7_digest_1 0 rfl) rfl (lv_at hl 0 rfl) ?_
      refine lv_aload_n hx hb (z_d hX7_digest_1 1 rfl) rfl (lv_at hl 0 rfl) ?_
      refine lv_iload_n hx hb (z_d hX7_digest_1 2 rfl) rfl (lv_at hl 2 rfl) ?_
      refine lv_bipush (v := 10) hx hb (z_d hX7_digest_1 3 rfl) (by decide) ?_
      refine lv_idiv hx hb (z_d hX7_digest_1 4 rfl) (by decide) ?_
      refine z_let hF (fun u18 hu18 hF => ?_)
      refine lv_topE hu18 ?_
      refine lv_iload_n hx hb (z_d hX7_digest_1 5 rfl) rfl (lv_at hl 2 rfl) ?_
      refine lv_bipush (v := 10) hx hb (z_d hX7_digest_1 6 rfl) (by decide) ?_
      refine lv_irem hx hb (z_d hX7_digest_1 7 rfl) (by decide) ?_
      refine z_let hF (fun u19 hu19 hF => ?_)
      refine lv_topE hu19 ?_
      refine z_bnd hF (fun q20 hq20 hF => ?_)
      refine z_ro_i (z_rV (As := [.int u18, .int u19]) (rest := [.ref (Am 0)]) hx hb hml hown hts vt_X7_sceneTold (c_X7_sceneTold l Z Am v.1 u18 u19 _ hq20) rfl rfl ⟨Nat.le_of_ble_eq_true rfl, Nat.le_of_ble_eq_true rfl⟩ k_m_X7_180 zPro_blind (z_recv (q := (RX7, TX7, 19)) (ci := 7) (q0 := 0) hK (zP_reg hP 0 rfl) rfl rfl) (z_prec hK hP) rfl hl.1 (Nat.le_of_ble_eq_true rfl) (z_d hX7_digest_1 8 rfl) ⟨Nat.zero_le _, Nat.zero_le _⟩) hS hP (fun H locs hP hS => ?_)
      refine z_let hF (fun q21 hq21 hF => ?_)
      refine z_mu0 (z_rV (As := [.int q20]) (rest := []) hx hb hml hown hts vt_X7_mix (c_X7_mix l Z Am v.1 q20 _ hq21) rfl rfl ⟨Nat.le_of_ble_eq_true rfl, Nat.le_of_ble_eq_true rfl⟩ k_m_X7_227 zPmu_blind (z_recv (q := (RX7, TX7, 19)) (ci := 7) (q0 := 0) hK (zP_reg hP 0 rfl) rfl rfl) (z_prem hK hP hD) rfl hl.1 (Nat.le_of_ble_eq_true rfl) (z_d hX7_digest_1 9 rfl) ⟨Nat.zero_le _, Nat.zero_le _⟩) hS hD (adr_Model _ _ _ _) (fun H locs hP hD hS => ?_)
      have hP : va_P Z.1 vwCl (l_Model Z.2.1 Am q21.1 q21.2.1 q21.2.2.1 q21.2.2.2.1 q21.2.2.2.2.1 q21.2.2.2.2.2.1 q21.2.2.2.2.2.2.1 q21.2.2.2.2.2.2.2.1 q21.2.2.2.2.2.2.2.2.1 q21.2.2.2.2.2.2.2.2.2.1 q21.2.2.2.2.2.2.2.2.2.2.1 q21.2.2.2.2.2.2.2.2.2.2.2.1 q21.2.2.2.2.2.2.2.2.2.2.2.2.1 q21.2.2.2.2.2.2.2.2.2.2.2.2.2.1 q21.2.2.2.2.2.2.2.2.2.2.2.2.2.2.1 q21.2.2.2.2.2.2.2.2.2.2.2.2.2.2.2.1 q21.2.2.2.2.2.2.2.2.2.2.2.2.2.2.2.2.1 q21.2.2.2.2.2.2.2.2.2.2.2.2.2.2.2.2.2.1 q21.2.2.2.2.2.2.2.2.2.2.2.2.2.2.2.2.2.2).flatten H := hP
      have hD : va_D A (l_Model Z.2.1 Am q21.1 q21.2.1 q21.2.2.1 q21.2.2.2.1 q21.2.2.2.2.1 q21.2.2.2.2.2.1 q21.2.2.2.2.2.2.1 q21.2.2.2.2.2.2.2.1 q21.2.2.2.2.2.2.2.2.1 q21.2.2.2.2.2.2.2.2.2.1 q21.2.2.2.2.2.2.2.2.2.2.1 q21.2.2.2.2.2.2.2.2.2.2.2.1 q21.2.2.2.2.2.2.2.2.2.2.2.2.1 q21.2.2.2.2.2.2.2.2.2.2.2.2.2.1 q21.2.2.2.2.2.2.2.2.2.2.2.2.2.2.1 q21.2.2.2.2.2.2.2.2.2.2.2.2.2.2.2.1 q21.2.2.2.2.2.2.2.2.2.2.2.2.2.2.2.2.1 q21.2.2.2.2.2.2.2.2.2.2.2.2.2.2.2.2.2.1 q21.2.2.2.2.2.2.2.2.2.2.2.2.2.2.2.2.2.2).flatten := hD
      refine W.eq (g2 := F0 m 121 ls []) rfl ?_
      refine z_let hF (fun u22 hu22 hF => ?_)
      refine lv_iinc (v := u22) (lv' := [(2, .int u22), (0, .ref (Am 0)), (1, .int x1)]) hx hb (z_d hX7_digest_1 10 rfl) hl (k := 2) rfl (z_inc1 hu22) (by decide) rfl (fun ls hl => ?_)
      refine lv_goto (tgt := 97) hx hb (z_d hX7_digest_1 11 rfl) (by decide) ?_
      exact ih _ _ hF _ _ ls hP hD hS (lv_sub hl [1, 2, 0] rfl) K1
  have L129 : ∀  (n : Nat) (v : t_Model × Int32) (X : t_Model) (hF : zloop (b_X7_digest_129  ) n v = some X) (H : Heap) (locs : List Loc) (ls : Array Slot) (hP : va_P Z.1 vwCl (l_Model Z.2.1 Am v.1.1 v.1.2.1 v.1.2.2.1 v.1.2.2.2.1 v.1.2.2.2.2.1 v.1.2.2.2.2.2.1 v.1.2.2.2.2.2.2.1 v.1.2.2.2.2.2.2.2.1 v.1.2.2.2.2.2.2.2.2.1 v.1.2.2.2.2.2.2.2.2.2.1 v.1.2.2.2.2.2.2.2.2.2.2.1 v.1.2.2.2.2.2.2.2.2.2.2.2.1 v.1.2.2.2.2.2.2.2.2.2.2.2.2.1 v.1.2.2.2.2.2.2.2.2.2.2.2.2.2.1 v.1.2.2.2.2.2.2.2.2.2.2.2.2.2.2.1 v.1.2.2.2.2.2.2.2.2.2.2.2.2.2.2.2.1 v.1.2.2.2.2.2.2.2.2.2.2.2.2.2.2.2.2.1 v.1.2.2.2.2.2.2.2.2.2.2.2.2.2.2.2.2.2.1 v.1.2.2.2.2.2.2.2.2.2.2.2.2.2.2.2.2.2.2).flatten H) (hD : va_D A (l_Model Z.2.1 Am v.1.1 v.1.2.1 v.1.2.2.1 v.1.2.2.2.1 v.1.2.2.2.2.1 v.1.2.2.2.2.2.1 v.1.2.2.2.2.2.2.1 v.1.2.2.2.2.2.2.2.1 v.1.2.2.2.2.2.2.2.2.1 v.1.2.2.2.2.2.2.2.2.2.1 v.1.2.2.2.2.2.2.2.2.2.2.1 v.1.2.2.2.2.2.2.2.2.2.2.2.1 v.1.2.2.2.2.2.2.2.2.2.2.2.2.1 v.1.2.2.2.2.2.2.2.2.2.2.2.2.2.1 v.1.2.2.2.2.2.2.2.2.2.2.2.2.2.2.1 v.1.2.2.2.2.2.2.2.2.2.2.2.2.2.2.2.1 v.1.2.2.2.2.2.2.2.2.2.2.2.2.2.2.2.2.1 v.1.2.2.2.2.2.2.2.2.2.2.2.2.2.2.2.2.2.1 v.1.2.2.2.2.2.2.2.2.2.2.2.2.2.2.2.2.2.2).flatten) (hS : va_S A s.heap H locs) (hl : lv_has ls 3 [(0, .ref (Am 0)), (2, .int v.2)]) (K1 : ∀ (H : Heap) (locs : List Loc) (ls : Array Slot) (hP : va_P Z.1 vwCl (l_Model Z.2.1 Am X.1 X.2.1 X.2.2.1 X.2.2.2.1 X.2.2.2.2.1 X.2.2.2.2.2.1 X.2.2.2.2.2.2.1 X.2.2.2.2.2.2.2.1 X.2.2.2.2.2.2.2.2.1 X.2.2.2.2.2.2.2.2.2.1 X.2.2.2.2.2.2.2.2.2.2.1 X.2.2.2.2.2.2.2.2.2.2.2.1 X.2.2.2.2.2.2.2.2.2.2.2.2.1 X.2.2.2.2.2.2.2.2.2.2.2.2.2.1 X.2.2.2.2.2.2.2.2.2.2.2.2.2.2.1 X.2.2.2.2.2.2.2.2.2.2.2.2.2.2.2.1 X.2.2.2.2.2.2.2.2.2.2.2.2.2.2.2.2.1 X.2.2.2.2.2.2.2.2.2.2.2.2.2.2.2.2.2.1 X.2.2.2.2.2.2.2.2.2.2.2.2.2.2.2.2.2.2).flatten H) (hD : va_D A (l_Model Z.2.1 Am X.1 X.2.1 X.2.2.1 X.2.2.2.1 X.2.2.2.2.1 X.2.2.2.2.2.1 X.2.2.2.2.2.2.1 X.2.2.2.2.2.2.2.1 X.2.2.2.2.2.2.2.2.1 X.2.2.2.2.2.2.2.2.2.1 X.2.2.2.2.2.2.2.2.2.2.1 X.2.2.2.2.2.2.2.2.2.2.2.1 X.2.2.2.2.2.2.2.2.2.2.2.2.1 X.2.2.2.2.2.2.2.2.2.2.2.2.2.1 X.2.2.2.2.2.2.2.2.2.2.2.2.2.2.1 X.2.2.2.2.2.2.2.2.2.2.2.2.2.2.2.1 X.2.2.2.2.2.2.2.2.2.2.2.2.2.2.2.2.1 X.2.2.2.2.2.2.2.2.2.2.2.2.2.2.2.2.2.1 X.2.2.2.2.2.2.2.2.2.2.2.2.2.2.2.2.2.2).flatten) (hS : va_S A s.heap H locs) (hl : lv_has ls 3 [(0, .ref (Am 0))]), W p l e rm_X7_digest s m ([.ref (Am 0)] : List Value).toArray below meth c H locs 0 0 Q (F0 m 159 ls [])), W p l e rm_X7_digest s m ([.ref (Am 0)] : List Value).toArray below meth c H locs 0 0 Q (F0 m 129 ls []) := by
    skip
    refine z_loopE (fun rec ih v X hF H locs ls hP hD hS hl K1 => ?_)
    unfold b_X7_digest_129 at hF
    refine lv_iload_n hx hb (z_d hX7_digest_1 14 rfl) rfl (lv_at hl 1 rfl) ?_
    refine lv_iconst (v := 5) hx hb (z_d hX7_digest_1 15 rfl) (by decide) ?_
    refine lv_aload_n hx hb (z_d hX7_digest_1 16 rfl) rfl (lv_at hl 0 rfl) ?_
    refine va_get (D := Z.1) (ci := 7) (v := .int v.1.2.2.2.2.2.2.2.1) (C := RX7) (T := TX7) (N := 19) hx hb hts zinX7 hown hK.1 (zP_reg hP 0 rfl) 0 rfl rfl 7 (by decide) (hts _ k_f_X7_101) (fun _ h9 => h9) rfl (z_d hX7_digest_1 17 rfl) ?_
    refine lv_imul hx hb (z_d hX7_digest_1 18 rfl) ?_
    refine z_let hF (fun u24 hu24 hF => ?_)
    refine lv_topE hu24 ?_
    refine lv_icmp_ge (tgt := 159) hx hb (z_d hX7_digest_1 19 rfl) (by decide) (fun hc136 => ?_) (fun hc136 => ?_)
    · have hF := z_pos hc136 hF
      obtain rfl := Option.some.inj hF
      exact K1 _ _ ls hP hD hS (lv_sub hl [0] rfl)
    · have hF := z_neg hc136 hF
      refine lv_aload_n hx hb (z_d hX7_digest_1 20 rfl) rfl (lv_at hl 0 rfl) ?_
      refine lv_aload_n hx hb (z_d hX7_digest_1 21 rfl) rfl (lv_at hl 0 rfl) ?_
      refine lv_iload_n hx hb (z_d hX7_digest_1 22 rfl) rfl (lv_at hl 1 rfl) ?_
      refine lv_iconst (v := 5) hx hb (z_d hX7_digest_1 23 rfl) (by decide) ?_
      refine lv_idiv hx hb (z_d hX7_digest_1 24 rfl) (by decide) ?_
      refine z_let hF (fun u25 hu25 hF => ?_)
      refine lv_topE hu25 ?_
      refine lv_iload_n hx hb (z_d hX7_digest_1 25 rfl) rfl (lv_at hl 1 rfl) ?_
      refine lv_iconst (v := 5) hx hb (z_d hX7_digest_1 26 rfl) (by decide) ?_
      refine lv_irem hx hb (z_d hX7_digest_1 27 rfl) (by decide) ?_
      refine z_let hF (fun u26 hu26 hF => ?_)
      refine lv_topE hu26 ?_
      refine z_bnd hF (fun q27 hq27 hF => ?_)
      refine z_ro_i (z_rV (As := [.int u25, .int u26]) (rest := [.ref (Am 0)]) hx hb hml hown hts vt_X7_pageTold (c_X7_pageTold l Z Am v.1 u25 u26 _ hq27) rfl rfl ⟨Nat.le_of_ble_eq_true rfl, Nat.le_of_ble_eq_true rfl⟩ k_m_X7_186 zPro_blind (z_recv (q := (RX7, TX7, 19)) (ci := 7) (q0 := 0) hK (zP_reg hP 0 rfl) rfl rfl) (z_prec hK hP) rfl hl.1 (Nat.le_of_ble_eq_true rfl) (z_d hX7_digest_1 28 rfl) ⟨Nat.zero_le _, Nat.zero_le _⟩) hS hP (fun H locs hP hS => ?_)
      refine z_let hF (fun q28 hq28 hF => ?_)
      refine z_mu0 (z_rV (As := [.int q27]) (rest := []) hx hb hml hown hts vt_X7_mix (c_X7_mix l Z Am v.1 q27 _ hq28) rfl rfl ⟨Nat.le_of_ble_eq_true rfl, Nat.le_of_ble_eq_true rfl⟩ k_m_X7_227 zPmu_blind (z_recv (q := (RX7, TX7, 19)) (ci := 7) (q0 := 0) hK (zP_reg hP 0 rfl) rfl rfl) (z_prem hK hP hD) rfl hl.1 (Nat.le_of_ble_eq_true rfl) (z_d hX7_digest_1 29 rfl) ⟨Nat.zero_le _, Nat.zero_le _⟩) hS hD (adr_Model _ _ _ _) (fun H locs hP hD hS => ?_)
      have hP : va_P Z.1 vwCl (l_Model Z.2.1 Am q28.1 q28.2.1 q28.2.2.1 q28.2.2.2.1 q28.2.2.2.2.1 q28.2.2.2.2.2.1 q28.2.2.2.2.2.2.1 q28.2.2.2.2.2.2.2.1 q28.2.2.2.2.2.2.2.2.1 q28.2.2.2.2.2.2.2.2.2.1 q28.2.2.2.2.2.2.2.2.2.2.1 q28.2.2.2.2.2.2.2.2.2.2.2.1 q28.2.2.2.2.2.2.2.2.2.2.2.2.1 q28.2.2.2.2.2.2.2.2.2.2.2.2.2.1 q28.2.2.2.2.2.2.2.2.2.2.2.2.2.2.1 q28.2.2.2.2.2.2.2.2.2.2.2.2.2.2.2.1 q28.2.2.2.2.2.2.2.2.2.2.2.2.2.2.2.2.1 q28.2.2.2.2.2.2.2.2.2.2.2.2.2.2.2.2.2.1 q28.2.2.2.2.2.2.2.2.2.2.2.2.2.2.2.2.2.2).flatten H := hP
      have hD : va_D A (l_Model Z.2.1 Am q28.1 q28.2.1 q28.2.2.1 q28.2.2.2.1 q28.2.2.2.2.1 q28.2.2.2.2.2.1 q28.2.2.2.2.2.2.1 q28.2.2.2.2.2.2.2.1 q28.2.2.2.2.2.2.2.2.1 q28.2.2.2.2.2.2.2.2.2.1 q28.2.2.2.2.2.2.2.2.2.2.1 q28.2.2.2.2.2.2.2.2.2.2.2.1 q28.2.2.2.2.2.2.2.2.2.2.2.2.1 q28.2.2.2.2.2.2.2.2.2.2.2.2.2.1 q28.2.2.2.2.2.2.2.2.2.2.2.2.2.2.1 q28.2.2.2.2.2.2.2.2.2.2.2.2.2.2.2.1 q28.2.2.2.2.2.2.2.2.2.2.2.2.2.2.2.2.1 q28.2.2.2.2.2.2.2.2.2.2.2.2.2.2.2.2.2.1 q28.2.2.2.2.2.2.2.2.2.2.2.2.2.2.2.2.2.2).flatten := hD
      refine W.eq (g2 := F0 m 153 ls []) rfl ?_
      refine z_let hF (fun u29 hu29 hF => ?_)
      refine lv_iinc (v := u29) (lv' := [(2, .int u29), (0, .ref (Am 0))]) hx hb (z_d hX7_digest_1 30 rfl) hl (k := 1) rfl (z_inc1 hu29) (by decide) rfl (fun ls hl => ?_)
      refine lv_goto (tgt := 129) hx hb (z_d hX7_digest_1 31 rfl) (by decide) ?_
      exact ih _ _ hF _ _ ls hP hD hS (lv_sub hl [1, 0] rfl) K1
  refine lv_aload_n hx hb (z_d hX7_digest_0 0 rfl) rfl (lv_at hl 0 rfl) ?_
  refine lv_iconst (v := 0) hx hb (z_d hX7_digest_0 1 rfl) (by decide) ?_
  refine z_put (Z := Z) (ci := 7) (v := .int 0) (ty := .int) (L := l_Model Z.2.1 Am M.1 M.2.1 M.2.2.1 M.2.2.2.1 M.2.2.2.2.1 M.2.2.2.2.2.1 M.2.2.2.2.2.2.1 M.2.2.2.2.2.2.2.1 M.2.2.2.2.2.2.2.2.1 M.2.2.2.2.2.2.2.2.2.1 M.2.2.2.2.2.2.2.2.2.2.1 M.2.2.2.2.2.2.2.2.2.2.2.1 M.2.2.2.2.2.2.2.2.2.2.2.2.1 M.2.2.2.2.2.2.2.2.2.2.2.2.2.1 M.2.2.2.2.2.2.2.2.2.2.2.2.2.2.1 M.2.2.2.2.2.2.2.2.2.2.2.2.2.2.2.1 M.2.2.2.2.2.2.2.2.2.2.2.2.2.2.2.2.1 M.2.2.2.2.2.2.2.2.2.2.2.2.2.2.2.2.2.1 M.2.2.2.2.2.2.2.2.2.2.2.2.2.2.2.2.2.2) (L' := l_Model Z.2.1 Am M.1 M.2.1 M.2.2.1 M.2.2.2.1 M.2.2.2.2.1 M.2.2.2.2.2.1 0 M.2.2.2.2.2.2.2.1 M.2.2.2.2.2.2.2.2.1 M.2.2.2.2.2.2.2.2.2.1 M.2.2.2.2.2.2.2.2.2.2.1 M.2.2.2.2.2.2.2.2.2.2.2.1 M.2.2.2.2.2.2.2.2.2.2.2.2.1 M.2.2.2.2.2.2.2.2.2.2.2.2.2.1 M.2.2.2.2.2.2.2.2.2.2.2.2.2.2.1 M.2.2.2.2.2.2.2.2.2.2.2.2.2.2.2.1 M.2.2.2.2.2.2.2.2.2.2.2.2.2.2.2.2.1 M.2.2.2.2.2.2.2.2.2.2.2.2.2.2.2.2.2.1 M.2.2.2.2.2.2.2.2.2.2.2.2.2.2.2.2.2.2) (C := RX7) (T := TX7) (N := 19) hx hb hts zinX7 tyX7 tyX7_ok nmX7 hown hK hP hD hS 0 rfl rfl 6 (by decide) (hts _ k_f_X7_43) (fun _ h9 => h9) rfl (tyX7_ok 6 (by decide)) rfl rfl (Nat.le_of_ble_eq_true rfl) rfl (z_d hX7_digest_0 2 rfl) (fun H locs hP hD hS => ?_)
  refine lv_aload_n hx hb (z_d hX7_digest_0 3 rfl) rfl (lv_at hl 0 rfl) ?_
  refine lv_aload_n hx hb (z_d hX7_digest_0 4 rfl) rfl (lv_at hl 0 rfl) ?_
  refine va_get (D := Z.1) (ci := 7) (v := .ref (Am 1)) (C := RX7) (T := TX7) (N := 19) hx hb hts zinX7 hown hK.1 (zP_reg hP 0 rfl) 0 rfl rfl 0 (by decide) (hts _ k_f_X7_7) (fun _ h9 => h9) rfl (z_d hX7_digest_0 5 rfl) ?_
  refine lv_iconst (v := 0) hx hb (z_d hX7_digest_0 6 rfl) (by decide) ?_
  refine z_ix hF (fun hin hF => ?_)
  refine va_iald (D := Z.1) (f := M.1) hx hb hK.1 (zP_reg hP 1 rfl) 0 0 rfl rfl hin (z_d hX7_digest_0 7 rfl) ?_
  refine z_let hF (fun u1 hu1 hF => ?_)
  refine lv_topE hu1 ?_
  refine z_bnd hF (fun q2 hq2 hF => ?_)
  refine z_mu0 (z_rV (As := [.int u1]) (rest := []) hx hb hml hown hts vt_X7_setsAll (c_X7_setsAll l Z Am (M.1, M.2.1, M.2.2.1, M.2.2.2.1, M.2.2.2.2.1, M.2.2.2.2.2.1, 0, M.2.2.2.2.2.2.2.1, M.2.2.2.2.2.2.2.2.1, M.2.2.2.2.2.2.2.2.2.1, M.2.2.2.2.2.2.2.2.2.2.1, M.2.2.2.2.2.2.2.2.2.2.2.1, M.2.2.2.2.2.2.2.2.2.2.2.2.1, M.2.2.2.2.2.2.2.2.2.2.2.2.2.1, M.2.2.2.2.2.2.2.2.2.2.2.2.2.2.1, M.2.2.2.2.2.2.2.2.2.2.2.2.2.2.2.1, M.2.2.2.2.2.2.2.2.2.2.2.2.2.2.2.2.1, M.2.2.2.2.2.2.2.2.2.2.2.2.2.2.2.2.2.1, M.2.2.2.2.2.2.2.2.2.2.2.2.2.2.2.2.2.2) u1 _ hq2) rfl rfl ⟨Nat.le_of_ble_eq_true rfl, Nat.le_of_ble_eq_true rfl⟩ k_m_X7_117 zPmu_blind (z_recv (q := (RX7, TX7, 19)) (ci := 7) (q0 := 0) hK (zP_reg hP 0 rfl) rfl rfl) (z_prem hK hP hD) rfl hl.1 (Nat.le_of_ble_eq_true rfl) (z_d hX7_digest_0 8 rfl) ⟨Nat.zero_le _, Nat.zero_le _⟩) hS hD (adr_Model _ _ _ _) (fun H locs hP hD hS => ?_)
  have hP : va_P Z.1 vwCl (l_Model Z.2.1 Am q2.1 q2.2.1 q2.2.2.1 q2.2.2.2.1 q2.2.2.2.2.1 q2.2.2.2.2.2.1 q2.2.2.2.2.2.2.1 q2.2.2.2.2.2.2.2.1 q2.2.2.2.2.2.2.2.2.1 q2.2.2.2.2.2.2.2.2.2.1 q2.2.2.2.2.2.2.2.2.2.2.1 q2.2.2.2.2.2.2.2.2.2.2.2.1 q2.2.2.2.2.2.2.2.2.2.2.2.2.1 q2.2.2.2.2.2.2.2.2.2.2.2.2.2.1 q2.2.2.2.2.2.2.2.2.2.2.2.2.2.2.1 q2.2.2.2.2.2.2.2.2.2.2.2.2.2.2.2.1 q2.2.2.2.2.2.2.2.2.2.2.2.2.2.2.2.2.1 q2.2.2.2.2.2.2.2.2.2.2.2.2.2.2.2.2.2.1 q2.2.2.2.2.2.2.2.2.2.2.2.2.2.2.2.2.2.2).flatten H := hP
  have hD : va_D A (l_Model Z.2.1 Am q2.1 q2.2.1 q2.2.2.1 q2.2.2.2.1 q2.2.2.2.2.1 q2.2.2.2.2.2.1 q2.2.2.2.2.2.2.1 q2.2.2.2.2.2.2.2.1 q2.2.2.2.2.2.2.2.2.1 q2.2.2.2.2.2.2.2.2.2.1 q2.2.2.2.2.2.2.2.2.2.2.1 q2.2.2.2.2.2.2.2.2.2.2.2.1 q2.2.2.2.2.2.2.2.2.2.2.2.2.1 q2.2.2.2.2.2.2.2.2.2.2.2.2.2.1 q2.2.2.2.2.2.2.2.2.2.2.2.2.2.2.1 q2.2.2.2.2.2.2.2.2.2.2.2.2.2.2.2.1 q2.2.2.2.2.2.2.2.2.2.2.2.2.2.2.2.2.1 q2.2.2.2.2.2.2.2.2.2.2.2.2.2.2.2.2.2.1 q2.2.2.2.2.2.2.2.2.2.2.2.2.2.2.2.2.2.2).flatten := hD
  refine W.eq (g2 := F0 m 15 ls []) rfl ?_
  refine lv_aload_n hx hb (z_d hX7_digest_0 9 rfl) rfl (lv_at hl 0 rfl) ?_
  refine lv_ldc2 hx hb hown (hts _ k_l_X7_225) (z_d hX7_digest_0 10 rfl) ?_
  refine z_put (Z := Z) (ci := 7) (v := .long 3331) (ty := .long) (L := l_Model Z.2.1 Am q2.1 q2.2.1 q2.2.2.1 q2.2.2.2.1 q2.2.2.2.2.1 q2.2.2.2.2.2.1 q2.2.2.2.2.2.2.1 q2.2.2.2.2.2.2.2.1 q2.2.2.2.2.2.2.2.2.1 q2.2.2.2.2.2.2.2.2.2.1 q2.2.2.2.2.2.2.2.2.2.2.1 q2.2.2.2.2.2.2.2.2.2.2.2.1 q2.2.2.2.2.2.2.2.2.2.2.2.2.1 q2.2.2.2.2.2.2.2.2.2.2.2.2.2.1 q2.2.2.2.2.2.2.2.2.2.2.2.2.2.2.1 q2.2.2.2.2.2.2.2.2.2.2.2.2.2.2.2.1 q2.2.2.2.2.2.2.2.2.2.2.2.2.2.2.2.2.1 q2.2.2.2.2.2.2.2.2.2.2.2.2.2.2.2.2.2.1 q2.2.2.2.2.2.2.2.2.2.2.2.2.2.2.2.2.2.2) (L' := l_Model Z.2.1 Am q2.1 q2.2.1 q2.2.2.1 q2.2.2.2.1 q2.2.2.2.2.1 q2.2.2.2.2.2.1 q2.2.2.2.2.2.2.1 q2.2.2.2.2.2.2.2.1 q2.2.2.2.2.2.2.2.2.1 q2.2.2.2.2.2.2.2.2.2.1 q2.2.2.2.2.2.2.2.2.2.2.1 q2.2.2.2.2.2.2.2.2.2.2.2.1 q2.2.2.2.2.2.2.2.2.2.2.2.2.1 q2.2.2.2.2.2.2.2.2.2.2.2.2.2.1 q2.2.2.2.2.2.2.2.2.2.2.2.2.2.2.1 q2.2.2.2.2.2.2.2.2.2.2.2.2.2.2.2.1 q2.2.2.2.2.2.2.2.2.2.2.2.2.2.2.2.2.1 q2.2.2.2.2.2.2.2.2.2.2.2.2.2.2.2.2.2.1 3331) (C := RX7) (T := TX7) (N := 19) hx hb hts zinX7 tyX7 tyX7_ok nmX7 hown hK hP hD hS 0 rfl rfl 18 (by decide) (hts _ k_f_X7_221) (fun _ h9 => h9) rfl (tyX7_ok 18 (by decide)) rfl rfl (Nat.le_of_ble_eq_true rfl) rfl (z_d hX7_digest_0 11 rfl) (fun H locs hP hD hS => ?_)
  refine lv_aload_n hx hb (z_d hX7_digest_0 12 rfl) rfl (lv_at hl 0 rfl) ?_
  refine lv_aload_n hx hb (z_d hX7_digest_0 13 rfl) rfl (lv_at hl 0 rfl) ?_
  refine va_get (D := Z.1) (ci := 7) (v := .int q2.2.2.2.2.2.1) (C := RX7) (T := TX7) (N := 19) hx hb hts zinX7 hown hK.1 (zP_reg hP 0 rfl) 0 rfl rfl 5 (by decide) (hts _ k_f_X7_195) (fun _ h9 => h9) rfl (z_d hX7_digest_0 14 rfl) ?_
  refine z_let hF (fun q3 hq3 hF => ?_)
  refine z_mu0 (z_rV (As := [.int q2.2.2.2.2.2.1]) (rest := []) hx hb hml hown hts vt_X7_mix (c_X7_mix l Z Am (q2.1, q2.2.1, q2.2.2.1, q2.2.2.2.1, q2.2.2.2.2.1, q2.2.2.2.2.2.1, q2.2.2.2.2.2.2.1, q2.2.2.2.2.2.2.2.1, q2.2.2.2.2.2.2.2.2.1, q2.2.2.2.2.2.2.2.2.2.1, q2.2.2.2.2.2.2.2.2.2.2.1, q2.2.2.2.2.2.2.2.2.2.2.2.1, q2.2.2.2.2.2.2.2.2.2.2.2.2.1, q2.2.2.2.2.2.2.2.2.2.2.2.2.2.1, q2.2.2.2.2.2.2.2.2.2.2.2.2.2.2.1, q2.2.2.2.2.2.2.2.2.2.2.2.2.2.2.2.1, q2.2.2.2.2.2.2.2.2.2.2.2.2.2.2.2.2.1, q2.2.2.2.2.2.2.2.2.2.2.2.2.2.2.2.2.2.1, 3331) q2.2.2.2.2.2.1 _ hq3) rfl rfl ⟨Nat.le_of_ble_eq_true rfl, Nat.le_of_ble_eq_true rfl⟩ k_m_X7_227 zPmu_blind (z_recv (q := (RX7, TX7, 19)) (ci := 7) (q0 := 0) hK (zP_reg hP 0 rfl) rfl rfl) (z_prem hK hP hD) rfl hl.1 (Nat.le_of_ble_eq_true rfl) (z_d hX7_digest_0 15 rfl) ⟨Nat.zero_le _, Nat.zero_le _⟩) hS hD (adr_Model _ _ _ _) (fun H locs hP hD hS => ?_)
  have hP : va_P Z.1 vwCl (l_Model Z.2.1 Am q3.1 q3.2.1 q3.2.2.1 q3.2.2.2.1 q3.2.2.2.2.1 q3.2.2.2.2.2.1 q3.2.2.2.2.2.2.1 q3.2.2.2.2.2.2.2.1 q3.2.2.2.2.2.2.2.2.1 q3.2.2.2.2.2.2.2.2.2.1 q3.2.2.2.2.2.2.2.2.2.2.1 q3.2.2.2.2.2.2.2.2.2.2.2.1 q3.2.2.2.2.2.2.2.2.2.2.2.2.1 q3.2.2.2.2.2.2.2.2.2.2.2.2.2.1 q3.2.2.2.2.2.2.2.2.2.2.2.2.2.2.1 q3.2.2.2.2.2.2.2.2.2.2.2.2.2.2.2.1 q3.2.2.2.2.2.2.2.2.2.2.2.2.2.2.2.2.1 q3.2.2.2.2.2.2.2.2.2.2.2.2.2.2.2.2.2.1 q3.2.2.2.2.2.2.2.2.2.2.2.2.2.2.2.2.2.2).flatten H := hP
  have hD : va_D A (l_Model Z.2.1 Am q3.1 q3.2.1 q3.2.2.1 q3.2.2.2.1 q3.2.2.2.2.1 q3.2.2.2.2.2.1 q3.2.2.2.2.2.2.1 q3.2.2.2.2.2.2.2.1 q3.2.2.2.2.2.2.2.2.1 q3.2.2.2.2.2.2.2.2.2.1 q3.2.2.2.2.2.2.2.2.2.2.1 q3.2.2.2.2.2.2.2.2.2.2.2.1 q3.2.2.2.2.2.2.2.2.2.2.2.2.1 q3.2.2.2.2.2.2.2.2.2.2.2.2.2.1 q3.2.2.2.2.2.2.2.2.2.2.2.2.2.2.1 q3.2.2.2.2.2.2.2.2.2.2.2.2.2.2.2.1 q3.2.2.2.2.2.2.2.2.2.2.2.2.2.2.2.2.1 q3.2.2.2.2.2.2.2.2.2.2.2.2.2.2.2.2.2.1 q3.2.2.2.2.2.2.2.2.2.2.2.2.2.2.2.2.2.2).flatten := hD
  refine W.eq (g2 := F0 m 30 ls []) rfl ?_
  refine lv_iconst (v := 0) hx hb (z_d hX7_digest_0 16 rfl) (by decide) ?_
  refine lv_istore_n (lv' := [(1, .int 0), (0, .ref (Am 0))]) hx hb (z_d hX7_digest_0 17 rfl) rfl hl (by decide) rfl (fun ls hl => ?_)
  refine z_bnd hF (fun q7 hq7 hF => ?_)
  refine L32  _ _ _ hq7 _ _ ls hP hD hS (lv_sub hl [1, 0] rfl) (fun H locs ls hP hD hS hl => ?_)
  refine lv_iconst (v := 0) hx hb (z_d hX7_digest_0 28 rfl) (by decide) ?_
  refine lv_istore_n (lv' := [(1, .int 0), (0, .ref (Am 0))]) hx hb (z_d hX7_digest_0 29 rfl) rfl hl (by decide) rfl (fun ls hl => ?_)
  refine z_bnd hF (fun q15 hq15 hF => ?_)
  refine L55  _ _ _ hq15 _ _ ls hP hD hS (lv_sub hl [1, 0] rfl) (fun H locs ls hP hD hS hl => ?_)
  refine lv_aload_n hx hb (z_d hX7_digest_0 50 rfl) rfl (lv_at hl 0 rfl) ?_
  refine z_bnd hF (fun q16 hq16 hF => ?_)
  refine z_ro_i (z_rV (As := []) (rest := []) hx hb hml hown hts vt_X7_sceneMany (c_X7_sceneMany l Z Am q15 _ hq16) rfl rfl ⟨Nat.le_of_ble_eq_true rfl, Nat.le_of_ble_eq_true rfl⟩ k_m_X7_158 zPro_blind (z_recv (q := (RX7, TX7, 19)) (ci := 7) (q0 := 0) hK (zP_reg hP 0 rfl) rfl rfl) (z_prec hK hP) rfl hl.1 (Nat.le_of_ble_eq_true rfl) (z_d hX7_digest_0 51 rfl) ⟨Nat.zero_le _, Nat.zero_le _⟩) hS hP (fun H locs hP hS => ?_)
  refine lv_istore_n (lv' := [(1, .int q16), (0, .ref (Am 0))]) hx hb (z_d hX7_digest_0 52 rfl) rfl hl (by decide) rfl (fun ls hl => ?_)
  refine lv_iconst (v := 0) hx hb (z_d hX7_digest_0 53 rfl) (by decide) ?_
  refine lv_istore_n (lv' := [(2, .int 0), (1, .int q16), (0, .ref (Am 0))]) hx hb (z_d hX7_digest_0 54 rfl) rfl hl (by decide) rfl (fun ls hl => ?_)
  refine z_bnd hF (fun q23 hq23 hF => ?_)
  refine L97 q16 _ _ _ hq23 _ _ ls hP hD hS (lv_sub hl [2, 1, 0] rfl) (fun H locs ls hP hD hS hl => ?_)
  refine lv_iconst (v := 0) hx hb (z_d hX7_digest_1 12 rfl) (by decide) ?_
  refine lv_istore_n (lv' := [(2, .int 0), (0, .ref (Am 0))]) hx hb (z_d hX7_digest_1 13 rfl) rfl hl (by decide) rfl (fun ls hl => ?_)
  refine z_bnd hF (fun q30 hq30 hF => ?_)
  refine L129  _ _ _ hq30 _ _ ls hP hD hS (lv_sub hl [1, 0] rfl) (fun H locs ls hP hD hS hl => ?_)
  refine lv_aload_n hx hb (z_d hX7_digest_1 32 rfl) rfl (lv_at hl 0 rfl) ?_
  refine lv_aload_n hx hb (z_d hX7_digest_1 33 rfl) rfl (lv_at hl 0 rfl) ?_
  refine va_get (D := Z.1) (ci := 7) (v := .int q30.2.2.2.1) (C := RX7) (T := TX7) (N := 19) hx hb hts zinX7 hown hK.1 (zP_reg hP 0 rfl) 0 rfl rfl 3 (by decide) (hts _ k_f_X7_51) (fun _ h9 => h9) rfl (z_d hX7_digest_1 34 rfl) ?_
  refine z_let hF (fun q31 hq31 hF => ?_)
  refine z_mu0 (z_rV (As := [.int q30.2.2.2.1]) (rest := []) hx hb hml hown hts vt_X7_mix (c_X7_mix l Z Am q30 q30.2.2.2.1 _ hq31) rfl rfl ⟨Nat.le_of_ble_eq_true rfl, Nat.le_of_ble_eq_true rfl⟩ k_m_X7_227 zPmu_blind (z_recv (q := (RX7, TX7, 19)) (ci := 7) (q0 := 0) hK (zP_reg hP 0 rfl) rfl rfl) (z_prem hK hP hD) rfl hl.1 (Nat.le_of_ble_eq_true rfl) (z_d hX7_digest_1 35 rfl) ⟨Nat.zero_le _, Nat.zero_le _⟩) hS hD (adr_Model _ _ _ _) (fun H locs hP hD hS => ?_)
  have hP : va_P Z.1 vwCl (l_Model Z.2.1 Am q31.1 q31.2.1 q31.2.2.1 q31.2.2.2.1 q31.2.2.2.2.1 q31.2.2.2.2.2.1 q31.2.2.2.2.2.2.1 q31.2.2.2.2.2.2.2.1 q31.2.2.2.2.2.2.2.2.1 q31.2.2.2.2.2.2.2.2.2.1 q31.2.2.2.2.2.2.2.2.2.2.1 q31.2.2.2.2.2.2.2.2.2.2.2.1 q31.2.2.2.2.2.2.2.2.2.2.2.2.1 q31.2.2.2.2.2.2.2.2.2.2.2.2.2.1 q31.2.2.2.2.2.2.2.2.2.2.2.2.2.2.1 q31.2.2.2.2.2.2.2.2.2.2.2.2.2.2.2.1 q31.2.2.2.2.2.2.2.2.2.2.2.2.2.2.2.2.1 q31.2.2.2.2.2.2.2.2.2.2.2.2.2.2.2.2.2.1 q31.2.2.2.2.2.2.2.2.2.2.2.2.2.2.2.2.2.2).flatten H := hP
  have hD : va_D A (l_Model Z.2.1 Am q31.1 q31.2.1 q31.2.2.1 q31.2.2.2.1 q31.2.2.2.2.1 q31.2.2.2.2.2.1 q31.2.2.2.2.2.2.1 q31.2.2.2.2.2.2.2.1 q31.2.2.2.2.2.2.2.2.1 q31.2.2.2.2.2.2.2.2.2.1 q31.2.2.2.2.2.2.2.2.2.2.1 q31.2.2.2.2.2.2.2.2.2.2.2.1 q31.2.2.2.2.2.2.2.2.2.2.2.2.1 q31.2.2.2.2.2.2.2.2.2.2.2.2.2.1 q31.2.2.2.2.2.2.2.2.2.2.2.2.2.2.1 q31.2.2.2.2.2.2.2.2.2.2.2.2.2.2.2.1 q31.2.2.2.2.2.2.2.2.2.2.2.2.2.2.2.2.1 q31.2.2.2.2.2.2.2.2.2.2.2.2.2.2.2.2.2.1 q31.2.2.2.2.2.2.2.2.2.2.2.2.2.2.2.2.2.2).flatten := hD
  refine W.eq (g2 := F0 m 167 ls []) rfl ?_
  refine lv_aload_n hx hb (z_d hX7_digest_1 36 rfl) rfl (lv_at hl 0 rfl) ?_
  refine va_get (D := Z.1) (ci := 7) (v := .long q31.2.2.2.2.2.2.2.2.2.2.2.2.2.2.2.2.2.2) (C := RX7) (T := TX7) (N := 19) hx hb hts zinX7 hown hK.1 (zP_reg hP 0 rfl) 0 rfl rfl 18 (by decide) (hts _ k_f_X7_221) (fun _ h9 => h9) rfl (z_d hX7_digest_1 37 rfl) ?_
  obtain rfl := Option.some.inj hF
  subst hQ
  subst hA
  exact W.lret hx hb hr (fun t ht hW => zq_mu (by rw [ht]; exact hP) (hS.F ht)) hS.2.2 (z_d hX7_digest_1 38 rfl)

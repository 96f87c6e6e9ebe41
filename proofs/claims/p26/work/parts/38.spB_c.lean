theorem vs_X6_isKind : zSt yX6_isKind cX6_isKind 1 (some .boolean) 1 := ⟨zG_at 367 (by decide +kernel) (by decide +kernel), zG_at 26 (by decide +kernel) (by decide +kernel), zG_at 368 (by decide +kernel) (by decide +kernel), by decide +kernel⟩
theorem vs_X6_isLength : zSt yX6_isLength cX6_isLength 1 (some .boolean) 1 := ⟨zG_at 370 (by decide +kernel) (by decide +kernel), zG_at 26 (by decide +kernel) (by decide +kernel), zG_at 371 (by decide +kernel) (by decide +kernel), by decide +kernel⟩
theorem vs_X6_isPersonOf : zSt yX6_isPersonOf cX6_isPersonOf 2 (some .boolean) 2 := ⟨zG_at 373 (by decide +kernel) (by decide +kernel), zG_at 26 (by decide +kernel) (by decide +kernel), zG_at 374 (by decide +kernel) (by decide +kernel), by decide +kernel⟩
theorem vt_X5_putIn : zVt yX5_putIn cX5_putIn 5 none 4 := ⟨zG_at 420 (by decide +kernel) (by decide +kernel), zG_at 421 (by decide +kernel) (by decide +kernel), zG_at 27 (by decide +kernel) (by decide +kernel), zG_at 422 (by decide +kernel) (by decide +kernel), by decide +kernel⟩
theorem vt_X6_repeatsLabel : zVt yX6_repeatsLabel cX6_repeatsLabel 1 (some .boolean) 0 := ⟨zG_at 434 (by decide +kernel) (by decide +kernel), zG_at 1 (by decide +kernel) (by decide +kernel), zG_at 26 (by decide +kernel) (by decide +kernel), zG_at 435 (by decide +kernel) (by decide +kernel), by decide +kernel⟩
theorem vt_X5_takeOut : zVt yX5_takeOut cX5_takeOut 3 none 1 := ⟨zG_at 610 (by decide +kernel) (by decide +kernel), zG_at 611 (by decide +kernel) (by decide +kernel), zG_at 27 (by decide +kernel) (by decide +kernel), zG_at 612 (by decide +kernel) (by decide +kernel), by decide +kernel⟩
theorem vs_X6_isPageLines : zSt yX6_isPageLines cX6_isPageLines 1 (some .boolean) 1 := ⟨zG_at 643 (by decide +kernel) (by decide +kernel), zG_at 26 (by decide +kernel) (by decide +kernel), zG_at 644 (by decide +kernel) (by decide +kernel), by decide +kernel⟩
theorem vt_X4_has : zVt yX4_has cX4_has 2 (some .boolean) 1 := ⟨zG_at 666 (by decide +kernel) (by decide +kernel), zG_at 667 (by decide +kernel) (by decide +kernel), zG_at 29 (by decide +kernel) (by decide +kernel), zG_at 668 (by decide +kernel) (by decide +kernel), by decide +kernel⟩
theorem vt_X5_markOmitted : zVt yX5_markOmitted cX5_markOmitted 2 none 1 := ⟨zG_at 674 (by decide +kernel) (by decide +kernel), zG_at 675 (by decide +kernel) (by decide +kernel), zG_at 27 (by decide +kernel) (by decide +kernel), zG_at 676 (by decide +kernel) (by decide +kernel), by decide +kernel⟩
theorem vt_X6_valueOf : zVt yX6_valueOf cX6_valueOf 2 (some .int) 1 := ⟨zG_at 741 (by decide +kernel) (by decide +kernel), zG_at 24 (by decide +kernel) (by decide +kernel), zG_at 26 (by decide +kernel) (by decide +kernel), zG_at 742 (by decide +kernel) (by decide +kernel), by decide +kernel⟩
theorem vt_X6_elementFact : zVt yX6_elementFact cX6_elementFact 3 (some .int) 2 := ⟨zG_at 704 (by decide +kernel) (by decide +kernel), zG_at 21 (by decide +kernel) (by decide +kernel), zG_at 26 (by decide +kernel) (by decide +kernel), zG_at 705 (by decide +kernel) (by decide +kernel), by decide +kernel⟩
theorem vt_X6_sceneFact : zVt yX6_sceneFact cX6_sceneFact 4 (some .int) 2 := ⟨zG_at 715 (by decide +kernel) (by decide +kernel), zG_at 22 (by decide +kernel) (by decide +kernel), zG_at 26 (by decide +kernel) (by decide +kernel), zG_at 716 (by decide +kernel) (by decide +kernel), by decide +kernel⟩
theorem k_i_IndexOutOfBoundsException : Cond.initialized "java/lang/IndexOutOfBoundsException" ∈ zG := zG_at 36 (by decide +kernel) (by decide +kernel)
theorem k_c_X6_62 : Cond.classLink RX6 62 "java/lang/IndexOutOfBoundsException" ∈ zG := zG_at 298 (by decide +kernel) (by decide +kernel)
theorem k_m_X6_69 : Cond.methodLink RX6 69 yX6_isKind ∈ zG := zG_at 366 (by decide +kernel) (by decide +kernel)
theorem k_i_IllegalArgumentException : Cond.initialized "java/lang/IllegalArgumentException" ∈ zG := zG_at 35 (by decide +kernel) (by decide +kernel)
theorem k_c_X6_80 : Cond.classLink RX6 80 "java/lang/IllegalArgumentException" ∈ zG := zG_at 375 (by decide +kernel) (by decide +kernel)
theorem k_m_X6_73 : Cond.methodLink RX6 73 yX6_isLength ∈ zG := zG_at 369 (by decide +kernel) (by decide +kernel)
theorem k_m_X6_76 : Cond.methodLink RX6 76 yX6_isPersonOf ∈ zG := zG_at 372 (by decide +kernel) (by decide +kernel)
theorem k_m_X6_85 : Cond.methodLink RX6 85 yX5_isFull ∈ zG := zG_at 391 (by decide +kernel) (by decide +kernel)
theorem k_m_X6_98 : Cond.methodLink RX6 98 yX5_putIn ∈ zG := zG_at 419 (by decide +kernel) (by decide +kernel)
theorem k_m_X6_102 : Cond.methodLink RX6 102 yX6_repeatsLabel ∈ zG := zG_at 432 (by decide +kernel) (by decide +kernel)
theorem k_i_IllegalStateException : Cond.initialized "java/lang/IllegalStateException" ∈ zG := zG_at 37 (by decide +kernel) (by decide +kernel)
theorem k_c_X6_89 : Cond.classLink RX6 89 "java/lang/IllegalStateException" ∈ zG := zG_at 395 (by decide +kernel) (by decide +kernel)
theorem k_m_X6_110 : Cond.methodLink RX6 110 yX5_has ∈ zG := zG_at 605 (by decide +kernel) (by decide +kernel)
theorem k_m_X6_120 : Cond.methodLink RX6 120 yX5_takeOut ∈ zG := zG_at 609 (by decide +kernel) (by decide +kernel)
theorem k_m_X6_136 : Cond.methodLink RX6 136 yX6_isPageLines ∈ zG := zG_at 642 (by decide +kernel) (by decide +kernel)
theorem k_m_X6_165 : Cond.methodLink RX6 165 yX4_has ∈ zG := zG_at 665 (by decide +kernel) (by decide +kernel)
theorem k_m_X6_176 : Cond.methodLink RX6 176 yX5_markOmitted ∈ zG := zG_at 673 (by decide +kernel) (by decide +kernel)
theorem k_m_X6_184 : Cond.methodLink RX6 184 yX6_isBelow ∈ zG := zG_at 700 (by decide +kernel) (by decide +kernel)
theorem k_m_X6_189 : Cond.methodLink RX6 189 yX6_valueOf ∈ zG := zG_at 739 (by decide +kernel) (by decide +kernel)
theorem k_m_X6_192 : Cond.methodLink RX6 192 yX6_elementFact ∈ zG := zG_at 702 (by decide +kernel) (by decide +kernel)
theorem k_m_X6_196 : Cond.methodLink RX6 196 yX6_sceneFact ∈ zG := zG_at 713 (by decide +kernel) (by decide +kernel)
def rm_X6_insert : Room := { frames := 6, cells := 1, slots := 6, locals := 139 }
set_option maxRecDepth 100000 in
set_option maxHeartbeats 4000000 in
theorem c_X6_insert (l : Launch) (hlt : l.stackTraces = false) (Z : zZ) (sa : Nat → Nat) (mm : Nat) (As : Nat → Nat) (Bs : Nat → Nat) (Ac : Nat → Nat) (Bc : Nat → Nat) (Ag : Nat → Nat) (Bg : Nat → Nat) (hh ha : Nat) (Ah : Nat → Nat → Nat) (rt rq : Nat) (tl : Int32) (S : t_Script) (D : t_Script) (C : t_Scenes) (E : t_Scenes) (G : t_Pages) (F : t_Pages) (Hs : t_Hist) (tx : Rw) (p1 : Int32) (p2 : Int32) (p3 : Int32) (p4 : Int32) (R : (Int32 ⊕ Nat) × t_Script × t_Script × t_Scenes × t_Scenes × t_Pages × t_Hist) (hF : X6_insert tl S D C E G F Hs tx p1 p2 p3 p4 = some R) : zXM l yX6_insert (zw yX6_insert cX6_insert 5 (some .int)) rm_X6_insert Z sa [.ref mm, .int p1, .int p2, .int p3, .int p4] (List.flatten [w_Main mm As Bs Ac Bc Ag Bg hh rt tl, w_Script Z.2.1 As S, w_Script Z.2.1 Bs D, w_Scenes Z.2.1 Ac C, w_Scenes Z.2.1 Bc E, w_Pages Z.2.1 Ag G, w_Pages Z.2.1 Bg F, w_Hist Z.2.1 Z.2.2.1 hh ha Ah Hs, w_Row Z.2.1 200 rt rq tx]) (List.flatten [w_Main mm As Bs Ac Bc Ag Bg hh rt tl, w_Script Z.2.1 As R.2.1, w_Script Z.2.1 Bs R.2.2.1, w_Scenes Z.2.1 Ac R.2.2.2.1, w_Scenes Z.2.1 Bc R.2.2.2.2.1, w_Pages Z.2.1 Ag R.2.2.2.2.2.1, w_Pages Z.2.1 Bg F, w_Hist Z.2.1 Z.2.2.1 hh ha Ah R.2.2.2.2.2.2, w_Row Z.2.1 200 rt rq tx]) (zr R.1) := by
  refine zXM_of (by decide) (Nat.le_of_ble_eq_true rfl) (fun p e s m below meth c hx hb hr hml hown hts hlocks hK A hA hT hnt Q hQ ls hl hP hD hS => ?_)
  unfold X6_insert at hF
  have hl : lv_has ls 5 [(0, .ref mm), (1, .int p1), (2, .int p2), (3, .int p3), (4, .int p4)] := hl
  have hown : s.vm.findClass RX6 = some m.cls := hown
  have J15 : ∀ (S : t_Script) (D : t_Script) (C : t_Scenes) (E : t_Scenes) (G : t_Pages) (Hs : t_Hist) (hF : j_X6_insert_15 tl F tx p1 p2 p3 p4 S D C E G Hs = some R) (H : Heap) (locs : List Loc) (ls : Array Slot) (hP : va_P Z.1 vwCl ([w_Main mm As Bs Ac Bc Ag Bg hh rt tl, w_Script Z.2.1 As S, w_Script Z.2.1 Bs D, w_Scenes Z.2.1 Ac C, w_Scenes Z.2.1 Bc E, w_Pages Z.2.1 Ag G, w_Pages Z.2.1 Bg F, w_Hist Z.2.1 Z.2.2.1 hh ha Ah Hs, w_Row Z.2.1 200 rt rq tx]).flatten H) (hD : va_D A ([w_Main mm As Bs Ac Bc Ag Bg hh rt tl, w_Script Z.2.1 As S, w_Script Z.2.1 Bs D, w_Scenes Z.2.1 Ac C, w_Scenes Z.2.1 Bc E, w_Pages Z.2.1 Ag G, w_Pages Z.2.1 Bg F, w_Hist Z.2.1 Z.2.2.1 hh ha Ah Hs, w_Row Z.2.1 200 rt rq tx]).flatten) (hS : va_S A s.heap H locs) (hl : lv_has ls 5 [(0, .ref mm), (1, .int p1), (2, .int p2), (3, .int p3), (4, .int p4)]), W p l e rm_X6_insert s m ([.ref mm, .int p1, .int p2, .int p3, .int p4] : List Value).toArray below meth c H locs 0 0 Q (F0 m 15 ls []) := by
    intro S D C E G Hs hF H locs ls hP hD hS hl
    unfold j_X6_insert_15 at hF
    obtain rfl := Option.some.inj hF
    subst hQ
    subst hA
    exact z_throw (ik := 62) (ic := 66) (is := 64) (cls := "java/lang/IndexOutOfBoundsException") (text := "index is out of range") (by decide) (by decide) hx hb hlt hown hts hT hnt hlocks k_c_X6_62 k_i_IndexOutOfBoundsException hS (hl.1.trans hml.symm) rfl hP ⟨⟨Nat.le_of_ble_eq_true rfl, Nat.le_of_ble_eq_true rfl⟩, ⟨Nat.le_of_ble_eq_true rfl, Nat.le_of_ble_eq_true rfl⟩⟩ (z_d hX6_insert_0 7 rfl) (z_d hX6_insert_0 8 rfl) (z_d hX6_insert_0 9 rfl) (z_d hX6_insert_0 10 rfl) (z_d hX6_insert_0 11 rfl)
  have J48 : ∀ (S : t_Script) (D : t_Script) (C : t_Scenes) (E : t_Scenes) (G : t_Pages) (Hs : t_Hist) (hF : j_X6_insert_48 tl F tx p1 p2 p3 p4 S D C E G Hs = some R) (H : Heap) (locs : List Loc) (ls : Array Slot) (hP : va_P Z.1 vwCl ([w_Main mm As Bs Ac Bc Ag Bg hh rt tl, w_Script Z.2.1 As S, w_Script Z.2.1 Bs D, w_Scenes Z.2.1 Ac C, w_Scenes Z.2.1 Bc E, w_Pages Z.2.1 Ag G, w_Pages Z.2.1 Bg F, w_Hist Z.2.1 Z.2.2.1 hh ha Ah Hs, w_Row Z.2.1 200 rt rq tx]).flatten H) (hD : va_D A ([w_Main mm As Bs Ac Bc Ag Bg hh rt tl, w_Script Z.2.1 As S, w_Script Z.2.1 Bs D, w_Scenes Z.2.1 Ac C, w_Scenes Z.2.1 Bc E, w_Pages Z.2.1 Ag G, w_Pages Z.2.1 Bg F, w_Hist Z.2.1 Z.2.2.1 hh ha Ah Hs, w_Row Z.2.1 200 rt rq tx]).flatten) (hS : va_S A s.heap H locs) (hl : lv_has ls 5 [(0, .ref mm), (1, .int p1), (2, .int p2), (3, .int p3), (4, .int p4)]), W p l e rm_X6_insert s m ([.ref mm, .int p1, .int p2, .int p3, .int p4] : List Value).toArray below meth c H locs 0 0 Q (F0 m 48 ls []) := by
    intro S D C E G Hs hF H locs ls hP hD hS hl
    unfold j_X6_insert_48 at hF
    obtain rfl := Option.some.inj hF
    subst hQ
    subst hA
    exact z_throw (ik := 80) (ic := 84) (is := 82) (cls := "java/lang/IllegalArgumentException") (text := "kind, length or person is out of range") (by decide) (by decide) hx hb hlt hown hts hT hnt hlocks k_c_X6_80 k_i_IllegalArgumentException hS (hl.1.trans hml.symm) rfl hP ⟨⟨Nat.le_of_ble_eq_true rfl, Nat.le_of_ble_eq_true rfl⟩, ⟨Nat.le_of_ble_eq_true rfl, Nat.le_of_ble_eq_true rfl⟩⟩ (z_d hX6_insert_0 22 rfl) (z_d hX6_insert_0 23 rfl) (z_d hX6_insert_0 24 rfl) (z_d hX6_insert_0 25 rfl) (z_d hX6_insert_0 26 rfl)
  have J122 : ∀ (S : t_Script) (D : t_Script) (C : t_Scenes) (E : t_Scenes) (G : t_Pages) (Hs : t_Hist) (hF : j_X6_insert_122 tl F tx p1 p2 p3 p4 S D C E G Hs = some R) (H : Heap) (locs : List Loc) (ls : Array Slot) (hP : va_P Z.1 vwCl ([w_Main mm As Bs Ac Bc Ag Bg hh rt tl, w_Script Z.2.1 As S, w_Script Z.2.1 Bs D, w_Scenes Z.2.1 Ac C, w_Scenes Z.2.1 Bc E, w_Pages Z.2.1 Ag G, w_Pages Z.2.1 Bg F, w_Hist Z.2.1 Z.2.2.1 hh ha Ah Hs, w_Row Z.2.1 200 rt rq tx]).flatten H) (hD : va_D A ([w_Main mm As Bs Ac Bc Ag Bg hh rt tl, w_Script Z.2.1 As S, w_Script Z.2.1 Bs D, w_Scenes Z.2.1 Ac C, w_Scenes Z.2.1 Bc E, w_Pages Z.2.1 Ag G, w_Pages Z.2.1 Bg F, w_Hist Z.2.1 Z.2.2.1 hh ha Ah Hs, w_Row Z.2.1 200 rt rq tx]).flatten) (hS : va_S A s.heap H locs) (hl : lv_has ls 5 [(0, .ref mm), (1, .int p1), (2, .int p2), (3, .int p3), (4, .int p4)]), W p l e rm_X6_insert s m ([.ref mm, .int p1, .int p2, .int p3, .int p4] : List Value).toArray below meth c H locs 0 0 Q (F0 m 122 ls []) := by
    intro S D C E G Hs hF H locs ls hP hD hS hl
    unfold j_X6_insert_122 at hF
    refine lv_aload_n hx hb (z_d hX6_insert_0 58 rfl) rfl (lv_at hl 0 rfl) ?_
    refine z_bnd hF (fun q7 hq7 hF => ?_)
    refine z_mu0 (z_rV (As := []) (rest := []) hx hb hml hown hts vt_X6_keepDraft (c_X6_keepDraft l Z mm As Bs Ac Bc Ag Bg hh ha Ah rt rq tl S D C E G F Hs tx _ hq7) rfl rfl ⟨Nat.le_of_ble_eq_true rfl, Nat.le_of_ble_eq_true rfl⟩ k_m_X6_107 zPmu_blind (z_recv (q := (RX6, TX6, 9)) (ci := 6) (q0 := 0) hK (zP_reg hP 0 rfl) rfl rfl) (z_prem hK hP hD) rfl hl.1 (Nat.le_of_ble_eq_true rfl) (z_d hX6_insert_0 59 rfl) ⟨Nat.zero_le _, Nat.zero_le _⟩) hS hD (zadr_cons rfl (zadr_cons (adr_Script _ _ _ _) (zadr_cons (adr_Script _ _ _ _) (zadr_cons (adr_Scenes _ _ _ _) (zadr_cons (adr_Scenes _ _ _ _) (zadr_cons (adr_Pages _ _ _ _) (zadr_cons (adr_Pages _ _ _ _) (zadr_cons (adr_Hist _ _ _ _ _ _ _) (zadr_cons rfl rfl))))))))) (fun H locs hP hD hS => ?_)
    have hP : va_P Z.1 vwCl ([w_Main mm As Bs Ac Bc Ag Bg hh rt tl, w_Script Z.2.1 As q7.1, w_Script Z.2.1 Bs D, w_Scenes Z.2.1 Ac q7.2.1, w_Scenes Z.2.1 Bc E, w_Pages Z.2.1 Ag q7.2.2.1, w_Pages Z.2.1 Bg F, w_Hist Z.2.1 Z.2.2.1 hh ha Ah q7.2.2.2, w_Row Z.2.1 200 rt rq tx]).flatten H := hP
    have hD : va_D A ([w_Main mm As Bs Ac Bc Ag Bg hh rt tl, w_Script Z.2.1 As q7.1, w_Script Z.2.1 Bs D, w_Scenes Z.2.1 Ac q7.2.1, w_Scenes Z.2.1 Bc E, w_Pages Z.2.1 Ag q7.2.2.1, w_Pages Z.2.1 Bg F, w_Hist Z.2.1 Z.2.2.1 hh ha Ah q7.2.2.2, w_Row Z.2.1 200 rt rq tx]).flatten := hD
    refine W.eq (g2 := F0 m 126 ls []) rfl ?_
    refine lv_aload_n hx hb (z_d hX6_insert_1 0 rfl) rfl (lv_at hl 0 rfl) ?_
    refine va_get (D := Z.1) (ci := 6) (v := .ref (As 0)) (C := RX6) (T := TX6) (N := 9) hx hb hts zinX6 hown hK.1 (zP_reg hP 0 rfl) 0 rfl rfl 0 (by decide) (hts _ k_f_X6_12) (fun _ h9 => h9) rfl (z_d hX6_insert_1 1 rfl) ?_
    refine va_getN (D := Z.1) (ci := 5) (v := .int q7.1.1) (C := RX5) (T := TX5) (N := 10) hx hb hts zinX5 hown hK.1 (zP_reg (L := l_Script Z.2.1 As q7.1.1 q7.1.2.1 q7.1.2.2.1 q7.1.2.2.2.1 q7.1.2.2.2.2.1 q7.1.2.2.2.2.2.1 q7.1.2.2.2.2.2.2.1 q7.1.2.2.2.2.2.2.2.1 q7.1.2.2.2.2.2.2.2.2.1 q7.1.2.2.2.2.2.2.2.2.2) (zP_reg hP 1 rfl) 0 rfl) 0 rfl rfl 0 (by decide) (kn_X6_59 hK.2) (fun _ h9 => h9) rfl (z_d hX6_insert_1 2 rfl) ?_
    obtain rfl := Option.some.inj hF
    subst hQ
    subst hA
    exact z_xret hx hb hr hlocks rfl hP hS (z_d hX6_insert_1 3 rfl)
  refine lv_iload_n hx hb (z_d hX6_insert_0 0 rfl) rfl (lv_at hl 1 rfl) ?_
  refine lv_if_lt (tgt := 15) hx hb (z_d hX6_insert_0 1 rfl) (by decide) (fun hc1 => ?_) (fun hc1 => ?_)
  · have hF := z_pos hc1 hF
    exact J15 S D C E G Hs hF _ _ ls hP hD hS (lv_sub hl [0, 1, 2, 3, 4] rfl)
  · have hF := z_neg hc1 hF
    refine lv_iload_n hx hb (z_d hX6_insert_0 2 rfl) rfl (lv_at hl 1 rfl) ?_
    refine lv_aload_n hx hb (z_d hX6_insert_0 3 rfl) rfl (lv_at hl 0 rfl) ?_
    refine va_get (D := Z.1) (ci := 6) (v := .ref (As 0)) (C := RX6) (T := TX6) (N := 9) hx hb hts zinX6 hown hK.1 (zP_reg hP 0 rfl) 0 rfl rfl 0 (by decide) (hts _ k_f_X6_12) (fun _ h9 => h9) rfl (z_d hX6_insert_0 4 rfl) ?_
    refine va_getN (D := Z.1) (ci := 5) (v := .int S.1) (C := RX5) (T := TX5) (N := 10) hx hb hts zinX5 hown hK.1 (zP_reg (L := l_Script Z.2.1 As S.1 S.2.1 S.2.2.1 S.2.2.2.1 S.2.2.2.2.1 S.2.2.2.2.2.1 S.2.2.2.2.2.2.1 S.2.2.2.2.2.2.2.1 S.2.2.2.2.2.2.2.2.1 S.2.2.2.2.2.2.2.2.2) (zP_reg hP 1 rfl) 0 rfl) 0 rfl rfl 0 (by decide) (kn_X6_59 hK.2) (fun _ h9 => h9) rfl (z_d hX6_insert_0 5 rfl) ?_
    refine lv_icmp_le (tgt := 25) hx hb (z_d hX6_insert_0 6 rfl) (by decide) (fun hc12 => ?_) (fun hc12 => ?_)
    · have hF := z_pos hc12 hF
      refine lv_iload_n hx hb (z_d hX6_insert_0 12 rfl) rfl (lv_at hl 2 rfl) ?_
      refine z_let hF (fun q1 hq1 hF => ?_)
      refine z_ro_i (z_rS (As := [.int p2]) (rest := []) hx hb hml hown hts vs_X6_isKind (c_X6_isKind l Z p2 _ hq1) rfl rfl ⟨Nat.le_of_ble_eq_true rfl, Nat.le_of_ble_eq_true rfl⟩ k_m_X6_69 zPro_blind (z_prec hK zP_nil) rfl hl.1 (Nat.le_of_ble_eq_true rfl) (z_d hX6_insert_0 13 rfl) ⟨Nat.zero_le _, Nat.zero_le _⟩) hS hP (fun H locs hP hS => ?_)
      refine lv_if_eq (tgt := 48) hx hb (z_d hX6_insert_0 14 rfl) (by decide) (fun hc29 => ?_) (fun hc29 => ?_)
      · have hF := z_pos hc29 hF
        exact J48 S D C E G Hs hF _ _ ls hP hD hS (lv_sub hl [0, 1, 2, 3, 4] rfl)
      · have hF := z_neg hc29 hF
        refine lv_iload_n hx hb (z_d hX6_insert_0 15 rfl) rfl (lv_at hl 3 rfl) ?_
        refine z_let hF (fun q2 hq2 hF => ?_)
        refine z_ro_i (z_rS (As := [.int p3]) (rest := []) hx hb hml hown hts vs_X6_isLength (c_X6_isLength l Z p3 _ hq2) rfl rfl ⟨Nat.le_of_ble_eq_true rfl, Nat.le_of_ble_eq_true rfl⟩ k_m_X6_73 zPro_blind (z_prec hK zP_nil) rfl hl.1 (Nat.le_of_ble_eq_true rfl) (z_d hX6_insert_0 16 rfl) ⟨Nat.zero_le _, Nat.zero_le _⟩) hS hP (fun H locs hP hS => ?_)
        refine lv_if_eq (tgt := 48) hx hb (z_d hX6_insert_0 17 rfl) (by decide) (fun hc36 => ?_) (fun hc36 => ?_)
        · have hF := z_pos hc36 hF
          exact J48 S D C E G Hs hF _ _ ls hP hD hS (lv_sub hl [0, 1, 2, 3, 4] rfl)
        · have hF := z_neg hc36 hF
          refine lv_iload_n hx hb (z_d hX6_insert_0 18 rfl) rfl (lv_at hl 2 rfl) ?_
          refine lv_iload hx hb (z_d hX6_insert_0 19 rfl) (lv_at hl 4 rfl) ?_
          refine z_let hF (fun q3 hq3 hF => ?_)
          refine z_ro_i (z_rS (As := [.int p2, .int p4]) (rest := []) hx hb hml hown hts vs_X6_isPersonOf (c_X6_isPersonOf l Z p2 p4 _ hq3) rfl rfl ⟨Nat.le_of_ble_eq_true rfl, Nat.le_of_ble_eq_true rfl⟩ k_m_X6_76 zPro_blind (z_prec hK zP_nil) rfl hl.1 (Nat.le_of_ble_eq_true rfl) (z_d hX6_insert_0 20 rfl) ⟨Nat.zero_le _, Nat.zero_le _⟩) hS hP (fun H locs hP hS => ?_)
          refine lv_if_ne (tgt := 58) hx hb (z_d hX6_insert_0 21 rfl) (by decide) (fun hc45 => ?_) (fun hc45 => ?_)
          · have hF := z_neg hc45 hF
            refine lv_aload_n hx hb (z_d hX6_insert_0 27 rfl) rfl (lv_at hl 0 rfl) ?_
            refine va_get (D := Z.1) (ci := 6) (v := .ref (As 0)) (C := RX6) (T := TX6) (N := 9) hx hb hts zinX6 hown hK.1 (zP_reg hP 0 rfl) 0 rfl rfl 0 (by decide) (hts _ k_f_X6_12) (fun _ h9 => h9) rfl (z_d hX6_insert_0 28 rfl) ?_
            refine z_let hF (fun q4 hq4 hF => ?_)
            refine z_ro_i (z_rV (As := []) (rest := []) hx hb hml hown hts vt_X5_isFull (c_X5_isFull l Z As S _ hq4) rfl rfl ⟨Nat.le_of_ble_eq_true rfl, Nat.le_of_ble_eq_true rfl⟩ k_m_X6_85 zPro_blind (z_recv (q := (RX5, TX5, 10)) (ci := 5) (q0 := 0) hK (zP_reg (L := l_Script Z.2.1 As S.1 S.2.1 S.2.2.1 S.2.2.2.1 S.2.2.2.2.1 S.2.2.2.2.2.1 S.2.2.2.2.2.2.1 S.2.2.2.2.2.2.2.1 S.2.2.2.2.2.2.2.2.1 S.2.2.2.2.2.2.2.2.2) (zP_reg hP 1 rfl) 0 rfl) rfl rfl) (z_prec hK (zP_reg hP 1 rfl)) rfl hl.1 (Nat.le_of_ble_eq_true rfl) (z_d hX6_insert_0 29 rfl) ⟨Nat.zero_le _, Nat.zero_le _⟩) hS hP (fun H locs hP hS => ?_)
            refine lv_if_eq (tgt := 78) hx hb (z_d hX6_insert_0 30 rfl) (by decide) (fun hc65 => ?_) (fun hc65 => ?_)
            · have hF := z_pos hc65 hF
              refine lv_aload_n hx hb (z_d hX6_insert_0 36 rfl) rfl (lv_at hl 0 rfl) ?_
              refine va_get (D := Z.1) (ci := 6) (v := .ref (Bs 0)) (C := RX6) (T := TX6) (N := 9) hx hb hts zinX6 hown hK.1 (zP_reg hP 0 rfl) 0 rfl rfl 1 (by decide) (hts _ k_f_X6_16) (fun _ h9 => h9) rfl (z_d hX6_insert_0 37 rfl) ?_
              refine lv_aload_n hx hb (z_d hX6_insert_0 38 rfl) rfl (lv_at hl 0 rfl) ?_
              refine va_get (D := Z.1) (ci := 6) (v := .ref (As 0)) (C := RX6) (T := TX6) (N := 9) hx hb hts zinX6 hown hK.1 (zP_reg hP 0 rfl) 0 rfl rfl 0 (by decide) (hts _ k_f_X6_12) (fun _ h9 => h9) rfl (z_d hX6_insert_0 39 rfl) ?_
              refine z_let hF (fun q5 hq5 hF => ?_)
              refine z_mu2 (L := [w_Main mm As Bs Ac Bc Ag Bg hh rt tl, w_Script Z.2.1 As S, w_Script Z.2.1 Bs D, w_Scenes Z.2.1 Ac C, w_Scenes Z.2.1 Bc E, w_Pages Z.2.1 Ag G, w_Pages Z.2.1 Bg F, w_Hist Z.2.1 Z.2.2.1 hh ha Ah Hs, w_Row Z.2.1 200 rt rq tx]) (L' := [w_Main mm As Bs Ac Bc Ag Bg hh rt tl, w_Script Z.2.1 As S, w_Script Z.2.1 Bs q5, w_Scenes Z.2.1 Ac C, w_Scenes Z.2.1 Bc E, w_Pages Z.2.1 Ag G, w_Pages Z.2.1 Bg F, w_Hist Z.2.1 Z.2.2.1 hh ha Ah Hs, w_Row Z.2.1 200 rt rq tx]) (z_rV (As := [.ref (As 0)]) (rest := []) hx hb hml hown hts vt_X5_copyFrom (c_X5_copyFrom l Z Bs As D S _ hq5) rfl rfl ⟨Nat.le_of_ble_eq_true rfl, Nat.le_of_ble_eq_true rfl⟩ k_m_X6_94 zPmu_blind (z_recv (q := (RX5, TX5, 10)) (ci := 5) (q0 := 0) hK (zP_reg (L := l_Script Z.2.1 Bs D.1 D.2.1 D.2.2.1 D.2.2.2.1 D.2.2.2.2.1 D.2.2.2.2.2.1 D.2.2.2.2.2.2.1 D.2.2.2.2.2.2.2.1 D.2.2.2.2.2.2.2.2.1 D.2.2.2.2.2.2.2.2.2) (zP_reg hP 2 rfl) 0 rfl) rfl rfl) (z_prem hK (zP_r2 hP 2 1 rfl rfl) (zD_r2 hD 2 1 rfl rfl (by decide))) rfl hl.1 (Nat.le_of_ble_eq_true rfl) (z_d hX6_insert_0 40 rfl) ⟨Nat.zero_le _, Nat.zero_le _⟩) hS hP hD 2 1 rfl rfl (by decide) rfl (adr_Script _ _ _ _) (adr_Script _ _ _ _) (fun H locs hP hD hS => ?_)
              refine W.eq (g2 := F0 m 89 ls []) rfl ?_
              refine lv_aload_n hx hb (z_d hX6_insert_0 41 rfl) rfl (lv_at hl 0 rfl) ?_
              refine va_get (D := Z.1) (ci := 6) (v := .ref (Bs 0)) (C := RX6) (T := TX6) (N := 9) hx hb hts zinX6 hown hK.1 (zP_reg hP 0 rfl) 0 rfl rfl 1 (by decide) (hts _ k_f_X6_16) (fun _ h9 => h9) rfl (z_d hX6_insert_0 42 rfl) ?_
              refine lv_iload_n hx hb (z_d hX6_insert_0 43 rfl) rfl (lv_at hl 1 rfl) ?_
              refine lv_iload_n hx hb (z_d hX6_insert_0 44 rfl) rfl (lv_at hl 2 rfl) ?_
              refine lv_iload_n hx hb (z_d hX6_insert_0 45 rfl) rfl (lv_at hl 3 rfl) ?_
              refine lv_iload hx hb (z_d hX6_insert_0 46 rfl) (lv_at hl 4 rfl) ?_
              refine z_let hF (fun q6 hq6 hF => ?_)
              refine z_mu1 (L := [w_Main mm As Bs Ac Bc Ag Bg hh rt tl, w_Script Z.2.1 As S, w_Script Z.2.1 Bs q5, w_Scenes Z.2.1 Ac C, w_Scenes Z.2.1 Bc E, w_Pages Z.2.1 Ag G, w_Pages Z.2.1 Bg F, w_Hist Z.2.1 Z.2.2.1 hh ha Ah Hs, w_Row Z.2.1 200 rt rq tx]) (L' := [w_Main mm As Bs Ac Bc Ag Bg hh rt tl, w_Script Z.2.1 As S, w_Script Z.2.1 Bs q6, w_Scenes Z.2.1 Ac C, w_Scenes Z.2.1 Bc E, w_Pages Z.2.1 Ag G, w_Pages Z.2.1 Bg F, w_Hist Z.2.1 Z.2.2.1 hh ha Ah Hs, w_Row Z.2.1 200 rt rq tx]) (z_rV (As := [.int p1, .int p2, .int p3, .int p4]) (rest := []) hx hb hml hown hts vt_X5_putIn (c_X5_putIn l Z Bs q5 p1 p2 p3 p4 _ hq6) rfl rfl ⟨Nat.le_of_ble_eq_true rfl, Nat.le_of_ble_eq_true rfl⟩ k_m_X6_98 zPmu_blind (z_recv (q := (RX5, TX5, 10)) (ci := 5) (q0 := 0) hK (zP_reg (L := l_Script Z.2.1 Bs q5.1 q5.2.1 q5.2.2.1 q5.2.2.2.1 q5.2.2.2.2.1 q5.2.2.2.2.2.1 q5.2.2.2.2.2.2.1 q5.2.2.2.2.2.2.2.1 q5.2.2.2.2.2.2.2.2.1 q5.2.2.2.2.2.2.2.2.2) (zP_reg hP 2 rfl) 0 rfl) rfl rfl) (z_prem hK (zP_reg hP 2 rfl) (zD_one hD 2 _ rfl)) rfl hl.1 (Nat.le_of_ble_eq_true rfl) (z_d hX6_insert_0 47 rfl) ⟨Nat.zero_le _, Nat.zero_le _⟩) hS hP hD 2 rfl rfl (adr_Script _ _ _ _) (fun H locs hP hD hS => ?_)
              refine W.eq (g2 := F0 m 101 ls []) rfl ?_
              refine lv_iload_n hx hb (z_d hX6_insert_0 48 rfl) rfl (lv_at hl 2 rfl) ?_
              refine lv_if_ne (tgt := 122) hx hb (z_d hX6_insert_0 49 rfl) (by decide) (fun hc102 => ?_) (fun hc102 => ?_)
              · have hF := z_neg hc102 hF
                exact J122 S q6 C E G Hs hF _ _ ls hP hD hS (lv_sub hl [0, 1, 2, 3, 4] rfl)
              · have hF := z_pos hc102 hF
                refine lv_aload_n hx hb (z_d hX6_insert_0 50 rfl) rfl (lv_at hl 0 rfl) ?_
                refine z_bnd hF (fun q8 hq8 hF => ?_)
                refine z_mu0 (z_rV (As := []) (rest := []) hx hb hml hown hts vt_X6_repeatsLabel (c_X6_repeatsLabel l Z mm As Bs Ac Bc Ag Bg hh ha Ah rt rq tl S q6 C E G F Hs tx _ hq8) rfl rfl ⟨Nat.le_of_ble_eq_true rfl, Nat.le_of_ble_eq_true rfl⟩ k_m_X6_102 zPmu_blind (z_recv (q := (RX6, TX6, 9)) (ci := 6) (q0 := 0) hK (zP_reg hP 0 rfl) rfl rfl) (z_prem hK hP hD) rfl hl.1 (Nat.le_of_ble_eq_true rfl) (z_d hX6_insert_0 51 rfl) ⟨Nat.zero_le _, Nat.zero_le _⟩) hS hD (zadr_cons rfl (zadr_cons (adr_Script _ _ _ _) (zadr_cons (adr_Script _ _ _ _) (zadr_cons (adr_Scenes _ _ _ _) (zadr_cons (adr_Scenes _ _ _ _) (zadr_cons (adr_Pages _ _ _ _) (zadr_cons (adr_Pages _ _ _ _) (zadr_cons (adr_Hist _ _ _ _ _ _ _) (zadr_cons rfl rfl))))))))) (fun H locs hP hD hS => ?_)
                have hP : va_P Z.1 vwCl ([w_Main mm As Bs Ac Bc Ag Bg hh rt tl, w_Script Z.2.1 As S, w_Script Z.2.1 Bs q6, w_Scenes Z.2.1 Ac C, w_Scenes Z.2.1 Bc q8.2, w_Pages Z.2.1 Ag G, w_Pages Z.2.1 Bg F, w_Hist Z.2.1 Z.2.2.1 hh ha Ah Hs, w_Row Z.2.1 200 rt rq tx]).flatten H := hP
                have hD : va_D A ([w_Main mm As Bs Ac Bc Ag Bg hh rt tl, w_Script Z.2.1 As S, w_Script Z.2.1 Bs q6, w_Scenes Z.2.1 Ac C, w_Scenes Z.2.1 Bc q8.2, w_Pages Z.2.1 Ag G, w_Pages Z.2.1 Bg F, w_Hist Z.2.1 Z.2.2.1 hh ha Ah Hs, w_Row Z.2.1 200 rt rq tx]).flatten := hD
                refine W.eq (g2 := F0 m 109 ls [.int q8.1]) rfl ?_
                refine lv_if_eq (tgt := 122) hx hb (z_d hX6_insert_0 52 rfl) (by decide) (fun hc109 => ?_) (fun hc109 => ?_)
                · have hF := z_pos hc109 hF
                  exact J122 S q6 C q8.2 G Hs hF _ _ ls hP hD hS (lv_sub hl [0, 1, 2, 3, 4] rfl)
                · have hF := z_neg hc109 hF
                  obtain rfl := Option.some.inj hF
                  subst hQ
                  subst hA
                  exact z_throw (ik := 89) (ic := 93) (is := 105) (cls := "java/lang/IllegalStateException") (text := "two scenes would have the same label") (by decide) (by decide) hx hb hlt hown hts hT hnt hlocks k_c_X6_89 k_i_IllegalStateException hS (hl.1.trans hml.symm) rfl hP ⟨⟨Nat.le_of_ble_eq_true rfl, Nat.le_of_ble_eq_true rfl⟩, ⟨Nat.le_of_ble_eq_true rfl, Nat.le_of_ble_eq_true rfl⟩⟩ (z_d hX6_insert_0 53 rfl) (z_d hX6_insert_0 54 rfl) (z_d hX6_insert_0 55 rfl) (z_d hX6_insert_0 56 rfl) (z_d hX6_insert_0 57 rfl)
            · have hF := z_neg hc65 hF
              obtain rfl := Option.some.inj hF
              subst hQ
              subst hA
              exact z_throw (ik := 89) (ic := 93) (is := 91) (cls := "java/lang/IllegalStateException") (text := "there are 60 elements") (by decide) (by decide) hx hb hlt hown hts hT hnt hlocks k_c_X6_89 k_i_IllegalStateException hS (hl.1.trans hml.symm) rfl hP ⟨⟨Nat.le_of_ble_eq_true rfl, Nat.le_of_ble_eq_true rfl⟩, ⟨Nat.le_of_ble_eq_true rfl, Nat.le_of_ble_eq_true rfl⟩⟩ (z_d hX6_insert_0 31 rfl) (z_d hX6_insert_0 32 rfl) (z_d hX6_insert_0 33 rfl) (z_d hX6_insert_0 34 rfl) (z_d hX6_insert_0 35 rfl)
          · have hF := z_pos hc45 hF
            exact J48 S D C E G Hs hF _ _ ls hP hD hS (lv_sub hl [0, 1, 2, 3, 4] rfl)
    · have hF := z_neg hc12 hF
      exact J15 S D C E G Hs hF _ _ ls hP hD hS (lv_sub hl [0, 1, 2, 3, 4] rfl)
def rm_X6_remove : Room := { frames := 6, cells := 1, slots := 6, locals := 139 }
set_option maxRecDepth 100000 in
set_option maxHeartbeats 4000000 in
theorem c_X6_remove (l : Launch) (hlt : l.stackTraces = false) (Z : zZ) (sa : Nat → Nat) (mm : Nat) (As : Nat → Nat) (Bs : Nat → Nat) (Ac : Nat → Nat) (Bc : Nat → Nat) (Ag : Nat → Nat) (Bg : Nat → Nat) (hh ha : Nat) (Ah : Nat → Nat → Nat) (rt rq : Nat) (tl : Int32) (S : t_Script) (D : t_Script) (C : t_Scenes) (E : t_Scenes) (G : t_Pages) (F : t_Pages) (Hs : t_Hist) (tx : Rw) (p1 : Int32) (R : (Int32 ⊕ Nat) × t_Script × t_Script × t_Scenes × t_Pages × t_Hist) (hF : X6_remove tl S D C E G F Hs tx p1 = some R) : zXM l yX6_remove (zw yX6_remove cX6_remove 2 (some .int)) rm_X6_remove Z sa [.ref mm, .int p1] (List.flatten [w_Main mm As Bs Ac Bc Ag Bg hh rt tl, w_Script Z.2.1 As S, w_Script Z.2.1 Bs D, w_Scenes Z.2.1 Ac C, w_Scenes Z.2.1 Bc E, w_Pages Z.2.1 Ag G, w_Pages Z.2.1 Bg F, w_Hist Z.2.1 Z.2.2.1 hh ha Ah Hs, w_Row Z.2.1 200 rt rq tx]) (List.flatten [w_Main mm As Bs Ac Bc Ag Bg hh rt tl, w_Script Z.2.1 As R.2.1, w_Script Z.2.1 Bs R.2.2.1, w_Scenes Z.2.1 Ac R.2.2.2.1, w_Scenes Z.2.1 Bc E, w_Pages Z.2.1 Ag R.2.2.2.2.1, w_Pages Z.2.1 Bg F, w_Hist Z.2.1 Z.2.2.1 hh ha Ah R.2.2.2.2.2, w_Row Z.2.1 200 rt rq tx]) (zr R.1) := by
  refine zXM_of (by decide) (Nat.le_of_ble_eq_true rfl) (fun p e s m below meth c hx hb hr hml hown hts hlocks hK A hA hT hnt Q hQ ls hl hP hD hS => ?_)
  unfold X6_remove at hF
  have hl : lv_has ls 2 [(0, .ref mm), (1, .int p1)] := hl
  have hown : s.vm.findClass RX6 = some m.cls := hown
  refine lv_aload_n hx hb (z_d hX6_remove_0 0 rfl) rfl (lv_at hl 0 rfl) ?_
  refine va_get (D := Z.1) (ci := 6) (v := .ref (As 0)) (C := RX6) (T := TX6) (N := 9) hx hb hts zinX6 hown hK.1 (zP_reg hP 0 rfl) 0 rfl rfl 0 (by decide) (hts _ k_f_X6_12) (fun _ h9 => h9) rfl (z_d hX6_remove_0 1 rfl) ?_
  refine lv_iload_n hx hb (z_d hX6_remove_0 2 rfl) rfl (lv_at hl 1 rfl) ?_
  refine z_let hF (fun q1 hq1 hF => ?_)
  refine z_ro_i (z_rV (As := [.int p1]) (rest := []) hx hb hml hown hts vt_X5_has (c_X5_has l Z As S p1 _ hq1) rfl rfl ⟨Nat.le_of_ble_eq_true rfl, Nat.le_of_ble_eq_true rfl⟩ k_m_X6_110 zPro_blind (z_recv (q := (RX5, TX5, 10)) (ci := 5) (q0 := 0) hK (zP_reg (L := l_Script Z.2.1 As S.1 S.2.1 S.2.2.1 S.2.2.2.1 S.2.2.2.2.1 S.2.2.2.2.2.1 S.2.2.2.2.2.2.1 S.2.2.2.2.2.2.2.1 S.2.2.2.2.2.2.2.2.1 S.2.2.2.2.2.2.2.2.2) (zP_reg hP 1 rfl) 0 rfl) rfl rfl) (z_prec hK (zP_reg hP 1 rfl)) rfl hl.1 (Nat.le_of_ble_eq_true rfl) (z_d hX6_remove_0 3 rfl) ⟨Nat.zero_le _, Nat.zero_le _⟩) hS hP (fun H locs hP hS => ?_)
  refine lv_if_ne (tgt := 21) hx hb (z_d hX6_remove_0 4 rfl) (by decide) (fun hc8 => ?_) (fun hc8 => ?_)
  · have hF := z_neg hc8 hF
    refine lv_aload_n hx hb (z_d hX6_remove_0 10 rfl) rfl (lv_at hl 0 rfl) ?_
    refine va_get (D := Z.1) (ci := 6) (v := .ref (As 0)) (C := RX6) (T := TX6) (N := 9) hx hb hts zinX6 hown hK.1 (zP_reg hP 0 rfl) 0 rfl rfl 0 (by decide) (hts _ k_f_X6_12) (fun _ h9 => h9) rfl (z_d hX6_remove_0 11 rfl) ?_
    refine lv_iload_n hx hb (z_d hX6_remove_0 12 rfl) rfl (lv_at hl 1 rfl) ?_
    refine z_let hF (fun q2 hq2 hF => ?_)
    refine z_ro_i (z_rV (As := [.int p1]) (rest := []) hx hb hml hown hts vt_X5_isLocked (c_X5_isLocked l Z As S p1 _ hq2) rfl rfl ⟨Nat.le_of_ble_eq_true rfl, Nat.le_of_ble_eq_true rfl⟩ k_m_X6_115 zPro_blind (z_recv (q := (RX5, TX5, 10)) (ci := 5) (q0 := 0) hK (zP_reg (L := l_Script Z.2.1 As S.1 S.2.1 S.2.2.1 S.2.2.2.1 S.2.2.2.2.1 S.2.2.2.2.2.1 S.2.2.2.2.2.2.1 S.2.2.2.2.2.2.2.1 S.2.2.2.2.2.2.2.2.1 S.2.2.2.2.2.2.2.2.2) (zP_reg hP 1 rfl) 0 rfl) rfl rfl) (z_prec hK (zP_reg hP 1 rfl)) rfl hl.1 (Nat.le_of_ble_eq_true rfl) (z_d hX6_remove_0 13 rfl) ⟨Nat.zero_le _, Nat.zero_le _⟩) hS hP (fun H locs hP hS => ?_)
    refine lv_if_eq (tgt := 42) hx hb (z_d hX6_remove_0 14 rfl) (by decide) (fun hc29 => ?_) (fun hc29 => ?_)
    · have hF := z_pos hc29 hF
      refine lv_aload_n hx hb (z_d hX6_remove_0 20 rfl) rfl (lv_at hl 0 rfl) ?_
      refine va_get (D := Z.1) (ci := 6) (v := .ref (Bs 0)) (C := RX6) (T := TX6) (N := 9) hx hb hts zinX6 hown hK.1 (zP_reg hP 0 rfl) 0 rfl rfl 1 (by decide) (hts _ k_f_X6_16) (fun _ h9 => h9) rfl (z_d hX6_remove_0 21 rfl) ?_
      refine lv_aload_n hx hb (z_d hX6_remove_0 22 rfl) rfl (lv_at hl 0 rfl) ?_
      refine va_get (D := Z.1) (ci := 6) (v := .ref (As 0)) (C := RX6) (T := TX6) (N := 9) hx hb hts zinX6 hown hK.1 (zP_reg hP 0 rfl) 0 rfl rfl 0 (by decide) (hts _ k_f_X6_12) (fun _ h9 => h9) rfl (z_d hX6_remove_0 23 rfl) ?_
      refine z_let hF (fun q3 hq3 hF => ?_)
      refine z_mu2 (L := [w_Main mm As Bs Ac Bc Ag Bg hh rt tl, w_Script Z.2.1 As S, w_Script Z.2.1 Bs D, w_Scenes Z.2.1 Ac C, w_Scenes Z.2.1 Bc E, w_Pages Z.2.1 Ag G, w_Pages Z.2.1 Bg F, w_Hist Z.2.1 Z.2.2.1 hh ha Ah Hs, w_Row Z.2.1 200 rt rq tx]) (L' := [w_Main mm As Bs Ac Bc Ag Bg hh rt tl, w_Script Z.2.1 As S, w_Script Z.2.1 Bs q3, w_Scenes Z.2.1 Ac C, w_Scenes Z.2.1 Bc E, w_Pages Z.2.1 Ag G, w_Pages Z.2.1 Bg F, w_Hist Z.2.1 Z.2.2.1 hh ha Ah Hs, w_Row Z.2.1 200 rt rq tx]) (z_rV (As := [.ref (As 0)]) (rest := []) hx hb hml hown hts vt_X5_copyFrom (c_X5_copyFrom l Z Bs As D S _ hq3) rfl rfl ⟨Nat.le_of_ble_eq_true rfl, Nat.le_of_ble_eq_true rfl⟩ k_m_X6_94 zPmu_blind (z_recv (q := (RX5, TX5, 10)) (ci := 5) (q0 := 0) hK (zP_reg (L := l_Script Z.2.1 Bs D.1 D.2.1 D.2.2.1 D.2.2.2.1 D.2.2.2.2.1 D.2.2.2.2.2.1 D.2.2.2.2.2.2.1 D.2.2.2.2.2.2.2.1 D.2.2.2.2.2.2.2.2.1 D.2.2.2.2.2.2.2.2.2) (zP_reg hP 2 rfl) 0 rfl) rfl rfl) (z_prem hK (zP_r2 hP 2 1 rfl rfl) (zD_r2 hD 2 1 rfl rfl (by decide))) rfl hl.1 (Nat.le_of_ble_eq_true rfl) (z_d hX6_remove_0 24 rfl) ⟨Nat.zero_le _, Nat.zero_le _⟩) hS hP hD 2 1 rfl rfl (by decide) rfl (adr_Script _ _ _ _) (adr_Script _ _ _ _) (fun H locs hP hD hS => ?_)
      refine W.eq (g2 := F0 m 53 ls []) rfl ?_
      refine lv_aload_n hx hb (z_d hX6_remove_0 25 rfl) rfl (lv_at hl 0 rfl) ?_
      refine va_get (D := Z.1) (ci := 6) (v := .ref (Bs 0)) (C := RX6) (T := TX6) (N := 9) hx hb hts zinX6 hown hK.1 (zP_reg hP 0 rfl) 0 rfl rfl 1 (by decide) (hts _ k_f_X6_16) (fun _ h9 => h9) rfl (z_d hX6_remove_0 26 rfl) ?_
      refine lv_iload_n hx hb (z_d hX6_remove_0 27 rfl) rfl (lv_at hl 1 rfl) ?_
      refine z_bnd hF (fun q4 hq4 hF => ?_)
      refine z_mu1 (L := [w_Main mm As Bs Ac Bc Ag Bg hh rt tl, w_Script Z.2.1 As S, w_Script Z.2.1 Bs q3, w_Scenes Z.2.1 Ac C, w_Scenes Z.2.1 Bc E, w_Pages Z.2.1 Ag G, w_Pages Z.2.1 Bg F, w_Hist Z.2.1 Z.2.2.1 hh ha Ah Hs, w_Row Z.2.1 200 rt rq tx]) (L' := [w_Main mm As Bs Ac Bc Ag Bg hh rt tl, w_Script Z.2.1 As S, w_Script Z.2.1 Bs q4, w_Scenes Z.2.1 Ac C, w_Scenes Z.2.1 Bc E, w_Pages Z.2.1 Ag G, w_Pages Z.2.1 Bg F, w_Hist Z.2.1 Z.2.2.1 hh ha Ah Hs, w_Row Z.2.1 200 rt rq tx]) (z_rV (As := [.int p1]) (rest := []) hx hb hml hown hts vt_X5_takeOut (c_X5_takeOut l Z Bs q3 p1 _ hq4) rfl rfl ⟨Nat.le_of_ble_eq_true rfl, Nat.le_of_ble_eq_true rfl⟩ k_m_X6_120 zPmu_blind (z_recv (q := (RX5, TX5, 10)) (ci := 5) (q0 := 0) hK (zP_reg (L := l_Script Z.2.1 Bs q3.1 q3.2.1 q3.2.2.1 q3.2.2.2.1 q3.2.2.2.2.1 q3.2.2.2.2.2.1 q3.2.2.2.2.2.2.1 q3.2.2.2.2.2.2.2.1 q3.2.2.2.2.2.2.2.2.1 q3.2.2.2.2.2.2.2.2.2) (zP_reg hP 2 rfl) 0 rfl) rfl rfl) (z_prem hK (zP_reg hP 2 rfl) (zD_one hD 2 _ rfl)) rfl hl.1 (Nat.le_of_ble_eq_true rfl) (z_d hX6_remove_0 28 rfl) ⟨Nat.zero_le _, Nat.zero_le _⟩) hS hP hD 2 rfl rfl (adr_Script _ _ _ _) (fun H locs hP hD hS => ?_)
      refine W.eq (g2 := F0 m 61 ls []) rfl ?_
      refine lv_aload_n hx hb (z_d hX6_remove_0 29 rfl) rfl (lv_at hl 0 rfl) ?_
      refine z_bnd hF (fun q5 hq5 hF => ?_)
      refine z_mu0 (z_rV (As := []) (rest := []) hx hb hml hown hts vt_X6_keepDraft (c_X6_keepDraft l Z mm As Bs Ac Bc Ag Bg hh ha Ah rt rq tl S q4 C E G F Hs tx _ hq5) rfl rfl ⟨Nat.le_of_ble_eq_true rfl, Nat.le_of_ble_eq_true rfl⟩ k_m_X6_107 zPmu_blind (z_recv (q := (RX6, TX6, 9)) (ci := 6) (q0 := 0) hK (zP_reg hP 0 rfl) rfl rfl) (z_prem hK hP hD) rfl hl.1 (Nat.le_of_ble_eq_true rfl) (z_d hX6_remove_0 30 rfl) ⟨Nat.zero_le _, Nat.zero_le _⟩) hS hD (zadr_cons rfl (zadr_cons (adr_Script _ _ _ _) (zadr_cons (adr_Script _ _ _ _) (zadr_cons (adr_Scenes _ _ _ _) (zadr_cons (adr_Scenes _ _ _ _) (zadr_cons (adr_Pages _ _ _ _) (zadr_cons (adr_Pages _ _ _ _) (zadr_cons (adr_Hist _ _ _ _ _ _ _) (zadr_cons rfl rfl))))))))) (fun H locs hP hD hS => ?_)
      have hP : va_P Z.1 vwCl ([w_Main mm As Bs Ac Bc Ag Bg hh rt tl, w_Script Z.2.1 As q5.1, w_Script Z.2.1 Bs q4, w_Scenes Z.2.1 Ac q5.2.1, w_Scenes Z.2.1 Bc E, w_Pages Z.2.1 Ag q5.2.2.1, w_Pages Z.2.1 Bg F, w_Hist Z.2.1 Z.2.2.1 hh ha Ah q5.2.2.2, w_Row Z.2.1 200 rt rq tx]).flatten H := hP
      have hD : va_D A ([w_Main mm As Bs Ac Bc Ag Bg hh rt tl, w_Script Z.2.1 As q5.1, w_Script Z.2.1 Bs q4, w_Scenes Z.2.1 Ac q5.2.1, w_Scenes Z.2.1 Bc E, w_Pages Z.2.1 Ag q5.2.2.1, w_Pages Z.2.1 Bg F, w_Hist Z.2.1 Z.2.2.1 hh ha Ah q5.2.2.2, w_Row Z.2.1 200 rt rq tx]).flatten := hD
      refine W.eq (g2 := F0 m 65 ls []) rfl ?_
      refine lv_aload_n hx hb (z_d hX6_remove_0 31 rfl) rfl (lv_at hl 0 rfl) ?_
      refine va_get (D := Z.1) (ci := 6) (v := .ref (As 0)) (C := RX6) (T := TX6) (N := 9) hx hb hts zinX6 hown hK.1 (zP_reg hP 0 rfl) 0 rfl rfl 0 (by decide) (hts _ k_f_X6_12) (fun _ h9 => h9) rfl (z_d hX6_remove_0 32 rfl) ?_
      refine va_getN (D := Z.1) (ci := 5) (v := .int q5.1.1) (C := RX5) (T := TX5) (N := 10) hx hb hts zinX5 hown hK.1 (zP_reg (L := l_Script Z.2.1 As q5.1.1 q5.1.2.1 q5.1.2.2.1 q5.1.2.2.2.1 q5.1.2.2.2.2.1 q5.1.2.2.2.2.2.1 q5.1.2.2.2.2.2.2.1 q5.1.2.2.2.2.2.2.2.1 q5.1.2.2.2.2.2.2.2.2.1 q5.1.2.2.2.2.2.2.2.2.2) (zP_reg hP 1 rfl) 0 rfl) 0 rfl rfl 0 (by decide) (kn_X6_59 hK.2) (fun _ h9 => h9) rfl (z_d hX6_remove_0 33 rfl) ?_
      obtain rfl := Option.some.inj hF
      subst hQ
      subst hA
      exact z_xret hx hb hr hlocks rfl hP hS (z_d hX6_remove_0 34 rfl)
    · have hF := z_neg hc29 hF
      obtain rfl := Option.some.inj hF
      subst hQ
      subst hA
      exact z_throw (ik := 89) (ic := 93) (is := 118) (cls := "java/lang/IllegalStateException") (text := "it is the heading of a locked scene") (by decide) (by decide) hx hb hlt hown hts hT hnt hlocks k_c_X6_89 k_i_IllegalStateException hS (hl.1.trans hml.symm) rfl hP ⟨⟨Nat.le_of_ble_eq_true rfl, Nat.le_of_ble_eq_true rfl⟩, ⟨Nat.le_of_ble_eq_true rfl, Nat.le_of_ble_eq_true rfl⟩⟩ (z_d hX6_remove_0 15 rfl) (z_d hX6_remove_0 16 rfl) (z_d hX6_remove_0 17 rfl) (z_d hX6_remove_0 18 rfl) (z_d hX6_remove_0 19 rfl)
  · have hF := z_pos hc8 hF
    obtain rfl := Option.some.inj hF
    subst hQ
    subst hA
    exact z_throw (ik := 62) (ic := 66) (is := 113) (cls := "java/lang/IndexOutOfBoundsException") (text := "no such element") (by decide) (by decide) hx hb hlt hown hts hT hnt hlocks k_c_X6_62 k_i_IndexOutOfBoundsException hS (hl.1.trans hml.symm) rfl hP ⟨⟨Nat.le_of_ble_eq_true rfl, Nat.le_of_ble_eq_true rfl⟩, ⟨Nat.le_of_ble_eq_true rfl, Nat.le_of_ble_eq_true rfl⟩⟩ (z_d hX6_remove_0 5 rfl) (z_d hX6_remove_0 6 rfl) (z_d hX6_remove_0 7 rfl) (z_d hX6_remove_0 8 rfl) (z_d hX6_remove_0 9 rfl)
def rm_X6_setLength : Room := { frames := 6, cells := 1, slots := 6, locals := 139 }
set_option maxRecDepth 100000 in
set_option maxHeartbeats 4000000 in
theorem c_X6_setLength (l : Launch) (hlt : l.stackTraces = false) (Z : zZ) (sa : Nat → Nat) (mm : Nat) (As : Nat → Nat) (Bs : Nat → Nat) (Ac : Nat → Nat) (Bc : Nat → Nat) (Ag : Nat → Nat) (Bg : Nat → Nat) (hh ha : Nat) (Ah : Nat → Nat → Nat) (rt rq : Nat) (tl : Int32) (S : t_Script) (D : t_Script) (C : t_Scenes) (E : t_Scenes) (G : t_Pages) (F : t_Pages) (Hs : t_Hist) (tx : Rw) (p1 : Int32) (p2 : Int32) (R : (Int32 ⊕ Nat) × t_Script × t_Script × t_Scenes × t_Pages × t_Hist) (hF : X6_setLength tl S D C E G F Hs tx p1 p2 = some R) : zXM l yX6_setLength (zw yX6_setLength cX6_setLength 3 (some .int)) rm_X6_setLength Z sa [.ref mm, .int p1, .int p2] (List.flatten [w_Main mm As Bs Ac Bc Ag Bg hh rt tl, w_Script Z.2.1 As S, w_Script Z.2.1 Bs D, w_Scenes Z.2.1 Ac C, w_Scenes Z.2.1 Bc E, w_Pages Z.2.1 Ag G, w_Pages Z.2.1 Bg F, w_Hist Z.2.1 Z.2.2.1 hh ha Ah Hs, w_Row Z.2.1 200 rt rq tx]) (List.flatten [w_Main mm As Bs Ac Bc Ag Bg hh rt tl, w_Script Z.2.1 As R.2.1, w_Script Z.2.1 Bs R.2.2.1, w_Scenes Z.2.1 Ac R.2.2.2.1, w_Scenes Z.2.1 Bc E, w_Pages Z.2.1 Ag R.2.2.2.2.1, w_Pages Z.2.1 Bg F, w_Hist Z.2.1 Z.2.2.1 hh ha Ah R.2.2.2.2.2, w_Row Z.2.1 200 rt rq tx]) (zr R.1) := by
  refine zXM_of (by decide) (Nat.le_of_ble_eq_true rfl) (fun p e s m below meth c hx hb hr hml hown hts hlocks hK A hA hT hnt Q hQ ls hl hP hD hS => ?_)
  unfold X6_setLength at hF
  have hl : lv_has ls 3 [(0, .ref mm), (1, .int p1), (2, .int p2)] := hl
  have hown : s.vm.findClass RX6 = some m.cls := hown
  refine lv_aload_n hx hb (z_d hX6_setLength_0 0 rfl) rfl (lv_at hl 0 rfl) ?_
  refine va_get (D := Z.1) (ci := 6) (v := .ref (As 0)) (C := RX6) (T := TX6) (N := 9) hx hb hts zinX6 hown hK.1 (zP_reg hP 0 rfl) 0 rfl rfl 0 (by decide) (hts _ k_f_X6_12) (fun _ h9 => h9) rfl (z_d hX6_setLength_0 1 rfl) ?_
  refine lv_iload_n hx hb (z_d hX6_setLength_0 2 rfl) rfl (lv_at hl 1 rfl) ?_
  refine z_let hF (fun q1 hq1 hF => ?_)
  refine z_ro_i (z_rV (As := [.int p1]) (rest := []) hx hb hml hown hts vt_X5_has (c_X5_has l Z As S p1 _ hq1) rfl rfl ⟨Nat.le_of_ble_eq_true rfl, Nat.le_of_ble_eq_true rfl⟩ k_m_X6_110 zPro_blind (z_recv (q := (RX5, TX5, 10)) (ci := 5) (q0 := 0) hK (zP_reg (L := l_Script Z.2.1 As S.1 S.2.1 S.2.2.1 S.2.2.2.1 S.2.2.2.2.1 S.2.2.2.2.2.1 S.2.2.2.2.2.2.1 S.2.2.2.2.2.2.2.1 S.2.2.2.2.2.2.2.2.1 S.2.2.2.2.2.2.2.2.2) (zP_reg hP 1 rfl) 0 rfl) rfl rfl) (z_prec hK (zP_reg hP 1 rfl)) rfl hl.1 (Nat.le_of_ble_eq_true rfl) (z_d hX6_setLength_0 3 rfl) ⟨Nat.zero_le _, Nat.zero_le _⟩) hS hP (fun H locs hP hS => ?_)
  refine lv_if_ne (tgt := 21) hx hb (z_d hX6_setLength_0 4 rfl) (by decide) (fun hc8 => ?_) (fun hc8 => ?_)
  · have hF := z_neg hc8 hF
    refine lv_iload_n hx hb (z_d hX6_setLength_0 10 rfl) rfl (lv_at hl 2 rfl) ?_
    refine z_let hF (fun q2 hq2 hF => ?_)
    refine z_ro_i (z_rS (As := [.int p2]) (rest := []) hx hb hml hown hts vs_X6_isLength (c_X6_isLength l Z p2 _ hq2) rfl rfl ⟨Nat.le_of_ble_eq_true rfl, Nat.le_of_ble_eq_true rfl⟩ k_m_X6_73 zPro_blind (z_prec hK zP_nil) rfl hl.1 (Nat.le_of_ble_eq_true rfl) (z_d hX6_setLength_0 11 rfl) ⟨Nat.zero_le _, Nat.zero_le _⟩) hS hP (fun H locs hP hS => ?_)
    refine lv_if_ne (tgt := 38) hx hb (z_d hX6_setLength_0 12 rfl) (by decide) (fun hc25 => ?_) (fun hc25 => ?_)
    · have hF := z_neg hc25 hF
      refine lv_aload_n hx hb (z_d hX6_setLength_0 18 rfl) rfl (lv_at hl 0 rfl) ?_
      refine va_get (D := Z.1) (ci := 6) (v := .ref (Bs 0)) (C := RX6) (T := TX6) (N := 9) hx hb hts zinX6 hown hK.1 (zP_reg hP 0 rfl) 0 rfl rfl 1 (by decide) (hts _ k_f_X6_16) (fun _ h9 => h9) rfl (z_d hX6_setLength_0 19 rfl) ?_
      refine lv_aload_n hx hb (z_d hX6_setLength_0 20 rfl) rfl (lv_at hl 0 rfl) ?_
      refine va_get (D := Z.1) (ci := 6) (v := .ref (As 0)) (C := RX6) (T := TX6) (N := 9) hx hb hts zinX6 hown hK.1 (zP_reg hP 0 rfl) 0 rfl rfl 0 (by decide) (hts _ k_f_X6_12) (fun _ h9 => h9) rfl (z_d hX6_setLength_0 21 rfl) ?_
      refine z_let hF (fun q3 hq3 hF => ?_)
      refine z_mu2 (L := [w_Main mm As Bs Ac Bc Ag Bg hh rt tl, w_Script Z.2.1 As S, w_Script Z.2.1 Bs D, w_Scenes Z.2.1 Ac C, w_Scenes Z.2.1 Bc E, w_Pages Z.2.1 Ag G, w_Pages Z.2.1 Bg F, w_Hist Z.2.1 Z.2.2.1 hh ha Ah Hs, w_Row Z.2.1 200 rt rq tx]) (L' := [w_Main mm As Bs Ac Bc Ag Bg hh rt tl, w_Script Z.2.1 As S, w_Script Z.2.1 Bs q3, w_Scenes Z.2.1 Ac C, w_Scenes Z.2.1 Bc E, w_Pages Z.2.1 Ag G, w_Pages Z.2.1 Bg F, w_Hist Z.2.1 Z.2.2.1 hh ha Ah Hs, w_Row Z.2.1 200 rt rq tx]) (z_rV (As := [.ref (As 0)]) (rest := []) hx hb hml hown hts vt_X5_copyFrom (c_X5_copyFrom l Z Bs As D S _ hq3) rfl rfl ⟨Nat.le_of_ble_eq_true rfl, Nat.le_of_ble_eq_true rfl⟩ k_m_X6_94 zPmu_blind (z_recv (q := (RX5, TX5, 10)) (ci := 5) (q0 := 0) hK (zP_reg (L := l_Script Z.2.1 Bs D.1 D.2.1 D.2.2.1 D.2.2.2.1 D.2.2.2.2.1 D.2.2.2.2.2.1 D.2.2.2.2.2.2.1 D.2.2.2.2.2.2.2.1 D.2.2.2.2.2.2.2.2.1 D.2.2.2.2.2.2.2.2.2) (zP_reg hP 2 rfl) 0 rfl) rfl rfl) (z_prem hK (zP_r2 hP 2 1 rfl rfl) (zD_r2 hD 2 1 rfl rfl (by decide))) rfl hl.1 (Nat.le_of_ble_eq_true rfl) (z_d hX6_setLength_0 22 rfl) ⟨Nat.zero_le _, Nat.zero_le _⟩) hS hP hD 2 1 rfl rfl (by decide) rfl (adr_Script _ _ _ _) (adr_Script _ _ _ _) (fun H locs hP hD hS => ?_)
      refine W.eq (g2 := F0 m 49 ls []) rfl ?_
      refine lv_aload_n hx hb (z_d hX6_setLength_0 23 rfl) rfl (lv_at hl 0 rfl) ?_
      refine va_get (D := Z.1) (ci := 6) (v := .ref (Bs 0)) (C := RX6) (T := TX6) (N := 9) hx hb hts zinX6 hown hK.1 (zP_reg hP 0 rfl) 0 rfl rfl 1 (by decide) (hts _ k_f_X6_16) (fun _ h9 => h9) rfl (z_d hX6_setLength_0 24 rfl) ?_
      refine va_getN (D := Z.1) (ci := 5) (v := .ref (Bs 3)) (C := RX5) (T := TX5) (N := 10) hx hb hts zinX5 hown hK.1 (zP_reg (L := l_Script Z.2.1 Bs q3.1 q3.2.1 q3.2.2.1 q3.2.2.2.1 q3.2.2.2.2.1 q3.2.2.2.2.2.1 q3.2.2.2.2.2.2.1 q3.2.2.2.2.2.2.2.1 q3.2.2.2.2.2.2.2.2.1 q3.2.2.2.2.2.2.2.2.2) (zP_reg hP 2 rfl) 0 rfl) 0 rfl rfl 3 (by decide) (kn_X6_125 hK.2) (fun _ h9 => h9) rfl (z_d hX6_setLength_0 25 rfl) ?_
      refine lv_iload_n hx hb (z_d hX6_setLength_0 26 rfl) rfl (lv_at hl 1 rfl) ?_
      refine lv_iload_n hx hb (z_d hX6_setLength_0 27 rfl) rfl (lv_at hl 2 rfl) ?_
      refine z_let hF (fun q4 hq4 hF => ?_)
      have hP2 := zfm (pre := [w_Main mm As Bs Ac Bc Ag Bg hh rt tl, w_Script Z.2.1 As S]) (l := l_Script Z.2.1 Bs q3.1 q3.2.1 q3.2.2.1 q3.2.2.2.1 q3.2.2.2.2.1 q3.2.2.2.2.2.1 q3.2.2.2.2.2.2.1 q3.2.2.2.2.2.2.2.1 q3.2.2.2.2.2.2.2.2.1 q3.2.2.2.2.2.2.2.2.2) (post := [w_Scenes Z.2.1 Ac C, w_Scenes Z.2.1 Bc E, w_Pages Z.2.1 Ag G, w_Pages Z.2.1 Bg F, w_Hist Z.2.1 Z.2.2.1 hh ha Ah Hs, w_Row Z.2.1 200 rt rq tx]) hP
      have hD2 := zfmD (pre := [w_Main mm As Bs Ac Bc Ag Bg hh rt tl, w_Script Z.2.1 As S]) (l := l_Script Z.2.1 Bs q3.1 q3.2.1 q3.2.2.1 q3.2.2.2.1 q3.2.2.2.2.1 q3.2.2.2.2.2.1 q3.2.2.2.2.2.2.1 q3.2.2.2.2.2.2.2.1 q3.2.2.2.2.2.2.2.2.1 q3.2.2.2.2.2.2.2.2.2) (post := [w_Scenes Z.2.1 Ac C, w_Scenes Z.2.1 Bc E, w_Pages Z.2.1 Ag G, w_Pages Z.2.1 Bg F, w_Hist Z.2.1 Z.2.2.1 hh ha Ah Hs, w_Row Z.2.1 200 rt rq tx]) hD
      refine z_mu1 (L := [w_Main mm As Bs Ac Bc Ag Bg hh rt tl, w_Script Z.2.1 As S] ++ (l_Script Z.2.1 Bs q3.1 q3.2.1 q3.2.2.1 q3.2.2.2.1 q3.2.2.2.2.1 q3.2.2.2.2.2.1 q3.2.2.2.2.2.2.1 q3.2.2.2.2.2.2.2.1 q3.2.2.2.2.2.2.2.2.1 q3.2.2.2.2.2.2.2.2.2 ++ [w_Scenes Z.2.1 Ac C, w_Scenes Z.2.1 Bc E, w_Pages Z.2.1 Ag G, w_Pages Z.2.1 Bg F, w_Hist Z.2.1 Z.2.2.1 hh ha Ah Hs, w_Row Z.2.1 200 rt rq tx])) (L' := [w_Main mm As Bs Ac Bc Ag Bg hh rt tl, w_Script Z.2.1 As S] ++ (l_Script Z.2.1 Bs q3.1 q3.2.1 q3.2.2.1 q4 q3.2.2.2.2.1 q3.2.2.2.2.2.1 q3.2.2.2.2.2.2.1 q3.2.2.2.2.2.2.2.1 q3.2.2.2.2.2.2.2.2.1 q3.2.2.2.2.2.2.2.2.2 ++ [w_Scenes Z.2.1 Ac C, w_Scenes Z.2.1 Bc E, w_Pages Z.2.1 Ag G, w_Pages Z.2.1 Bg F, w_Hist Z.2.1 Z.2.2.1 hh ha Ah Hs, w_Row Z.2.1 200 rt rq tx])) (z_rV (As := [.int p1, .int p2]) (rest := []) hx hb hml hown hts vt_X3_put (c_rPut l Z 60 (Bs 3) (Bs 4) (by decide) q3.2.2.2.1 p1 p2 _ hq4) rfl rfl ⟨Nat.le_of_ble_eq_true rfl, Nat.le_of_ble_eq_true rfl⟩ k_m_X6_128 zPmu_blind (z_recv (q := (RX3, TX3, 1)) (ci := 3) (q0 := 0) hK (zP_reg (L := l_Script Z.2.1 Bs q3.1 q3.2.1 q3.2.2.1 q3.2.2.2.1 q3.2.2.2.2.1 q3.2.2.2.2.2.1 q3.2.2.2.2.2.2.1 q3.2.2.2.2.2.2.2.1 q3.2.2.2.2.2.2.2.2.1 q3.2.2.2.2.2.2.2.2.2) (zP_reg hP 2 rfl) 2 rfl) rfl rfl) (z_prem hK (zP_reg (L := l_Script Z.2.1 Bs q3.1 q3.2.1 q3.2.2.1 q3.2.2.2.1 q3.2.2.2.2.1 q3.2.2.2.2.2.1 q3.2.2.2.2.2.2.1 q3.2.2.2.2.2.2.2.1 q3.2.2.2.2.2.2.2.2.1 q3.2.2.2.2.2.2.2.2.2) (zP_reg hP 2 rfl) 2 rfl) (zD_one (L := [w_Main mm As Bs Ac Bc Ag Bg hh rt tl, w_Script Z.2.1 As S] ++ (l_Script Z.2.1 Bs q3.1 q3.2.1 q3.2.2.1 q3.2.2.2.1 q3.2.2.2.2.1 q3.2.2.2.2.2.1 q3.2.2.2.2.2.2.1 q3.2.2.2.2.2.2.2.1 q3.2.2.2.2.2.2.2.2.1 q3.2.2.2.2.2.2.2.2.2 ++ [w_Scenes Z.2.1 Ac C, w_Scenes Z.2.1 Bc E, w_Pages Z.2.1 Ag G, w_Pages Z.2.1 Bg F, w_Hist Z.2.1 Z.2.2.1 hh ha Ah Hs, w_Row Z.2.1 200 rt rq tx])) hD2 4 _ rfl)) rfl hl.1 (Nat.le_of_ble_eq_true rfl) (z_d hX6_setLength_0 28 rfl) ⟨Nat.zero_le _, Nat.zero_le _⟩) hS hP2 hD2 4 rfl rfl rfl (fun H locs hP hD hS => ?_)
      have hP : va_P Z.1 vwCl ([w_Main mm As Bs Ac Bc Ag Bg hh rt tl, w_Script Z.2.1 As S, w_Script Z.2.1 Bs (q3.1, q3.2.1, q3.2.2.1, q4, q3.2.2.2.2.1, q3.2.2.2.2.2.1, q3.2.2.2.2.2.2.1, q3.2.2.2.2.2.2.2.1, q3.2.2.2.2.2.2.2.2.1, q3.2.2.2.2.2.2.2.2.2), w_Scenes Z.2.1 Ac C, w_Scenes Z.2.1 Bc E, w_Pages Z.2.1 Ag G, w_Pages Z.2.1 Bg F, w_Hist Z.2.1 Z.2.2.1 hh ha Ah Hs, w_Row Z.2.1 200 rt rq tx]).flatten H := zfn (pre := [w_Main mm As Bs Ac Bc Ag Bg hh rt tl, w_Script Z.2.1 As S]) (l := l_Script Z.2.1 Bs q3.1 q3.2.1 q3.2.2.1 q4 q3.2.2.2.2.1 q3.2.2.2.2.2.1 q3.2.2.2.2.2.2.1 q3.2.2.2.2.2.2.2.1 q3.2.2.2.2.2.2.2.2.1 q3.2.2.2.2.2.2.2.2.2) (post := [w_Scenes Z.2.1 Ac C, w_Scenes Z.2.1 Bc E, w_Pages Z.2.1 Ag G, w_Pages Z.2.1 Bg F, w_Hist Z.2.1 Z.2.2.1 hh ha Ah Hs, w_Row Z.2.1 200 rt rq tx]) hP
      have hD : va_D A ([w_Main mm As Bs Ac Bc Ag Bg hh rt tl, w_Script Z.2.1 As S, w_Script Z.2.1 Bs (q3.1, q3.2.1, q3.2.2.1, q4, q3.2.2.2.2.1, q3.2.2.2.2.2.1, q3.2.2.2.2.2.2.1, q3.2.2.2.2.2.2.2.1, q3.2.2.2.2.2.2.2.2.1, q3.2.2.2.2.2.2.2.2.2), w_Scenes Z.2.1 Ac C, w_Scenes Z.2.1 Bc E, w_Pages Z.2.1 Ag G, w_Pages Z.2.1 Bg F, w_Hist Z.2.1 Z.2.2.1 hh ha Ah Hs, w_Row Z.2.1 200 rt rq tx]).flatten := zfnD (pre := [w_Main mm As Bs Ac Bc Ag Bg hh rt tl, w_Script Z.2.1 As S]) (l := l_Script Z.2.1 Bs q3.1 q3.2.1 q3.2.2.1 q4 q3.2.2.2.2.1 q3.2.2.2.2.2.1 q3.2.2.2.2.2.2.1 q3.2.2.2.2.2.2.2.1 q3.2.2.2.2.2.2.2.2.1 q3.2.2.2.2.2.2.2.2.2) (post := [w_Scenes Z.2.1 Ac C, w_Scenes Z.2.1 Bc E, w_Pages Z.2.1 Ag G, w_Pages Z.2.1 Bg F, w_Hist Z.2.1 Z.2.2.1 hh ha Ah Hs, w_Row Z.2.1 200 rt rq tx]) hD
      refine W.eq (g2 := F0 m 61 ls []) rfl ?_
      refine lv_aload_n hx hb (z_d hX6_setLength_0 29 rfl) rfl (lv_at hl 0 rfl) ?_
      refine z_bnd hF (fun q5 hq5 hF => ?_)
      refine z_mu0 (z_rV (As := []) (rest := []) hx hb hml hown hts vt_X6_keepDraft (c_X6_keepDraft l Z mm As Bs Ac Bc Ag Bg hh ha Ah rt rq tl S (q3.1, q3.2.1, q3.2.2.1, q4, q3.2.2.2.2.1, q3.2.2.2.2.2.1, q3.2.2.2.2.2.2.1, q3.2.2.2.2.2.2.2.1, q3.2.2.2.2.2.2.2.2.1, q3.2.2.2.2.2.2.2.2.2) C E G F Hs tx _ hq5) rfl rfl ⟨Nat.le_of_ble_eq_true rfl, Nat.le_of_ble_eq_true rfl⟩ k_m_X6_107 zPmu_blind (z_recv (q := (RX6, TX6, 9)) (ci := 6) (q0 := 0) hK (zP_reg hP 0 rfl) rfl rfl) (z_prem hK hP hD) rfl hl.1 (Nat.le_of_ble_eq_true rfl) (z_d hX6_setLength_0 30 rfl) ⟨Nat.zero_le _, Nat.zero_le _⟩) hS hD (zadr_cons rfl (zadr_cons (adr_Script _ _ _ _) (zadr_cons (adr_Script _ _ _ _) (zadr_cons (adr_Scenes _ _ _ _) (zadr_cons (adr_Scenes _ _ _ _) (zadr_cons (adr_Pages _ _ _ _) (zadr_cons (adr_Pages _ _ _ _) (zadr_cons (adr_Hist _ _ _ _ _ _ _) (zadr_cons rfl rfl))))))))) (fun H locs hP hD hS => ?_)
      have hP : va_P Z.1 vwCl ([w_Main mm As Bs Ac Bc Ag Bg hh rt tl, w_Script Z.2.1 As q5.1, w_Script Z.2.1 Bs (q3.1, q3.2.1, q3.2.2.1, q4, q3.2.2.2.2.1, q3.2.2.2.2.2.1, q3.2.2.2.2.2.2.1, q3.2.2.2.2.2.2.2.1, q3.2.2.2.2.2.2.2.2.1, q3.2.2.2.2.2.2.2.2.2), w_Scenes Z.2.1 Ac q5.2.1, w_Scenes Z.2.1 Bc E, w_Pages Z.2.1 Ag q5.2.2.1, w_Pages Z.2.1 Bg F, w_Hist Z.2.1 Z.2.2.1 hh ha Ah q5.2.2.2, w_Row Z.2.1 200 rt rq tx]).flatten H := hP
      have hD : va_D A ([w_Main mm As Bs Ac Bc Ag Bg hh rt tl, w_Script Z.2.1 As q5.1, w_Script Z.2.1 Bs (q3.1, q3.2.1, q3.2.2.1, q4, q3.2.2.2.2.1, q3.2.2.2.2.2.1, q3.2.2.2.2.2.2.1, q3.2.2.2.2.2.2.2.1, q3.2.2.2.2.2.2.2.2.1, q3.2.2.2.2.2.2.2.2.2), w_Scenes Z.2.1 Ac q5.2.1, w_Scenes Z.2.1 Bc E, w_Pages Z.2.1 Ag q5.2.2.1, w_Pages Z.2.1 Bg F, w_Hist Z.2.1 Z.2.2.1 hh ha Ah q5.2.2.2, w_Row Z.2.1 200 rt rq tx]).flatten := hD
      refine W.eq (g2 := F0 m 65 ls []) rfl ?_
      refine lv_aload_n hx hb (z_d hX6_setLength_0 31 rfl) rfl (lv_at hl 0 rfl) ?_
      refine va_get (D := Z.1) (ci := 6) (v := .ref (As 0)) (C := RX6) (T := TX6) (N := 9) hx hb hts zinX6 hown hK.1 (zP_reg hP 0 rfl) 0 rfl rfl 0 (by decide) (hts _ k_f_X6_12) (fun _ h9 => h9) rfl (z_d hX6_setLength_0 32 rfl) ?_
      refine lv_iload_n hx hb (z_d hX6_setLength_0 33 rfl) rfl (lv_at hl 1 rfl) ?_
      refine z_let hF (fun q6 hq6 hF => ?_)
      refine z_ro_i (z_rV (As := [.int p1]) (rest := []) hx hb hml hown hts vt_X5_linesOf (c_X5_linesOf l Z As q5.1 p1 _ hq6) rfl rfl ⟨Nat.le_of_ble_eq_true rfl, Nat.le_of_ble_eq_true rfl⟩ k_m_X6_132 zPro_blind (z_recv (q := (RX5, TX5, 10)) (ci := 5) (q0 := 0) hK (zP_reg (L := l_Script Z.2.1 As q5.1.1 q5.1.2.1 q5.1.2.2.1 q5.1.2.2.2.1 q5.1.2.2.2.2.1 q5.1.2.2.2.2.2.1 q5.1.2.2.2.2.2.2.1 q5.1.2.2.2.2.2.2.2.1 q5.1.2.2.2.2.2.2.2.2.1 q5.1.2.2.2.2.2.2.2.2.2) (zP_reg hP 1 rfl) 0 rfl) rfl rfl) (z_prec hK (zP_reg hP 1 rfl)) rfl hl.1 (Nat.le_of_ble_eq_true rfl) (z_d hX6_setLength_0 34 rfl) ⟨Nat.zero_le _, Nat.zero_le _⟩) hS hP (fun H locs hP hS => ?_)
      obtain rfl := Option.some.inj hF
      subst hQ
      subst hA
      exact z_xret hx hb hr hlocks rfl hP hS (z_d hX6_setLength_0 35 rfl)
    · have hF := z_pos hc25 hF
      obtain rfl := Option.some.inj hF
      subst hQ
      subst hA
      exact z_throw (ik := 80) (ic := 84) (is := 123) (cls := "java/lang/IllegalArgumentException") (text := "length is out of range") (by decide) (by decide) hx hb hlt hown hts hT hnt hlocks k_c_X6_80 k_i_IllegalArgumentException hS (hl.1.trans hml.symm) rfl hP ⟨⟨Nat.le_of_ble_eq_true rfl, Nat.le_of_ble_eq_true rfl⟩, ⟨Nat.le_of_ble_eq_true rfl, Nat.le_of_ble_eq_true rfl⟩⟩ (z_d hX6_setLength_0 13 rfl) (z_d hX6_setLength_0 14 rfl) (z_d hX6_setLength_0 15 rfl) (z_d hX6_setLength_0 16 rfl) (z_d hX6_setLength_0 17 rfl)
  · have hF := z_pos hc8 hF
    obtain rfl := Option.some.inj hF
    subst hQ
    subst hA
    exact z_throw (ik := 62) (ic := 66) (is := 113) (cls := "java/lang/IndexOutOfBoundsException") (text := "no such element") (by decide) (by decide) hx hb hlt hown hts hT hnt hlocks k_c_X6_62 k_i_IndexOutOfBoundsException hS (hl.1.trans hml.symm) rfl hP ⟨⟨Nat.le_of_ble_eq_true rfl, Nat.le_of_ble_eq_true rfl⟩, ⟨Nat.le_of_ble_eq_true rfl, Nat.le_of_ble_eq_true rfl⟩⟩ (z_d hX6_setLength_0 5 rfl) (z_d hX6_setLength_0 6 rfl) (z_d hX6_setLength_0 7 rfl) (z_d hX6_setLength_0 8 rfl) (z_d hX6_setLength_0 9 rfl)
def rm_X6_setPage : Room := { frames := 6, cells := 1, slots := 6, locals := 139 }
set_option maxRecDepth 100000 in
set_option maxHeartbeats 4000000 in
theorem c_X6_setPage (l : Launch) (hlt : l.stackTraces = false) (Z : zZ) (sa : Nat → Nat) (mm : Nat) (As : Nat → Nat) (Bs : Nat → Nat) (Ac : Nat → Nat) (Bc : Nat → Nat) (Ag : Nat → Nat) (Bg : Nat → Nat) (hh ha : Nat) (Ah : Nat → Nat → Nat) (rt rq : Nat) (tl : Int32) (S : t_Script) (D : t_Script) (C : t_Scenes) (E : t_Scenes) (G : t_Pages) (F : t_Pages) (Hs : t_Hist) (tx : Rw) (p1 : Int32) (R : (Int32 ⊕ Nat) × t_Script × t_Script × t_Scenes × t_Pages × t_Hist) (hF : X6_setPage tl S D C E G F Hs tx p1 = some R) : zXM l yX6_setPage (zw yX6_setPage cX6_setPage 3 (some .int)) rm_X6_setPage Z sa [.ref mm, .int p1] (List.flatten [w_Main mm As Bs Ac Bc Ag Bg hh rt tl, w_Script Z.2.1 As S, w_Script Z.2.1 Bs D, w_Scenes Z.2.1 Ac C, w_Scenes Z.2.1 Bc E, w_Pages Z.2.1 Ag G, w_Pages Z.2.1 Bg F, w_Hist Z.2.1 Z.2.2.1 hh ha Ah Hs, w_Row Z.2.1 200 rt rq tx]) (List.flatten [w_Main mm As Bs Ac Bc Ag Bg hh rt tl, w_Script Z.2.1 As R.2.1, w_Script Z.2.1 Bs R.2.2.1, w_Scenes Z.2.1 Ac R.2.2.2.1, w_Scenes Z.2.1 Bc E, w_Pages Z.2.1 Ag R.2.2.2.2.1, w_Pages Z.2.1 Bg F, w_Hist Z.2.1 Z.2.2.1 hh ha Ah R.2.2.2.2.2, w_Row Z.2.1 200 rt rq tx]) (zr R.1) := by
  refine zXM_of (by decide) (Nat.le_of_ble_eq_true rfl) (fun p e s m below meth c hx hb hr hml hown hts hlocks hK A hA hT hnt Q hQ ls hl hP hD hS => ?_)
  unfold X6_setPage at hF
  have hl : lv_has ls 3 [(0, .ref mm), (1, .int p1)] := hl
  have hown : s.vm.findClass RX6 = some m.cls := hown
  refine lv_iload_n hx hb (z_d hX6_setPage_0 0 rfl) rfl (lv_at hl 1 rfl) ?_
  refine z_let hF (fun q1 hq1 hF => ?_)
  refine z_ro_i (z_rS (As := [.int p1]) (rest := []) hx hb hml hown hts vs_X6_isPageLines (c_X6_isPageLines l Z p1 _ hq1) rfl rfl ⟨Nat.le_of_ble_eq_true rfl, Nat.le_of_ble_eq_true rfl⟩ k_m_X6_136 zPro_blind (z_prec hK zP_nil) rfl hl.1 (Nat.le_of_ble_eq_true rfl) (z_d hX6_setPage_0 1 rfl) ⟨Nat.zero_le _, Nat.zero_le _⟩) hS hP (fun H locs hP hS => ?_)
  refine lv_if_ne (tgt := 17) hx hb (z_d hX6_setPage_0 2 rfl) (by decide) (fun hc4 => ?_) (fun hc4 => ?_)
  · have hF := z_neg hc4 hF
    refine lv_aload_n hx hb (z_d hX6_setPage_0 8 rfl) rfl (lv_at hl 0 rfl) ?_
    refine va_get (D := Z.1) (ci := 6) (v := .ref (As 0)) (C := RX6) (T := TX6) (N := 9) hx hb hts zinX6 hown hK.1 (zP_reg hP 0 rfl) 0 rfl rfl 0 (by decide) (hts _ k_f_X6_12) (fun _ h9 => h9) rfl (z_d hX6_setPage_0 9 rfl) ?_
    refine va_getN (D := Z.1) (ci := 5) (v := .int S.2.1) (C := RX5) (T := TX5) (N := 10) hx hb hts zinX5 hown hK.1 (zP_reg (L := l_Script Z.2.1 As S.1 S.2.1 S.2.2.1 S.2.2.2.1 S.2.2.2.2.1 S.2.2.2.2.2.1 S.2.2.2.2.2.2.1 S.2.2.2.2.2.2.2.1 S.2.2.2.2.2.2.2.2.1 S.2.2.2.2.2.2.2.2.2) (zP_reg hP 1 rfl) 0 rfl) 0 rfl rfl 1 (by decide) (kn_X6_141 hK.2) (fun _ h9 => h9) rfl (z_d hX6_setPage_0 10 rfl) ?_
    refine lv_istore_n (lv' := [(2, .int S.2.1), (0, .ref mm), (1, .int p1)]) hx hb (z_d hX6_setPage_0 11 rfl) rfl hl (by decide) rfl (fun ls hl => ?_)
    refine lv_aload_n hx hb (z_d hX6_setPage_0 12 rfl) rfl (lv_at hl 1 rfl) ?_
    refine va_get (D := Z.1) (ci := 6) (v := .ref (Bs 0)) (C := RX6) (T := TX6) (N := 9) hx hb hts zinX6 hown hK.1 (zP_reg hP 0 rfl) 0 rfl rfl 1 (by decide) (hts _ k_f_X6_16) (fun _ h9 => h9) rfl (z_d hX6_setPage_0 13 rfl) ?_
    refine lv_aload_n hx hb (z_d hX6_setPage_0 14 rfl) rfl (lv_at hl 1 rfl) ?_
    refine va_get (D := Z.1) (ci := 6) (v := .ref (As 0)) (C := RX6) (T := TX6) (N := 9) hx hb hts zinX6 hown hK.1 (zP_reg hP 0 rfl) 0 rfl rfl 0 (by decide) (hts _ k_f_X6_12) (fun _ h9 => h9) rfl (z_d hX6_setPage_0 15 rfl) ?_
    refine z_let hF (fun q2 hq2 hF => ?_)
    refine z_mu2 (L := [w_Main mm As Bs Ac Bc Ag Bg hh rt tl, w_Script Z.2.1 As S, w_Script Z.2.1 Bs D, w_Scenes Z.2.1 Ac C, w_Scenes Z.2.1 Bc E, w_Pages Z.2.1 Ag G, w_Pages Z.2.1 Bg F, w_Hist Z.2.1 Z.2.2.1 hh ha Ah Hs, w_Row Z.2.1 200 rt rq tx]) (L' := [w_Main mm As Bs Ac Bc Ag Bg hh rt tl, w_Script Z.2.1 As S, w_Script Z.2.1 Bs q2, w_Scenes Z.2.1 Ac C, w_Scenes Z.2.1 Bc E, w_Pages Z.2.1 Ag G, w_Pages Z.2.1 Bg F, w_Hist Z.2.1 Z.2.2.1 hh ha Ah Hs, w_Row Z.2.1 200 rt rq tx]) (z_rV (As := [.ref (As 0)]) (rest := []) hx hb hml hown hts vt_X5_copyFrom (c_X5_copyFrom l Z Bs As D S _ hq2) rfl rfl ⟨Nat.le_of_ble_eq_true rfl, Nat.le_of_ble_eq_true rfl⟩ k_m_X6_94 zPmu_blind (z_recv (q := (RX5, TX5, 10)) (ci := 5) (q0 := 0) hK (zP_reg (L := l_Script Z.2.1 Bs D.1 D.2.1 D.2.2.1 D.2.2.2.1 D.2.2.2.2.1 D.2.2.2.2.2.1 D.2.2.2.2.2.2.1 D.2.2.2.2.2.2.2.1 D.2.2.2.2.2.2.2.2.1 D.2.2.2.2.2.2.2.2.2) (zP_reg hP 2 rfl) 0 rfl) rfl rfl) (z_prem hK (zP_r2 hP 2 1 rfl rfl) (zD_r2 hD 2 1 rfl rfl (by decide))) rfl hl.1 (Nat.le_of_ble_eq_true rfl) (z_d hX6_setPage_0 16 rfl) ⟨Nat.zero_le _, Nat.zero_le _⟩) hS hP hD 2 1 rfl rfl (by decide) rfl (adr_Script _ _ _ _) (adr_Script _ _ _ _) (fun H locs hP hD hS => ?_)
    refine W.eq (g2 := F0 m 36 ls []) rfl ?_
    refine lv_aload_n hx hb (z_d hX6_setPage_0 17 rfl) rfl (lv_at hl 1 rfl) ?_
    refine va_get (D := Z.1) (ci := 6) (v := .ref (Bs 0)) (C := RX6) (T := TX6) (N := 9) hx hb hts zinX6 hown hK.1 (zP_reg hP 0 rfl) 0 rfl rfl 1 (by decide) (hts _ k_f_X6_16) (fun _ h9 => h9) rfl (z_d hX6_setPage_0 18 rfl) ?_
    refine lv_iload_n hx hb (z_d hX6_setPage_0 19 rfl) rfl (lv_at hl 2 rfl) ?_
    have hP2 := zfm (pre := [w_Main mm As Bs Ac Bc Ag Bg hh rt tl, w_Script Z.2.1 As S]) (l := l_Script Z.2.1 Bs q2.1 q2.2.1 q2.2.2.1 q2.2.2.2.1 q2.2.2.2.2.1 q2.2.2.2.2.2.1 q2.2.2.2.2.2.2.1 q2.2.2.2.2.2.2.2.1 q2.2.2.2.2.2.2.2.2.1 q2.2.2.2.2.2.2.2.2.2) (post := [w_Scenes Z.2.1 Ac C, w_Scenes Z.2.1 Bc E, w_Pages Z.2.1 Ag G, w_Pages Z.2.1 Bg F, w_Hist Z.2.1 Z.2.2.1 hh ha Ah Hs, w_Row Z.2.1 200 rt rq tx]) hP
    have hD2 := zfmD (pre := [w_Main mm As Bs Ac Bc Ag Bg hh rt tl, w_Script Z.2.1 As S]) (l := l_Script Z.2.1 Bs q2.1 q2.2.1 q2.2.2.1 q2.2.2.2.1 q2.2.2.2.2.1 q2.2.2.2.2.2.1 q2.2.2.2.2.2.2.1 q2.2.2.2.2.2.2.2.1 q2.2.2.2.2.2.2.2.2.1 q2.2.2.2.2.2.2.2.2.2) (post := [w_Scenes Z.2.1 Ac C, w_Scenes Z.2.1 Bc E, w_Pages Z.2.1 Ag G, w_Pages Z.2.1 Bg F, w_Hist Z.2.1 Z.2.2.1 hh ha Ah Hs, w_Row Z.2.1 200 rt rq tx]) hD
    refine z_putN (Z := Z) (ci := 5) (v := .int p1) (ty := .int) (L := [w_Main mm As Bs Ac Bc Ag Bg hh rt tl, w_Script Z.2.1 As S] ++ (l_Script Z.2.1 Bs q2.1 q2.2.1 q2.2.2.1 q2.2.2.2.1 q2.2.2.2.2.1 q2.2.2.2.2.2.1 q2.2.2.2.2.2.2.1 q2.2.2.2.2.2.2.2.1 q2.2.2.2.2.2.2.2.2.1 q2.2.2.2.2.2.2.2.2.2 ++ [w_Scenes Z.2.1 Ac C, w_Scenes Z.2.1 Bc E, w_Pages Z.2.1 Ag G, w_Pages Z.2.1 Bg F, w_Hist Z.2.1 Z.2.2.1 hh ha Ah Hs, w_Row Z.2.1 200 rt rq tx])) (L' := [w_Main mm As Bs Ac Bc Ag Bg hh rt tl, w_Script Z.2.1 As S] ++ (l_Script Z.2.1 Bs q2.1 p1 q2.2.2.1 q2.2.2.2.1 q2.2.2.2.2.1 q2.2.2.2.2.2.1 q2.2.2.2.2.2.2.1 q2.2.2.2.2.2.2.2.1 q2.2.2.2.2.2.2.2.2.1 q2.2.2.2.2.2.2.2.2.2 ++ [w_Scenes Z.2.1 Ac C, w_Scenes Z.2.1 Bc E, w_Pages Z.2.1 Ag G, w_Pages Z.2.1 Bg F, w_Hist Z.2.1 Z.2.2.1 hh ha Ah Hs, w_Row Z.2.1 200 rt rq tx])) (C := RX5) (T := TX5) (N := 10) hx hb hts zinX5 tyX5 tyX5_ok nmX5 hown hK hP2 hD2 hS 2 rfl rfl 1 (by decide) (kn_X6_141 hK.2) (fun _ h9 => h9) rfl (tyX5_ok 1 (by decide)) rfl rfl (Nat.le_of_ble_eq_true rfl) rfl (z_d hX6_setPage_0 20 rfl) (fun H locs hP hD hS => ?_)
    have hP : va_P Z.1 vwCl ([w_Main mm As Bs Ac Bc Ag Bg hh rt tl, w_Script Z.2.1 As S, w_Script Z.2.1 Bs (q2.1, p1, q2.2.2.1, q2.2.2.2.1, q2.2.2.2.2.1, q2.2.2.2.2.2.1, q2.2.2.2.2.2.2.1, q2.2.2.2.2.2.2.2.1, q2.2.2.2.2.2.2.2.2.1, q2.2.2.2.2.2.2.2.2.2), w_Scenes Z.2.1 Ac C, w_Scenes Z.2.1 Bc E, w_Pages Z.2.1 Ag G, w_Pages Z.2.1 Bg F, w_Hist Z.2.1 Z.2.2.1 hh ha Ah Hs, w_Row Z.2.1 200 rt rq tx]).flatten H := zfn (pre := [w_Main mm As Bs Ac Bc Ag Bg hh rt tl, w_Script Z.2.1 As S]) (l := l_Script Z.2.1 Bs q2.1 p1 q2.2.2.1 q2.2.2.2.1 q2.2.2.2.2.1 q2.2.2.2.2.2.1 q2.2.2.2.2.2.2.1 q2.2.2.2.2.2.2.2.1 q2.2.2.2.2.2.2.2.2.1 q2.2.2.2.2.2.2.2.2.2) (post := [w_Scenes Z.2.1 Ac C, w_Scenes Z.2.1 Bc E, w_Pages Z.2.1 Ag G, w_Pages Z.2.1 Bg F, w_Hist Z.2.1 Z.2.2.1 hh ha Ah Hs, w_Row Z.2.1 200 rt rq tx]) hP
    have hD : va_D A ([w_Main mm As Bs Ac Bc Ag Bg hh rt tl, w_Script Z.2.1 As S, w_Script Z.2.1 Bs (q2.1, p1, q2.2.2.1, q2.2.2.2.1, q2.2.2.2.2.1, q2.2.2.2.2.2.1, q2.2.2.2.2.2.2.1, q2.2.2.2.2.2.2.2.1, q2.2.2.2.2.2.2.2.2.1, q2.2.2.2.2.2.2.2.2.2), w_Scenes Z.2.1 Ac C, w_Scenes Z.2.1 Bc E, w_Pages Z.2.1 Ag G, w_Pages Z.2.1 Bg F, w_Hist Z.2.1 Z.2.2.1 hh ha Ah Hs, w_Row Z.2.1 200 rt rq tx]).flatten := zfnD (pre := [w_Main mm As Bs Ac Bc Ag Bg hh rt tl, w_Script Z.2.1 As S]) (l := l_Script Z.2.1 Bs q2.1 p1 q2.2.2.1 q2.2.2.2.1 q2.2.2.2.2.1 q2.2.2.2.2.2.1 q2.2.2.2.2.2.2.1 q2.2.2.2.2.2.2.2.1 q2.2.2.2.2.2.2.2.2.1 q2.2.2.2.2.2.2.2.2.2) (post := [w_Scenes Z.2.1 Ac C, w_Scenes Z.2.1 Bc E, w_Pages Z.2.1 Ag G, w_Pages Z.2.1 Bg F, w_Hist Z.2.1 Z.2.2.1 hh ha Ah Hs, w_Row Z.2.1 200 rt rq tx]) hD
    refine lv_aload_n hx hb (z_d hX6_setPage_0 21 rfl) rfl (lv_at hl 1 rfl) ?_
    refine z_bnd hF (fun q3 hq3 hF => ?_)
    refine z_mu0 (z_rV (As := []) (rest := []) hx hb hml hown hts vt_X6_keepDraft (c_X6_keepDraft l Z mm As Bs Ac Bc Ag Bg hh ha Ah rt rq tl S (q2.1, p1, q2.2.2.1, q2.2.2.2.1, q2.2.2.2.2.1, q2.2.2.2.2.2.1, q2.2.2.2.2.2.2.1, q2.2.2.2.2.2.2.2.1, q2.2.2.2.2.2.2.2.2.1, q2.2.2.2.2.2.2.2.2.2) C E G F Hs tx _ hq3) rfl rfl ⟨Nat.le_of_ble_eq_true rfl, Nat.le_of_ble_eq_true rfl⟩ k_m_X6_107 zPmu_blind (z_recv (q := (RX6, TX6, 9)) (ci := 6) (q0 := 0) hK (zP_reg hP 0 rfl) rfl rfl) (z_prem hK hP hD) rfl hl.1 (Nat.le_of_ble_eq_true rfl) (z_d hX6_setPage_0 22 rfl) ⟨Nat.zero_le _, Nat.zero_le _⟩) hS hD (zadr_cons rfl (zadr_cons (adr_Script _ _ _ _) (zadr_cons (adr_Script _ _ _ _) (zadr_cons (adr_Scenes _ _ _ _) (zadr_cons (adr_Scenes _ _ _ _) (zadr_cons (adr_Pages _ _ _ _) (zadr_cons (adr_Pages _ _ _ _) (zadr_cons (adr_Hist _ _ _ _ _ _ _) (zadr_cons rfl rfl))))))))) (fun H locs hP hD hS => ?_)
    have hP : va_P Z.1 vwCl ([w_Main mm As Bs Ac Bc Ag Bg hh rt tl, w_Script Z.2.1 As q3.1, w_Script Z.2.1 Bs (q2.1, p1, q2.2.2.1, q2.2.2.2.1, q2.2.2.2.2.1, q2.2.2.2.2.2.1, q2.2.2.2.2.2.2.1, q2.2.2.2.2.2.2.2.1, q2.2.2.2.2.2.2.2.2.1, q2.2.2.2.2.2.2.2.2.2), w_Scenes Z.2.1 Ac q3.2.1, w_Scenes Z.2.1 Bc E, w_Pages Z.2.1 Ag q3.2.2.1, w_Pages Z.2.1 Bg F, w_Hist Z.2.1 Z.2.2.1 hh ha Ah q3.2.2.2, w_Row Z.2.1 200 rt rq tx]).flatten H := hP
    have hD : va_D A ([w_Main mm As Bs Ac Bc Ag Bg hh rt tl, w_Script Z.2.1 As q3.1, w_Script Z.2.1 Bs (q2.1, p1, q2.2.2.1, q2.2.2.2.1, q2.2.2.2.2.1, q2.2.2.2.2.2.1, q2.2.2.2.2.2.2.1, q2.2.2.2.2.2.2.2.1, q2.2.2.2.2.2.2.2.2.1, q2.2.2.2.2.2.2.2.2.2), w_Scenes Z.2.1 Ac q3.2.1, w_Scenes Z.2.1 Bc E, w_Pages Z.2.1 Ag q3.2.2.1, w_Pages Z.2.1 Bg F, w_Hist Z.2.1 Z.2.2.1 hh ha Ah q3.2.2.2, w_Row Z.2.1 200 rt rq tx]).flatten := hD
    refine W.eq (g2 := F0 m 48 ls []) rfl ?_
    refine lv_iload_n hx hb (z_d hX6_setPage_0 23 rfl) rfl (lv_at hl 0 rfl) ?_
    obtain rfl := Option.some.inj hF
    subst hQ
    subst hA
    exact z_xret hx hb hr hlocks rfl hP hS (z_d hX6_setPage_0 24 rfl)
  · have hF := z_pos hc4 hF
    obtain rfl := Option.some.inj hF
    subst hQ
    subst hA
    exact z_throw (ik := 80) (ic := 84) (is := 139) (cls := "java/lang/IllegalArgumentException") (text := "lines is out of range") (by decide) (by decide) hx hb hlt hown hts hT hnt hlocks k_c_X6_80 k_i_IllegalArgumentException hS (hl.1.trans hml.symm) rfl hP ⟨⟨Nat.le_of_ble_eq_true rfl, Nat.le_of_ble_eq_true rfl⟩, ⟨Nat.le_of_ble_eq_true rfl, Nat.le_of_ble_eq_true rfl⟩⟩ (z_d hX6_setPage_0 3 rfl) (z_d hX6_setPage_0 4 rfl) (z_d hX6_setPage_0 5 rfl) (z_d hX6_setPage_0 6 rfl) (z_d hX6_setPage_0 7 rfl)
def rm_X6_omit : Room := { frames := 6, cells := 1, slots := 6, locals := 139 }
set_option maxRecDepth 100000 in
set_option maxHeartbeats 4000000 in
theorem c_X6_omit (l : Launch) (hlt : l.stackTraces = false) (Z : zZ) (sa : Nat → Nat) (mm : Nat) (As : Nat → Nat) (Bs : Nat → Nat) (Ac : Nat → Nat) (Bc : Nat → Nat) (Ag : Nat → Nat) (Bg : Nat → Nat) (hh ha : Nat) (Ah : Nat → Nat → Nat) (rt rq : Nat) (tl : Int32) (S : t_Script) (D : t_Script) (C : t_Scenes) (E : t_Scenes) (G : t_Pages) (F : t_Pages) (Hs : t_Hist) (tx : Rw) (p1 : Int32) (R : (Int32 ⊕ Nat) × t_Script × t_Script × t_Scenes × t_Pages × t_Hist) (hF : X6_omit tl S D C E G F Hs tx p1 = some R) : zXM l yX6_omit (zw yX6_omit cX6_omit 5 (some .int)) rm_X6_omit Z sa [.ref mm, .int p1] (List.flatten [w_Main mm As Bs Ac Bc Ag Bg hh rt tl, w_Script Z.2.1 As S, w_Script Z.2.1 Bs D, w_Scenes Z.2.1 Ac C, w_Scenes Z.2.1 Bc E, w_Pages Z.2.1 Ag G, w_Pages Z.2.1 Bg F, w_Hist Z.2.1 Z.2.2.1 hh ha Ah Hs, w_Row Z.2.1 200 rt rq tx]) (List.flatten [w_Main mm As Bs Ac Bc Ag Bg hh rt tl, w_Script Z.2.1 As R.2.1, w_Script Z.2.1 Bs R.2.2.1, w_Scenes Z.2.1 Ac R.2.2.2.1, w_Scenes Z.2.1 Bc E, w_Pages Z.2.1 Ag R.2.2.2.2.1, w_Pages Z.2.1 Bg F, w_Hist Z.2.1 Z.2.2.1 hh ha Ah R.2.2.2.2.2, w_Row Z.2.1 200 rt rq tx]) (zr R.1) := by
  refine zXM_of (by decide) (Nat.le_of_ble_eq_true rfl) (fun p e s m below meth c hx hb hr hml hown hts hlocks hK A hA hT hnt Q hQ ls hl hP hD hS => ?_)
  unfold X6_omit at hF
  have hl : lv_has ls 5 [(0, .ref mm), (1, .int p1)] := hl
  have hown : s.vm.findClass RX6 = some m.cls := hown
  have J55 : ∀ (S : t_Script) (D : t_Script) (C : t_Scenes) (G : t_Pages) (Hs : t_Hist) (hF : j_X6_omit_55 tl E F tx p1 S D C G Hs = some R) (H : Heap) (locs : List Loc) (ls : Array Slot) (hP : va_P Z.1 vwCl ([w_Main mm As Bs Ac Bc Ag Bg hh rt tl, w_Script Z.2.1 As S, w_Script Z.2.1 Bs D, w_Scenes Z.2.1 Ac C, w_Scenes Z.2.1 Bc E, w_Pages Z.2.1 Ag G, w_Pages Z.2.1 Bg F, w_Hist Z.2.1 Z.2.2.1 hh ha Ah Hs, w_Row Z.2.1 200 rt rq tx]).flatten H) (hD : va_D A ([w_Main mm As Bs Ac Bc Ag Bg hh rt tl, w_Script Z.2.1 As S, w_Script Z.2.1 Bs D, w_Scenes Z.2.1 Ac C, w_Scenes Z.2.1 Bc E, w_Pages Z.2.1 Ag G, w_Pages Z.2.1 Bg F, w_Hist Z.2.1 Z.2.2.1 hh ha Ah Hs, w_Row Z.2.1 200 rt rq tx]).flatten) (hS : va_S A s.heap H locs) (hl : lv_has ls 5 [(0, .ref mm), (1, .int p1)]), W p l e rm_X6_omit s m ([.ref mm, .int p1] : List Value).toArray below meth c H locs 0 0 Q (F0 m 55 ls []) := by
    intro S D C G Hs hF H locs ls hP hD hS hl
    unfold j_X6_omit_55 at hF
    obtain rfl := Option.some.inj hF
    subst hQ
    subst hA
    exact z_throw (ik := 89) (ic := 93) (is := 171) (cls := "java/lang/IllegalStateException") (text := "it is not locked, or is omitted already") (by decide) (by decide) hx hb hlt hown hts hT hnt hlocks k_c_X6_89 k_i_IllegalStateException hS (hl.1.trans hml.symm) rfl hP ⟨⟨Nat.le_of_ble_eq_true rfl, Nat.le_of_ble_eq_true rfl⟩, ⟨Nat.le_of_ble_eq_true rfl, Nat.le_of_ble_eq_true rfl⟩⟩ (z_d hX6_omit_0 26 rfl) (z_d hX6_omit_0 27 rfl) (z_d hX6_omit_0 28 rfl) (z_d hX6_omit_0 29 rfl) (z_d hX6_omit_0 30 rfl)
  have L93 : ∀ (x2 : Int32) (x3 : Int32) (n : Nat) (v : t_Script × t_Script × t_Scenes × t_Pages × t_Hist × Int32) (X : t_Script × t_Script × t_Scenes × t_Pages × t_Hist) (hF : zloop (b_X6_omit_93 tl E F tx p1 x2 x3) n v = some X) (H : Heap) (locs : List Loc) (ls : Array Slot) (hP : va_P Z.1 vwCl ([w_Main mm As Bs Ac Bc Ag Bg hh rt tl, w_Script Z.2.1 As v.1, w_Script Z.2.1 Bs v.2.1, w_Scenes Z.2.1 Ac v.2.2.1, w_Scenes Z.2.1 Bc E, w_Pages Z.2.1 Ag v.2.2.2.1, w_Pages Z.2.1 Bg F, w_Hist Z.2.1 Z.2.2.1 hh ha Ah v.2.2.2.2.1, w_Row Z.2.1 200 rt rq tx]).flatten H) (hD : va_D A ([w_Main mm As Bs Ac Bc Ag Bg hh rt tl, w_Script Z.2.1 As v.1, w_Script Z.2.1 Bs v.2.1, w_Scenes Z.2.1 Ac v.2.2.1, w_Scenes Z.2.1 Bc E, w_Pages Z.2.1 Ag v.2.2.2.1, w_Pages Z.2.1 Bg F, w_Hist Z.2.1 Z.2.2.1 hh ha Ah v.2.2.2.2.1, w_Row Z.2.1 200 rt rq tx]).flatten) (hS : va_S A s.heap H locs) (hl : lv_has ls 5 [(0, .ref mm), (1, .int p1), (2, .int x2), (3, .int x3), (4, .int v.2.2.2.2.2)]) (K1 : ∀ (H : Heap) (locs : List Loc) (ls : Array Slot) (hP : va_P Z.1 vwCl ([w_Main mm As Bs Ac Bc Ag Bg hh rt tl, w_Script Z.2.1 As X.1, w_Script Z.2.1 Bs X.2.1, w_Scenes Z.2.1 Ac X.2.2.1, w_Scenes Z.2.1 Bc E, w_Pages Z.2.1 Ag X.2.2.2.1, w_Pages Z.2.1 Bg F, w_Hist Z.2.1 Z.2.2.1 hh ha Ah X.2.2.2.2, w_Row Z.2.1 200 rt rq tx]).flatten H) (hD : va_D A ([w_Main mm As Bs Ac Bc Ag Bg hh rt tl, w_Script Z.2.1 As X.1, w_Script Z.2.1 Bs X.2.1, w_Scenes Z.2.1 Ac X.2.2.1, w_Scenes Z.2.1 Bc E, w_Pages Z.2.1 Ag X.2.2.2.1, w_Pages Z.2.1 Bg F, w_Hist Z.2.1 Z.2.2.1 hh ha Ah X.2.2.2.2, w_Row Z.2.1 200 rt rq tx]).flatten) (hS : va_S A s.heap H locs) (hl : lv_has ls 5 [(0, .ref mm), (1, .int p1), (2, .int x2), (3, .int x3)]), W p l e rm_X6_omit s m ([.ref mm, .int p1] : List Value).toArray below meth c H locs 0 0 Q (F0 m 115 ls [])), W p l e rm_X6_omit s m ([.ref mm, .int p1] : List Value).toArray below meth c H locs 0 0 Q (F0 m 93 ls []) := by
    intro x2 x3
    refine z_loopE (fun rec ih v X hF H locs ls hP hD hS hl K1 => ?_)
    unfold b_X6_omit_93 at hF
    refine lv_iload hx hb (z_d hX6_omit_0 46 rfl) (lv_at hl 4 rfl) ?_
    refine lv_iload_n hx hb (z_d hX6_omit_0 47 rfl) rfl (lv_at hl 3 rfl) ?_
    refine lv_icmp_ge (tgt := 115) hx hb (z_d hX6_omit_0 48 rfl) (by decide) (fun hc96 => ?_) (fun hc96 => ?_)
    · have hF := z_pos hc96 hF
      obtain rfl := Option.some.inj hF
      exact K1 _ _ ls hP hD hS (lv_sub hl [0, 1, 2, 3] rfl)
    · have hF := z_neg hc96 hF
      refine lv_aload_n hx hb (z_d hX6_omit_0 49 rfl) rfl (lv_at hl 0 rfl) ?_
      refine va_get (D := Z.1) (ci := 6) (v := .ref (Bs 0)) (C := RX6) (T := TX6) (N := 9) hx hb hts zinX6 hown hK.1 (zP_reg hP 0 rfl) 0 rfl rfl 1 (by decide) (hts _ k_f_X6_16) (fun _ h9 => h9) rfl (z_d hX6_omit_0 50 rfl) ?_
      refine lv_iload_n hx hb (z_d hX6_omit_0 51 rfl) rfl (lv_at hl 2 rfl) ?_
      refine lv_iconst (v := 1) hx hb (z_d hX6_omit_0 52 rfl) (by decide) ?_
      refine lv_iadd hx hb (z_d hX6_omit_0 53 rfl) ?_
      refine z_let hF (fun u8 hu8 hF => ?_)
      refine lv_topE hu8 ?_
      refine z_bnd hF (fun q9 hq9 hF => ?_)
      refine z_mu1 (L := [w_Main mm As Bs Ac Bc Ag Bg hh rt tl, w_Script Z.2.1 As v.1, w_Script Z.2.1 Bs v.2.1, w_Scenes Z.2.1 Ac v.2.2.1, w_Scenes Z.2.1 Bc E, w_Pages Z.2.1 Ag v.2.2.2.1, w_Pages Z.2.1 Bg F, w_Hist Z.2.1 Z.2.2.1 hh ha Ah v.2.2.2.2.1, w_Row Z.2.1 200 rt rq tx]) (L' := [w_Main mm As Bs Ac Bc Ag Bg hh rt tl, w_Script Z.2.1 As v.1, w_Script Z.2.1 Bs q9, w_Scenes Z.2.1 Ac v.2.2.1, w_Scenes Z.2.1 Bc E, w_Pages Z.2.1 Ag v.2.2.2.1, w_Pages Z.2.1 Bg F, w_Hist Z.2.1 Z.2.2.1 hh ha Ah v.2.2.2.2.1, w_Row Z.2.1 200 rt rq tx]) (z_rV (As := [.int u8]) (rest := []) hx hb hml hown hts vt_X5_takeOut (c_X5_takeOut l Z Bs v.2.1 u8 _ hq9) rfl rfl ⟨Nat.le_of_ble_eq_true rfl, Nat.le_of_ble_eq_true rfl⟩ k_m_X6_120 zPmu_blind (z_recv (q := (RX5, TX5, 10)) (ci := 5) (q0 := 0) hK (zP_reg (L := l_Script Z.2.1 Bs v.2.1.1 v.2.1.2.1 v.2.1.2.2.1 v.2.1.2.2.2.1 v.2.1.2.2.2.2.1 v.2.1.2.2.2.2.2.1 v.2.1.2.2.2.2.2.2.1 v.2.1.2.2.2.2.2.2.2.1 v.2.1.2.2.2.2.2.2.2.2.1 v.2.1.2.2.2.2.2.2.2.2.2) (zP_reg hP 2 rfl) 0 rfl) rfl rfl) (z_prem hK (zP_reg hP 2 rfl) (zD_one hD 2 _ rfl)) rfl hl.1 (Nat.le_of_ble_eq_true rfl) (z_d hX6_omit_0 54 rfl) ⟨Nat.zero_le _, Nat.zero_le _⟩) hS hP hD 2 rfl rfl (adr_Script _ _ _ _) (fun H locs hP hD hS => ?_)
      refine W.eq (g2 := F0 m 109 ls []) rfl ?_
      refine z_let hF (fun u10 hu10 hF => ?_)
      refine lv_iinc (v := u10) (lv' := [(4, .int u10), (0, .ref mm), (1, .int p1), (2, .int x2), (3, .int x3)]) hx hb (z_d hX6_omit_0 55 rfl) hl (k := 4) rfl (z_inc1 hu10) (by decide) rfl (fun ls hl => ?_)
      refine lv_goto (tgt := 93) hx hb (z_d hX6_omit_0 56 rfl) (by decide) ?_
      exact ih _ _ hF _ _ ls hP hD hS (lv_sub hl [1, 2, 3, 4, 0] rfl) K1
  refine lv_aload_n hx hb (z_d hX6_omit_0 0 rfl) rfl (lv_at hl 0 rfl) ?_
  refine va_get (D := Z.1) (ci := 6) (v := .ref (Ac 0)) (C := RX6) (T := TX6) (N := 9) hx hb hts zinX6 hown hK.1 (zP_reg hP 0 rfl) 0 rfl rfl 2 (by decide) (hts _ k_f_X6_22) (fun _ h9 => h9) rfl (z_d hX6_omit_0 1 rfl) ?_
  refine lv_iload_n hx hb (z_d hX6_omit_0 2 rfl) rfl (lv_at hl 1 rfl) ?_
  refine z_let hF (fun q1 hq1 hF => ?_)
  refine z_ro_i (z_rV (As := [.int p1]) (rest := []) hx hb hml hown hts vt_X4_has (c_X4_has l Z Ac C p1 _ hq1) rfl rfl ⟨Nat.le_of_ble_eq_true rfl, Nat.le_of_ble_eq_true rfl⟩ k_m_X6_165 zPro_blind (z_recv (q := (RX4, TX4, 12)) (ci := 4) (q0 := 0) hK (zP_reg (L := l_Scenes Z.2.1 Ac C.1 C.2.1 C.2.2.1 C.2.2.2.1 C.2.2.2.2.1 C.2.2.2.2.2.1 C.2.2.2.2.2.2.1 C.2.2.2.2.2.2.2.1 C.2.2.2.2.2.2.2.2.1 C.2.2.2.2.2.2.2.2.2.1 C.2.2.2.2.2.2.2.2.2.2.1 C.2.2.2.2.2.2.2.2.2.2.2) (zP_reg hP 3 rfl) 0 rfl) rfl rfl) (z_prec hK (zP_reg hP 3 rfl)) rfl hl.1 (Nat.le_of_ble_eq_true rfl) (z_d hX6_omit_0 3 rfl) ⟨Nat.zero_le _, Nat.zero_le _⟩) hS hP (fun H locs hP hS => ?_)
  refine lv_if_ne (tgt := 21) hx hb (z_d hX6_omit_0 4 rfl) (by decide) (fun hc8 => ?_) (fun hc8 => ?_)
  · have hF := z_neg hc8 hF
    refine lv_aload_n hx hb (z_d hX6_omit_0 10 rfl) rfl (lv_at hl 0 rfl) ?_
    refine va_get (D := Z.1) (ci := 6) (v := .ref (Ac 0)) (C := RX6) (T := TX6) (N := 9) hx hb hts zinX6 hown hK.1 (zP_reg hP 0 rfl) 0 rfl rfl 2 (by decide) (hts _ k_f_X6_22) (fun _ h9 => h9) rfl (z_d hX6_omit_0 11 rfl) ?_
    refine va_getN (D := Z.1) (ci := 4) (v := .ref (Ac 1)) (C := RX4) (T := TX4) (N := 12) hx hb hts zinX4 hown hK.1 (zP_reg (L := l_Scenes Z.2.1 Ac C.1 C.2.1 C.2.2.1 C.2.2.2.1 C.2.2.2.2.1 C.2.2.2.2.2.1 C.2.2.2.2.2.2.1 C.2.2.2.2.2.2.2.1 C.2.2.2.2.2.2.2.2.1 C.2.2.2.2.2.2.2.2.2.1 C.2.2.2.2.2.2.2.2.2.2.1 C.2.2.2.2.2.2.2.2.2.2.2) (zP_reg hP 3 rfl) 0 rfl) 0 rfl rfl 3 (by decide) (kn_X6_147 hK.2) (fun _ h9 => h9) rfl (z_d hX6_omit_0 12 rfl) ?_
    refine lv_iload_n hx hb (z_d hX6_omit_0 13 rfl) rfl (lv_at hl 1 rfl) ?_
    refine z_let hF (fun q2 hq2 hF => ?_)
    refine z_ro_i (z_rV (As := [.int p1]) (rest := []) hx hb hml hown hts vt_X3_at (c_rAt l Z 60 (Ac 1) (Ac 2) (by decide) C.2.2.2.1 p1 _ hq2) rfl rfl ⟨Nat.le_of_ble_eq_true rfl, Nat.le_of_ble_eq_true rfl⟩ k_m_X6_150 zPro_blind (z_recv (q := (RX3, TX3, 1)) (ci := 3) (q0 := 0) hK (zP_reg (L := l_Scenes Z.2.1 Ac C.1 C.2.1 C.2.2.1 C.2.2.2.1 C.2.2.2.2.1 C.2.2.2.2.2.1 C.2.2.2.2.2.2.1 C.2.2.2.2.2.2.2.1 C.2.2.2.2.2.2.2.2.1 C.2.2.2.2.2.2.2.2.2.1 C.2.2.2.2.2.2.2.2.2.2.1 C.2.2.2.2.2.2.2.2.2.2.2) (zP_reg hP 3 rfl) 1 rfl) rfl rfl) (z_prec hK (zP_reg (L := l_Scenes Z.2.1 Ac C.1 C.2.1 C.2.2.1 C.2.2.2.1 C.2.2.2.2.1 C.2.2.2.2.2.1 C.2.2.2.2.2.2.1 C.2.2.2.2.2.2.2.1 C.2.2.2.2.2.2.2.2.1 C.2.2.2.2.2.2.2.2.2.1 C.2.2.2.2.2.2.2.2.2.2.1 C.2.2.2.2.2.2.2.2.2.2.2) (zP_reg hP 3 rfl) 1 rfl)) rfl hl.1 (Nat.le_of_ble_eq_true rfl) (z_d hX6_omit_0 14 rfl) ⟨Nat.zero_le _, Nat.zero_le _⟩) hS hP (fun H locs hP hS => ?_)
    refine lv_istore_n (lv' := [(2, .int q2), (0, .ref mm), (1, .int p1)]) hx hb (z_d hX6_omit_0 15 rfl) rfl hl (by decide) rfl (fun ls hl => ?_)
    refine lv_aload_n hx hb (z_d hX6_omit_0 16 rfl) rfl (lv_at hl 1 rfl) ?_
    refine va_get (D := Z.1) (ci := 6) (v := .ref (As 0)) (C := RX6) (T := TX6) (N := 9) hx hb hts zinX6 hown hK.1 (zP_reg hP 0 rfl) 0 rfl rfl 0 (by decide) (hts _ k_f_X6_12) (fun _ h9 => h9) rfl (z_d hX6_omit_0 17 rfl) ?_
    refine lv_iload_n hx hb (z_d hX6_omit_0 18 rfl) rfl (lv_at hl 0 rfl) ?_
    refine z_let hF (fun q3 hq3 hF => ?_)
    refine z_ro_i (z_rV (As := [.int q2]) (rest := []) hx hb hml hown hts vt_X5_isLocked (c_X5_isLocked l Z As S q2 _ hq3) rfl rfl ⟨Nat.le_of_ble_eq_true rfl, Nat.le_of_ble_eq_true rfl⟩ k_m_X6_115 zPro_blind (z_recv (q := (RX5, TX5, 10)) (ci := 5) (q0 := 0) hK (zP_reg (L := l_Script Z.2.1 As S.1 S.2.1 S.2.2.1 S.2.2.2.1 S.2.2.2.2.1 S.2.2.2.2.2.1 S.2.2.2.2.2.2.1 S.2.2.2.2.2.2.2.1 S.2.2.2.2.2.2.2.2.1 S.2.2.2.2.2.2.2.2.2) (zP_reg hP 1 rfl) 0 rfl) rfl rfl) (z_prec hK (zP_reg hP 1 rfl)) rfl hl.1 (Nat.le_of_ble_eq_true rfl) (z_d hX6_omit_0 19 rfl) ⟨Nat.zero_le _, Nat.zero_le _⟩) hS hP (fun H locs hP hS => ?_)
    refine lv_if_eq (tgt := 55) hx hb (z_d hX6_omit_0 20 rfl) (by decide) (fun hc41 => ?_) (fun hc41 => ?_)
    · have hF := z_pos hc41 hF
      exact J55 S D C G Hs hF _ _ ls hP hD hS (lv_sub hl [1, 2] rfl)
    · have hF := z_neg hc41 hF
      refine lv_aload_n hx hb (z_d hX6_omit_0 21 rfl) rfl (lv_at hl 1 rfl) ?_
      refine va_get (D := Z.1) (ci := 6) (v := .ref (As 0)) (C := RX6) (T := TX6) (N := 9) hx hb hts zinX6 hown hK.1 (zP_reg hP 0 rfl) 0 rfl rfl 0 (by decide) (hts _ k_f_X6_12) (fun _ h9 => h9) rfl (z_d hX6_omit_0 22 rfl) ?_
      refine lv_iload_n hx hb (z_d hX6_omit_0 23 rfl) rfl (lv_at hl 0 rfl) ?_
      refine z_let hF (fun q4 hq4 hF => ?_)
      refine z_ro_i (z_rV (As := [.int q2]) (rest := []) hx hb hml hown hts vt_X5_isOmitted (c_X5_isOmitted l Z As S q2 _ hq4) rfl rfl ⟨Nat.le_of_ble_eq_true rfl, Nat.le_of_ble_eq_true rfl⟩ k_m_X6_168 zPro_blind (z_recv (q := (RX5, TX5, 10)) (ci := 5) (q0 := 0) hK (zP_reg (L := l_Script Z.2.1 As S.1 S.2.1 S.2.2.1 S.2.2.2.1 S.2.2.2.2.1 S.2.2.2.2.2.1 S.2.2.2.2.2.2.1 S.2.2.2.2.2.2.2.1 S.2.2.2.2.2.2.2.2.1 S.2.2.2.2.2.2.2.2.2) (zP_reg hP 1 rfl) 0 rfl) rfl rfl) (z_prec hK (zP_reg hP 1 rfl)) rfl hl.1 (Nat.le_of_ble_eq_true rfl) (z_d hX6_omit_0 24 rfl) ⟨Nat.zero_le _, Nat.zero_le _⟩) hS hP (fun H locs hP hS => ?_)
      refine lv_if_eq (tgt := 65) hx hb (z_d hX6_omit_0 25 rfl) (by decide) (fun hc52 => ?_) (fun hc52 => ?_)
      · have hF := z_pos hc52 hF
        refine lv_aload_n hx hb (z_d hX6_omit_0 31 rfl) rfl (lv_at hl 1 rfl) ?_
        refine va_get (D := Z.1) (ci := 6) (v := .ref (Ac 0)) (C := RX6) (T := TX6) (N := 9) hx hb hts zinX6 hown hK.1 (zP_reg hP 0 rfl) 0 rfl rfl 2 (by decide) (hts _ k_f_X6_22) (fun _ h9 => h9) rfl (z_d hX6_omit_0 32 rfl) ?_
        refine va_getN (D := Z.1) (ci := 4) (v := .ref (Ac 3)) (C := RX4) (T := TX4) (N := 12) hx hb hts zinX4 hown hK.1 (zP_reg (L := l_Scenes Z.2.1 Ac C.1 C.2.1 C.2.2.1 C.2.2.2.1 C.2.2.2.2.1 C.2.2.2.2.2.1 C.2.2.2.2.2.2.1 C.2.2.2.2.2.2.2.1 C.2.2.2.2.2.2.2.2.1 C.2.2.2.2.2.2.2.2.2.1 C.2.2.2.2.2.2.2.2.2.2.1 C.2.2.2.2.2.2.2.2.2.2.2) (zP_reg hP 3 rfl) 0 rfl) 0 rfl rfl 4 (by decide) (kn_X6_173 hK.2) (fun _ h9 => h9) rfl (z_d hX6_omit_0 33 rfl) ?_
        refine lv_iload_n hx hb (z_d hX6_omit_0 34 rfl) rfl (lv_at hl 2 rfl) ?_
        refine z_let hF (fun q5 hq5 hF => ?_)
        refine z_ro_i (z_rV (As := [.int p1]) (rest := []) hx hb hml hown hts vt_X3_at (c_rAt l Z 60 (Ac 3) (Ac 4) (by decide) C.2.2.2.2.1 p1 _ hq5) rfl rfl ⟨Nat.le_of_ble_eq_true rfl, Nat.le_of_ble_eq_true rfl⟩ k_m_X6_150 zPro_blind (z_recv (q := (RX3, TX3, 1)) (ci := 3) (q0 := 0) hK (zP_reg (L := l_Scenes Z.2.1 Ac C.1 C.2.1 C.2.2.1 C.2.2.2.1 C.2.2.2.2.1 C.2.2.2.2.2.1 C.2.2.2.2.2.2.1 C.2.2.2.2.2.2.2.1 C.2.2.2.2.2.2.2.2.1 C.2.2.2.2.2.2.2.2.2.1 C.2.2.2.2.2.2.2.2.2.2.1 C.2.2.2.2.2.2.2.2.2.2.2) (zP_reg hP 3 rfl) 2 rfl) rfl rfl) (z_prec hK (zP_reg (L := l_Scenes Z.2.1 Ac C.1 C.2.1 C.2.2.1 C.2.2.2.1 C.2.2.2.2.1 C.2.2.2.2.2.1 C.2.2.2.2.2.2.1 C.2.2.2.2.2.2.2.1 C.2.2.2.2.2.2.2.2.1 C.2.2.2.2.2.2.2.2.2.1 C.2.2.2.2.2.2.2.2.2.2.1 C.2.2.2.2.2.2.2.2.2.2.2) (zP_reg hP 3 rfl) 2 rfl)) rfl hl.1 (Nat.le_of_ble_eq_true rfl) (z_d hX6_omit_0 35 rfl) ⟨Nat.zero_le _, Nat.zero_le _⟩) hS hP (fun H locs hP hS => ?_)
        refine lv_iconst (v := 1) hx hb (z_d hX6_omit_0 36 rfl) (by decide) ?_
        refine lv_isub hx hb (z_d hX6_omit_0 37 rfl) ?_
        refine z_let hF (fun u6 hu6 hF => ?_)
        refine lv_topE hu6 ?_
        refine lv_istore_n (lv' := [(3, .int u6), (2, .int q2), (0, .ref mm), (1, .int p1)]) hx hb (z_d hX6_omit_0 38 rfl) rfl hl (by decide) rfl (fun ls hl => ?_)
        refine lv_aload_n hx hb (z_d hX6_omit_0 39 rfl) rfl (lv_at hl 2 rfl) ?_
        refine va_get (D := Z.1) (ci := 6) (v := .ref (Bs 0)) (C := RX6) (T := TX6) (N := 9) hx hb hts zinX6 hown hK.1 (zP_reg hP 0 rfl) 0 rfl rfl 1 (by decide) (hts _ k_f_X6_16) (fun _ h9 => h9) rfl (z_d hX6_omit_0 40 rfl) ?_
        refine lv_aload_n hx hb (z_d hX6_omit_0 41 rfl) rfl (lv_at hl 2 rfl) ?_
        refine va_get (D := Z.1) (ci := 6) (v := .ref (As 0)) (C := RX6) (T := TX6) (N := 9) hx hb hts zinX6 hown hK.1 (zP_reg hP 0 rfl) 0 rfl rfl 0 (by decide) (hts _ k_f_X6_12) (fun _ h9 => h9) rfl (z_d hX6_omit_0 42 rfl) ?_
        refine z_let hF (fun q7 hq7 hF => ?_)
        refine z_mu2 (L := [w_Main mm As Bs Ac Bc Ag Bg hh rt tl, w_Script Z.2.1 As S, w_Script Z.2.1 Bs D, w_Scenes Z.2.1 Ac C, w_Scenes Z.2.1 Bc E, w_Pages Z.2.1 Ag G, w_Pages Z.2.1 Bg F, w_Hist Z.2.1 Z.2.2.1 hh ha Ah Hs, w_Row Z.2.1 200 rt rq tx]) (L' := [w_Main mm As Bs Ac Bc Ag Bg hh rt tl, w_Script Z.2.1 As S, w_Script Z.2.1 Bs q7, w_Scenes Z.2.1 Ac C, w_Scenes Z.2.1 Bc E, w_Pages Z.2.1 Ag G, w_Pages Z.2.1 Bg F, w_Hist Z.2.1 Z.2.2.1 hh ha Ah Hs, w_Row Z.2.1 200 rt rq tx]) (z_rV (As := [.ref (As 0)]) (rest := []) hx hb hml hown hts vt_X5_copyFrom (c_X5_copyFrom l Z Bs As D S _ hq7) rfl rfl ⟨Nat.le_of_ble_eq_true rfl, Nat.le_of_ble_eq_true rfl⟩ k_m_X6_94 zPmu_blind (z_recv (q := (RX5, TX5, 10)) (ci := 5) (q0 := 0) hK (zP_reg (L := l_Script Z.2.1 Bs D.1 D.2.1 D.2.2.1 D.2.2.2.1 D.2.2.2.2.1 D.2.2.2.2.2.1 D.2.2.2.2.2.2.1 D.2.2.2.2.2.2.2.1 D.2.2.2.2.2.2.2.2.1 D.2.2.2.2.2.2.2.2.2) (zP_reg hP 2 rfl) 0 rfl) rfl rfl) (z_prem hK (zP_r2 hP 2 1 rfl rfl) (zD_r2 hD 2 1 rfl rfl (by decide))) rfl hl.1 (Nat.le_of_ble_eq_true rfl) (z_d hX6_omit_0 43 rfl) ⟨Nat.zero_le _, Nat.zero_le _⟩) hS hP hD 2 1 rfl rfl (by decide) rfl (adr_Script _ _ _ _) (adr_Script _ _ _ _) (fun H locs hP hD hS => ?_)
        refine W.eq (g2 := F0 m 90 ls []) rfl ?_
        refine lv_iconst (v := 0) hx hb (z_d hX6_omit_0 44 rfl) (by decide) ?_
        refine lv_istore (lv' := [(4, .int 0), (3, .int u6), (2, .int q2), (0, .ref mm), (1, .int p1)]) hx hb (z_d hX6_omit_0 45 rfl) hl (by decide) rfl (fun ls hl => ?_)
        refine z_bnd hF (fun q11 hq11 hF => ?_)
        refine L93 q2 u6 _ _ _ hq11 _ _ ls hP hD hS (lv_sub hl [3, 4, 2, 1, 0] rfl) (fun H locs ls hP hD hS hl => ?_)
        refine lv_aload_n hx hb (z_d hX6_omit_0 57 rfl) rfl (lv_at hl 0 rfl) ?_
        refine va_get (D := Z.1) (ci := 6) (v := .ref (Bs 0)) (C := RX6) (T := TX6) (N := 9) hx hb hts zinX6 hown hK.1 (zP_reg hP 0 rfl) 0 rfl rfl 1 (by decide) (hts _ k_f_X6_16) (fun _ h9 => h9) rfl (z_d hX6_omit_0 58 rfl) ?_
        refine lv_iload_n hx hb (z_d hX6_omit_0 59 rfl) rfl (lv_at hl 2 rfl) ?_
        refine z_let hF (fun q12 hq12 hF => ?_)
        refine z_mu1 (L := [w_Main mm As Bs Ac Bc Ag Bg hh rt tl, w_Script Z.2.1 As q11.1, w_Script Z.2.1 Bs q11.2.1, w_Scenes Z.2.1 Ac q11.2.2.1, w_Scenes Z.2.1 Bc E, w_Pages Z.2.1 Ag q11.2.2.2.1, w_Pages Z.2.1 Bg F, w_Hist Z.2.1 Z.2.2.1 hh ha Ah q11.2.2.2.2, w_Row Z.2.1 200 rt rq tx]) (L' := [w_Main mm As Bs Ac Bc Ag Bg hh rt tl, w_Script Z.2.1 As q11.1, w_Script Z.2.1 Bs q12, w_Scenes Z.2.1 Ac q11.2.2.1, w_Scenes Z.2.1 Bc E, w_Pages Z.2.1 Ag q11.2.2.2.1, w_Pages Z.2.1 Bg F, w_Hist Z.2.1 Z.2.2.1 hh ha Ah q11.2.2.2.2, w_Row Z.2.1 200 rt rq tx]) (z_rV (As := [.int q2]) (rest := []) hx hb hml hown hts vt_X5_markOmitted (c_X5_markOmitted l Z Bs q11.2.1 q2 _ hq12) rfl rfl ⟨Nat.le_of_ble_eq_true rfl, Nat.le_of_ble_eq_true rfl⟩ k_m_X6_176 zPmu_blind (z_recv (q := (RX5, TX5, 10)) (ci := 5) (q0 := 0) hK (zP_reg (L := l_Script Z.2.1 Bs q11.2.1.1 q11.2.1.2.1 q11.2.1.2.2.1 q11.2.1.2.2.2.1 q11.2.1.2.2.2.2.1 q11.2.1.2.2.2.2.2.1 q11.2.1.2.2.2.2.2.2.1 q11.2.1.2.2.2.2.2.2.2.1 q11.2.1.2.2.2.2.2.2.2.2.1 q11.2.1.2.2.2.2.2.2.2.2.2) (zP_reg hP 2 rfl) 0 rfl) rfl rfl) (z_prem hK (zP_reg hP 2 rfl) (zD_one hD 2 _ rfl)) rfl hl.1 (Nat.le_of_ble_eq_true rfl) (z_d hX6_omit_1 0 rfl) ⟨Nat.zero_le _, Nat.zero_le _⟩) hS hP hD 2 rfl rfl (adr_Script _ _ _ _) (fun H locs hP hD hS => ?_)
        refine W.eq (g2 := F0 m 123 ls []) rfl ?_
        refine lv_aload_n hx hb (z_d hX6_omit_1 1 rfl) rfl (lv_at hl 0 rfl) ?_
        refine z_bnd hF (fun q13 hq13 hF => ?_)
        refine z_mu0 (z_rV (As := []) (rest := []) hx hb hml hown hts vt_X6_keepDraft (c_X6_keepDraft l Z mm As Bs Ac Bc Ag Bg hh ha Ah rt rq tl q11.1 q12 q11.2.2.1 E q11.2.2.2.1 F q11.2.2.2.2 tx _ hq13) rfl rfl ⟨Nat.le_of_ble_eq_true rfl, Nat.le_of_ble_eq_true rfl⟩ k_m_X6_107 zPmu_blind (z_recv (q := (RX6, TX6, 9)) (ci := 6) (q0 := 0) hK (zP_reg hP 0 rfl) rfl rfl) (z_prem hK hP hD) rfl hl.1 (Nat.le_of_ble_eq_true rfl) (z_d hX6_omit_1 2 rfl) ⟨Nat.zero_le _, Nat.zero_le _⟩) hS hD (zadr_cons rfl (zadr_cons (adr_Script _ _ _ _) (zadr_cons (adr_Script _ _ _ _) (zadr_cons (adr_Scenes _ _ _ _) (zadr_cons (adr_Scenes _ _ _ _) (zadr_cons (adr_Pages _ _ _ _) (zadr_cons (adr_Pages _ _ _ _) (zadr_cons (adr_Hist _ _ _ _ _ _ _) (zadr_cons rfl rfl))))))))) (fun H locs hP hD hS => ?_)
        have hP : va_P Z.1 vwCl ([w_Main mm As Bs Ac Bc Ag Bg hh rt tl, w_Script Z.2.1 As q13.1, w_Script Z.2.1 Bs q12, w_Scenes Z.2.1 Ac q13.2.1, w_Scenes Z.2.1 Bc E, w_Pages Z.2.1 Ag q13.2.2.1, w_Pages Z.2.1 Bg F, w_Hist Z.2.1 Z.2.2.1 hh ha Ah q13.2.2.2, w_Row Z.2.1 200 rt rq tx]).flatten H := hP
        have hD : va_D A ([w_Main mm As Bs Ac Bc Ag Bg hh rt tl, w_Script Z.2.1 As q13.1, w_Script Z.2.1 Bs q12, w_Scenes Z.2.1 Ac q13.2.1, w_Scenes Z.2.1 Bc E, w_Pages Z.2.1 Ag q13.2.2.1, w_Pages Z.2.1 Bg F, w_Hist Z.2.1 Z.2.2.1 hh ha Ah q13.2.2.2, w_Row Z.2.1 200 rt rq tx]).flatten := hD
        refine W.eq (g2 := F0 m 127 ls []) rfl ?_
        refine lv_iload_n hx hb (z_d hX6_omit_1 3 rfl) rfl (lv_at hl 3 rfl) ?_
        obtain rfl := Option.some.inj hF
        subst hQ
        subst hA
        exact z_xret hx hb hr hlocks rfl hP hS (z_d hX6_omit_1 4 rfl)
      · have hF := z_neg hc52 hF
        exact J55 S D C G Hs hF _ _ ls hP hD hS (lv_sub hl [1, 2] rfl)
  · have hF := z_pos hc8 hF
    obtain rfl := Option.some.inj hF
    subst hQ
    subst hA
    exact z_throw (ik := 62) (ic := 66) (is := 166) (cls := "java/lang/IndexOutOfBoundsException") (text := "no such scene") (by decide) (by decide) hx hb hlt hown hts hT hnt hlocks k_c_X6_62 k_i_IndexOutOfBoundsException hS (hl.1.trans hml.symm) rfl hP ⟨⟨Nat.le_of_ble_eq_true rfl, Nat.le_of_ble_eq_true rfl⟩, ⟨Nat.le_of_ble_eq_true rfl, Nat.le_of_ble_eq_true rfl⟩⟩ (z_d hX6_omit_0 5 rfl) (z_d hX6_omit_0 6 rfl) (z_d hX6_omit_0 7 rfl) (z_d hX6_omit_0 8 rfl) (z_d hX6_omit_0 9 rfl)
def rm_X6_value : Room := { frames := 6, cells := 1, slots := 6, locals := 82 }
set_option maxRecDepth 100000 in
set_option maxHeartbeats 4000000 in
theorem c_X6_value (l : Launch) (hlt : l.stackTraces = false) (Z : zZ) (sa : Nat → Nat) (mm : Nat) (As : Nat → Nat) (Bs : Nat → Nat) (Ac : Nat → Nat) (Bc : Nat → Nat) (Ag : Nat → Nat) (Bg : Nat → Nat) (hh ha : Nat) (Ah : Nat → Nat → Nat) (rt rq : Nat) (tl : Int32) (S : t_Script) (D : t_Script) (C : t_Scenes) (E : t_Scenes) (G : t_Pages) (F : t_Pages) (Hs : t_Hist) (tx : Rw) (p1 : Int32) (R : (Int32 ⊕ Nat)) (hF : X6_value tl S D C E G F Hs tx p1 = some R) : zXM l yX6_value (zw yX6_value cX6_value 2 (some .int)) rm_X6_value Z sa [.ref mm, .int p1] (List.flatten [w_Main mm As Bs Ac Bc Ag Bg hh rt tl, w_Script Z.2.1 As S, w_Script Z.2.1 Bs D, w_Scenes Z.2.1 Ac C, w_Scenes Z.2.1 Bc E, w_Pages Z.2.1 Ag G, w_Pages Z.2.1 Bg F, w_Hist Z.2.1 Z.2.2.1 hh ha Ah Hs, w_Row Z.2.1 200 rt rq tx]) (List.flatten [w_Main mm As Bs Ac Bc Ag Bg hh rt tl, w_Script Z.2.1 As S, w_Script Z.2.1 Bs D, w_Scenes Z.2.1 Ac C, w_Scenes Z.2.1 Bc E, w_Pages Z.2.1 Ag G, w_Pages Z.2.1 Bg F, w_Hist Z.2.1 Z.2.2.1 hh ha Ah Hs, w_Row Z.2.1 200 rt rq tx]) (zr R) := by
  refine zXM_of (by decide) (Nat.le_of_ble_eq_true rfl) (fun p e s m below meth c hx hb hr hml hown hts hlocks hK A hA hT hnt Q hQ ls hl hP hD hS => ?_)
  unfold X6_value at hF
  have hl : lv_has ls 2 [(0, .ref mm), (1, .int p1)] := hl
  have hown : s.vm.findClass RX6 = some m.cls := hown
  refine lv_iload_n hx hb (z_d hX6_value_0 0 rfl) rfl (lv_at hl 1 rfl) ?_
  refine lv_bipush (v := 8) hx hb (z_d hX6_value_0 1 rfl) (by decide) ?_
  refine z_let hF (fun q1 hq1 hF => ?_)
  refine z_ro_i (z_rS (As := [.int p1, .int 8]) (rest := []) hx hb hml hown hts vs_X6_isBelow (c_X6_isBelow l Z p1 8 _ hq1) rfl rfl ⟨Nat.le_of_ble_eq_true rfl, Nat.le_of_ble_eq_true rfl⟩ k_m_X6_184 zPro_blind (z_prec hK zP_nil) rfl hl.1 (Nat.le_of_ble_eq_true rfl) (z_d hX6_value_0 2 rfl) ⟨Nat.zero_le _, Nat.zero_le _⟩) hS hP (fun H locs hP hS => ?_)
  refine lv_if_ne (tgt := 19) hx hb (z_d hX6_value_0 3 rfl) (by decide) (fun hc6 => ?_) (fun hc6 => ?_)
  · have hF := z_neg hc6 hF
    refine lv_aload_n hx hb (z_d hX6_value_0 9 rfl) rfl (lv_at hl 0 rfl) ?_
    refine lv_iload_n hx hb (z_d hX6_value_0 10 rfl) rfl (lv_at hl 1 rfl) ?_
    refine z_let hF (fun q2 hq2 hF => ?_)
    refine z_ro_i (z_rV (As := [.int p1]) (rest := []) hx hb hml hown hts vt_X6_valueOf (c_X6_valueOf l Z mm As Bs Ac Bc Ag Bg hh ha Ah rt rq tl S D C E G F Hs tx p1 _ hq2) rfl rfl ⟨Nat.le_of_ble_eq_true rfl, Nat.le_of_ble_eq_true rfl⟩ k_m_X6_189 zPro_blind (z_recv (q := (RX6, TX6, 9)) (ci := 6) (q0 := 0) hK (zP_reg hP 0 rfl) rfl rfl) (z_prec hK hP) rfl hl.1 (Nat.le_of_ble_eq_true rfl) (z_d hX6_value_0 11 rfl) ⟨Nat.zero_le _, Nat.zero_le _⟩) hS hP (fun H locs hP hS => ?_)
    obtain rfl := Option.some.inj hF
    subst hQ
    subst hA
    exact z_xret hx hb hr hlocks rfl hP hS (z_d hX6_value_0 12 rfl)
  · have hF := z_pos hc6 hF
    obtain rfl := Option.some.inj hF
    subst hQ
    subst hA
    exact z_throw (ik := 80) (ic := 84) (is := 187) (cls := "java/lang/IllegalArgumentException") (text := "what is out of range") (by decide) (by decide) hx hb hlt hown hts hT hnt hlocks k_c_X6_80 k_i_IllegalArgumentException hS (hl.1.trans hml.symm) rfl hP ⟨⟨Nat.le_of_ble_eq_true rfl, Nat.le_of_ble_eq_true rfl⟩, ⟨Nat.le_of_ble_eq_true rfl, Nat.le_of_ble_eq_true rfl⟩⟩ (z_d hX6_value_0 4 rfl) (z_d hX6_value_0 5 rfl) (z_d hX6_value_0 6 rfl) (z_d hX6_value_0 7 rfl) (z_d hX6_value_0 8 rfl)
def rm_X6_element : Room := { frames := 6, cells := 1, slots := 6, locals := 87 }
set_option maxRecDepth 100000 in
set_option maxHeartbeats 4000000 in
theorem c_X6_element (l : Launch) (hlt : l.stackTraces = false) (Z : zZ) (sa : Nat → Nat) (mm : Nat) (As : Nat → Nat) (Bs : Nat → Nat) (Ac : Nat → Nat) (Bc : Nat → Nat) (Ag : Nat → Nat) (Bg : Nat → Nat) (hh ha : Nat) (Ah : Nat → Nat → Nat) (rt rq : Nat) (tl : Int32) (S : t_Script) (D : t_Script) (C : t_Scenes) (E : t_Scenes) (G : t_Pages) (F : t_Pages) (Hs : t_Hist) (tx : Rw) (p1 : Int32) (p2 : Int32) (R : (Int32 ⊕ Nat)) (hF : X6_element tl S D C E G F Hs tx p1 p2 = some R) : zXM l yX6_element (zw yX6_element cX6_element 3 (some .int)) rm_X6_element Z sa [.ref mm, .int p1, .int p2] (List.flatten [w_Main mm As Bs Ac Bc Ag Bg hh rt tl, w_Script Z.2.1 As S, w_Script Z.2.1 Bs D, w_Scenes Z.2.1 Ac C, w_Scenes Z.2.1 Bc E, w_Pages Z.2.1 Ag G, w_Pages Z.2.1 Bg F, w_Hist Z.2.1 Z.2.2.1 hh ha Ah Hs, w_Row Z.2.1 200 rt rq tx]) (List.flatten [w_Main mm As Bs Ac Bc Ag Bg hh rt tl, w_Script Z.2.1 As S, w_Script Z.2.1 Bs D, w_Scenes Z.2.1 Ac C, w_Scenes Z.2.1 Bc E, w_Pages Z.2.1 Ag G, w_Pages Z.2.1 Bg F, w_Hist Z.2.1 Z.2.2.1 hh ha Ah Hs, w_Row Z.2.1 200 rt rq tx]) (zr R) := by
  refine zXM_of (by decide) (Nat.le_of_ble_eq_true rfl) (fun p e s m below meth c hx hb hr hml hown hts hlocks hK A hA hT hnt Q hQ ls hl hP hD hS => ?_)
  unfold X6_element at hF
  have hl : lv_has ls 3 [(0, .ref mm), (1, .int p1), (2, .int p2)] := hl
  have hown : s.vm.findClass RX6 = some m.cls := hown
  refine lv_aload_n hx hb (z_d hX6_element_0 0 rfl) rfl (lv_at hl 0 rfl) ?_
  refine va_get (D := Z.1) (ci := 6) (v := .ref (As 0)) (C := RX6) (T := TX6) (N := 9) hx hb hts zinX6 hown hK.1 (zP_reg hP 0 rfl) 0 rfl rfl 0 (by decide) (hts _ k_f_X6_12) (fun _ h9 => h9) rfl (z_d hX6_element_0 1 rfl) ?_
  refine lv_iload_n hx hb (z_d hX6_element_0 2 rfl) rfl (lv_at hl 1 rfl) ?_
  refine z_let hF (fun q1 hq1 hF => ?_)
  refine z_ro_i (z_rV (As := [.int p1]) (rest := []) hx hb hml hown hts vt_X5_has (c_X5_has l Z As S p1 _ hq1) rfl rfl ⟨Nat.le_of_ble_eq_true rfl, Nat.le_of_ble_eq_true rfl⟩ k_m_X6_110 zPro_blind (z_recv (q := (RX5, TX5, 10)) (ci := 5) (q0 := 0) hK (zP_reg (L := l_Script Z.2.1 As S.1 S.2.1 S.2.2.1 S.2.2.2.1 S.2.2.2.2.1 S.2.2.2.2.2.1 S.2.2.2.2.2.2.1 S.2.2.2.2.2.2.2.1 S.2.2.2.2.2.2.2.2.1 S.2.2.2.2.2.2.2.2.2) (zP_reg hP 1 rfl) 0 rfl) rfl rfl) (z_prec hK (zP_reg hP 1 rfl)) rfl hl.1 (Nat.le_of_ble_eq_true rfl) (z_d hX6_element_0 3 rfl) ⟨Nat.zero_le _, Nat.zero_le _⟩) hS hP (fun H locs hP hS => ?_)
  refine lv_if_ne (tgt := 21) hx hb (z_d hX6_element_0 4 rfl) (by decide) (fun hc8 => ?_) (fun hc8 => ?_)
  · have hF := z_neg hc8 hF
    refine lv_iload_n hx hb (z_d hX6_element_0 10 rfl) rfl (lv_at hl 2 rfl) ?_
    refine lv_bipush (v := 10) hx hb (z_d hX6_element_0 11 rfl) (by decide) ?_
    refine z_let hF (fun q2 hq2 hF => ?_)
    refine z_ro_i (z_rS (As := [.int p2, .int 10]) (rest := []) hx hb hml hown hts vs_X6_isBelow (c_X6_isBelow l Z p2 10 _ hq2) rfl rfl ⟨Nat.le_of_ble_eq_true rfl, Nat.le_of_ble_eq_true rfl⟩ k_m_X6_184 zPro_blind (z_prec hK zP_nil) rfl hl.1 (Nat.le_of_ble_eq_true rfl) (z_d hX6_element_0 12 rfl) ⟨Nat.zero_le _, Nat.zero_le _⟩) hS hP (fun H locs hP hS => ?_)
    refine lv_if_ne (tgt := 40) hx hb (z_d hX6_element_0 13 rfl) (by decide) (fun hc27 => ?_) (fun hc27 => ?_)
    · have hF := z_neg hc27 hF
      refine lv_aload_n hx hb (z_d hX6_element_0 19 rfl) rfl (lv_at hl 0 rfl) ?_
      refine lv_iload_n hx hb (z_d hX6_element_0 20 rfl) rfl (lv_at hl 1 rfl) ?_
      refine lv_iload_n hx hb (z_d hX6_element_0 21 rfl) rfl (lv_at hl 2 rfl) ?_
      refine z_let hF (fun q3 hq3 hF => ?_)
      refine z_ro_i (z_rV (As := [.int p1, .int p2]) (rest := []) hx hb hml hown hts vt_X6_elementFact (c_X6_elementFact l Z mm As Bs Ac Bc Ag Bg hh ha Ah rt rq tl S D C E G F Hs tx p1 p2 _ hq3) rfl rfl ⟨Nat.le_of_ble_eq_true rfl, Nat.le_of_ble_eq_true rfl⟩ k_m_X6_192 zPro_blind (z_recv (q := (RX6, TX6, 9)) (ci := 6) (q0 := 0) hK (zP_reg hP 0 rfl) rfl rfl) (z_prec hK hP) rfl hl.1 (Nat.le_of_ble_eq_true rfl) (z_d hX6_element_0 22 rfl) ⟨Nat.zero_le _, Nat.zero_le _⟩) hS hP (fun H locs hP hS => ?_)
      obtain rfl := Option.some.inj hF
      subst hQ
      subst hA
      exact z_xret hx hb hr hlocks rfl hP hS (z_d hX6_element_0 23 rfl)
    · have hF := z_pos hc27 hF
      obtain rfl := Option.some.inj hF
      subst hQ
      subst hA
      exact z_throw (ik := 80) (ic := 84) (is := 187) (cls := "java/lang/IllegalArgumentException") (text := "what is out of range") (by decide) (by decide) hx hb hlt hown hts hT hnt hlocks k_c_X6_80 k_i_IllegalArgumentException hS (hl.1.trans hml.symm) rfl hP ⟨⟨Nat.le_of_ble_eq_true rfl, Nat.le_of_ble_eq_true rfl⟩, ⟨Nat.le_of_ble_eq_true rfl, Nat.le_of_ble_eq_true rfl⟩⟩ (z_d hX6_element_0 14 rfl) (z_d hX6_element_0 15 rfl) (z_d hX6_element_0 16 rfl) (z_d hX6_element_0 17 rfl) (z_d hX6_element_0 18 rfl)
  · have hF := z_pos hc8 hF
    obtain rfl := Option.some.inj hF
    subst hQ
    subst hA
    exact z_throw (ik := 62) (ic := 66) (is := 113) (cls := "java/lang/IndexOutOfBoundsException") (text := "no such element") (by decide) (by decide) hx hb hlt hown hts hT hnt hlocks k_c_X6_62 k_i_IndexOutOfBoundsException hS (hl.1.trans hml.symm) rfl hP ⟨⟨Nat.le_of_ble_eq_true rfl, Nat.le_of_ble_eq_true rfl⟩, ⟨Nat.le_of_ble_eq_true rfl, Nat.le_of_ble_eq_true rfl⟩⟩ (z_d hX6_element_0 5 rfl) (z_d hX6_element_0 6 rfl) (z_d hX6_element_0 7 rfl) (z_d hX6_element_0 8 rfl) (z_d hX6_element_0 9 rfl)
def rm_X6_scene : Room := { frames := 6, cells := 1, slots := 6, locals := 82 }
set_option maxRecDepth 100000 in
set_option maxHeartbeats 4000000 in
theorem c_X6_scene (l : Launch) (hlt : l.stackTraces = false) (Z : zZ) (sa : Nat → Nat) (mm : Nat) (As : Nat → Nat) (Bs : Nat → Nat) (Ac : Nat → Nat) (Bc : Nat → Nat) (Ag : Nat → Nat) (Bg : Nat → Nat) (hh ha : Nat) (Ah : Nat → Nat → Nat) (rt rq : Nat) (tl : Int32) (S : t_Script) (D : t_Script) (C : t_Scenes) (E : t_Scenes) (G : t_Pages) (F : t_Pages) (Hs : t_Hist) (tx : Rw) (p1 : Int32) (p2 : Int32) (R : (Int32 ⊕ Nat)) (hF : X6_scene tl S D C E G F Hs tx p1 p2 = some R) : zXM l yX6_scene (zw yX6_scene cX6_scene 3 (some .int)) rm_X6_scene Z sa [.ref mm, .int p1, .int p2] (List.flatten [w_Main mm As Bs Ac Bc Ag Bg hh rt tl, w_Script Z.2.1 As S, w_Script Z.2.1 Bs D, w_Scenes Z.2.1 Ac C, w_Scenes Z.2.1 Bc E, w_Pages Z.2.1 Ag G, w_Pages Z.2.1 Bg F, w_Hist Z.2.1 Z.2.2.1 hh ha Ah Hs, w_Row Z.2.1 200 rt rq tx]) (List.flatten [w_Main mm As Bs Ac Bc Ag Bg hh rt tl, w_Script Z.2.1 As S, w_Script Z.2.1 Bs D, w_Scenes Z.2.1 Ac C, w_Scenes Z.2.1 Bc E, w_Pages Z.2.1 Ag G, w_Pages Z.2.1 Bg F, w_Hist Z.2.1 Z.2.2.1 hh ha Ah Hs, w_Row Z.2.1 200 rt rq tx]) (zr R) := by
  refine zXM_of (by decide) (Nat.le_of_ble_eq_true rfl) (fun p e s m below meth c hx hb hr hml hown hts hlocks hK A hA hT hnt Q hQ ls hl hP hD hS => ?_)
  unfold X6_scene at hF
  have hl : lv_has ls 3 [(0, .ref mm), (1, .int p1), (2, .int p2)] := hl
  have hown : s.vm.findClass RX6 = some m.cls := hown
  refine lv_aload_n hx hb (z_d hX6_scene_0 0 rfl) rfl (lv_at hl 0 rfl) ?_
  refine va_get (D := Z.1) (ci := 6) (v := .ref (Ac 0)) (C := RX6) (T := TX6) (N := 9) hx hb hts zinX6 hown hK.1 (zP_reg hP 0 rfl) 0 rfl rfl 2 (by decide) (hts _ k_f_X6_22) (fun _ h9 => h9) rfl (z_d hX6_scene_0 1 rfl) ?_
  refine lv_iload_n hx hb (z_d hX6_scene_0 2 rfl) rfl (lv_at hl 1 rfl) ?_
  refine z_let hF (fun q1 hq1 hF => ?_)
  refine z_ro_i (z_rV (As := [.int p1]) (rest := []) hx hb hml hown hts vt_X4_has (c_X4_has l Z Ac C p1 _ hq1) rfl rfl ⟨Nat.le_of_ble_eq_true rfl, Nat.le_of_ble_eq_true rfl⟩ k_m_X6_165 zPro_blind (z_recv (q := (RX4, TX4, 12)) (ci := 4) (q0 := 0) hK (zP_reg (L := l_Scenes Z.2.1 Ac C.1 C.2.1 C.2.2.1 C.2.2.2.1 C.2.2.2.2.1 C.2.2.2.2.2.1 C.2.2.2.2.2.2.1 C.2.2.2.2.2.2.2.1 C.2.2.2.2.2.2.2.2.1 C.2.2.2.2.2.2.2.2.2.1 C.2.2.2.2.2.2.2.2.2.2.1 C.2.2.2.2.2.2.2.2.2.2.2) (zP_reg hP 3 rfl) 0 rfl) rfl rfl) (z_prec hK (zP_reg hP 3 rfl)) rfl hl.1 (Nat.le_of_ble_eq_true rfl) (z_d hX6_scene_0 3 rfl) ⟨Nat.zero_le _, Nat.zero_le _⟩) hS hP (fun H locs hP hS => ?_)
  refine lv_if_ne (tgt := 21) hx hb (z_d hX6_scene_0 4 rfl) (by decide) (fun hc8 => ?_) (fun hc8 => ?_)
  · have hF := z_neg hc8 hF
    refine lv_iload_n hx hb (z_d hX6_scene_0 10 rfl) rfl (lv_at hl 2 rfl) ?_
    refine lv_bipush (v := 10) hx hb (z_d hX6_scene_0 11 rfl) (by decide) ?_
    refine z_let hF (fun q2 hq2 hF => ?_)
    refine z_ro_i (z_rS (As := [.int p2, .int 10]) (rest := []) hx hb hml hown hts vs_X6_isBelow (c_X6_isBelow l Z p2 10 _ hq2) rfl rfl ⟨Nat.le_of_ble_eq_true rfl, Nat.le_of_ble_eq_true rfl⟩ k_m_X6_184 zPro_blind (z_prec hK zP_nil) rfl hl.1 (Nat.le_of_ble_eq_true rfl) (z_d hX6_scene_0 12 rfl) ⟨Nat.zero_le _, Nat.zero_le _⟩) hS hP (fun H locs hP hS => ?_)
    refine lv_if_ne (tgt := 40) hx hb (z_d hX6_scene_0 13 rfl) (by decide) (fun hc27 => ?_) (fun hc27 => ?_)
    · have hF := z_neg hc27 hF
      refine lv_aload_n hx hb (z_d hX6_scene_0 19 rfl) rfl (lv_at hl 0 rfl) ?_
      refine lv_iload_n hx hb (z_d hX6_scene_0 20 rfl) rfl (lv_at hl 1 rfl) ?_
      refine lv_iload_n hx hb (z_d hX6_scene_0 21 rfl) rfl (lv_at hl 2 rfl) ?_
      refine z_bnd hF (fun q3 hq3 hF => ?_)
      refine z_ro_i (z_rV (As := [.int p1, .int p2]) (rest := []) hx hb hml hown hts vt_X6_sceneFact (c_X6_sceneFact l Z mm As Bs Ac Bc Ag Bg hh ha Ah rt rq tl S D C E G F Hs tx p1 p2 _ hq3) rfl rfl ⟨Nat.le_of_ble_eq_true rfl, Nat.le_of_ble_eq_true rfl⟩ k_m_X6_196 zPro_blind (z_recv (q := (RX6, TX6, 9)) (ci := 6) (q0 := 0) hK (zP_reg hP 0 rfl) rfl rfl) (z_prec hK hP) rfl hl.1 (Nat.le_of_ble_eq_true rfl) (z_d hX6_scene_0 22 rfl) ⟨Nat.zero_le _, Nat.zero_le _⟩) hS hP (fun H locs hP hS => ?_)
      obtain rfl := Option.some.inj hF
      subst hQ
      subst hA
      exact z_xret hx hb hr hlocks rfl hP hS (z_d hX6_scene_0 23 rfl)
    · have hF := z_pos hc27 hF
      obtain rfl := Option.some.inj hF
      subst hQ
      subst hA
      exact z_throw (ik := 80) (ic := 84) (is := 187) (cls := "java/lang/IllegalArgumentException") (text := "what is out of range") (by decide) (by decide) hx hb hlt hown hts hT hnt hlocks k_c_X6_80 k_i_IllegalArgumentException hS (hl.1.trans hml.symm) rfl hP ⟨⟨Nat.le_of_ble_eq_true rfl, Nat.le_of_ble_eq_true rfl⟩, ⟨Nat.le_of_ble_eq_true rfl, Nat.le_of_ble_eq_true rfl⟩⟩ (z_d hX6_scene_0 14 rfl) (z_d hX6_scene_0 15 rfl) (z_d hX6_scene_0 16 rfl) (z_d hX6_scene_0 17 rfl) (z_d hX6_scene_0 18 rfl)
  · have hF := z_pos hc8 hF
    obtain rfl := Option.some.inj hF
    subst hQ
    subst hA
    exact z_throw (ik := 62) (ic := 66) (is := 166) (cls := "java/lang/IndexOutOfBoundsException") (text := "no such scene") (by decide) (by decide) hx hb hlt hown hts hT hnt hlocks k_c_X6_62 k_i_IndexOutOfBoundsException hS (hl.1.trans hml.symm) rfl hP ⟨⟨Nat.le_of_ble_eq_true rfl, Nat.le_of_ble_eq_true rfl⟩, ⟨Nat.le_of_ble_eq_true rfl, Nat.le_of_ble_eq_true rfl⟩⟩ (z_d hX6_scene_0 5 rfl) (z_d hX6_scene_0 6 rfl) (z_d hX6_scene_0 7 rfl) (z_d hX6_scene_0 8 rfl) (z_d hX6_scene_0 9 rfl)
def rm_X6_names : Room := { frames := 6, cells := 1, slots := 6, locals := 82 }
set_option maxRecDepth 100000 in
set_option maxHeartbeats 4000000 in
theorem c_X6_names (l : Launch) (hlt : l.stackTraces = false) (Z : zZ) (sa : Nat → Nat) (mm : Nat) (As : Nat → Nat) (Bs : Nat → Nat) (Ac : Nat → Nat) (Bc : Nat → Nat) (Ag : Nat → Nat) (Bg : Nat → Nat) (hh ha : Nat) (Ah : Nat → Nat → Nat) (rt rq : Nat) (tl : Int32) (S : t_Script) (D : t_Script) (C : t_Scenes) (E : t_Scenes) (G : t_Pages) (F : t_Pages) (Hs : t_Hist) (tx : Rw) (p1 : Int32) (p2 : Int32) (R : (Int32 ⊕ Nat)) (hF : X6_names tl S D C E G F Hs tx p1 p2 = some R) : zXM l yX6_names (zw yX6_names cX6_names 5 (some .int)) rm_X6_names Z sa [.ref mm, .int p1, .int p2] (List.flatten [w_Main mm As Bs Ac Bc Ag Bg hh rt tl, w_Script Z.2.1 As S, w_Script Z.2.1 Bs D, w_Scenes Z.2.1 Ac C, w_Scenes Z.2.1 Bc E, w_Pages Z.2.1 Ag G, w_Pages Z.2.1 Bg F, w_Hist Z.2.1 Z.2.2.1 hh ha Ah Hs, w_Row Z.2.1 200 rt rq tx]) (List.flatten [w_Main mm As Bs Ac Bc Ag Bg hh rt tl, w_Script Z.2.1 As S, w_Script Z.2.1 Bs D, w_Scenes Z.2.1 Ac C, w_Scenes Z.2.1 Bc E, w_Pages Z.2.1 Ag G, w_Pages Z.2.1 Bg F, w_Hist Z.2.1 Z.2.2.1 hh ha Ah Hs, w_Row Z.2.1 200 rt rq tx]) (zr R) := by
  refine zXM_of (by decide) (Nat.le_of_ble_eq_true rfl) (fun p e s m below meth c hx hb hr hml hown hts hlocks hK A hA hT hnt Q hQ ls hl hP hD hS => ?_)
  unfold X6_names at hF
  have hl : lv_has ls 5 [(0, .ref mm), (1, .int p1), (2, .int p2)] := hl
  have hown : s.vm.findClass RX6 = some m.cls := hown
  have J10 : ∀  (hF : j_X6_names_10 tl S D C E G F Hs tx p1 p2 = some R) (H : Heap) (locs : List Loc) (ls : Array Slot) (hP : va_P Z.1 vwCl ([w_Main mm As Bs Ac Bc Ag Bg hh rt tl, w_Script Z.2.1 As S, w_Script Z.2.1 Bs D, w_Scenes Z.2.1 Ac C, w_Scenes Z.2.1 Bc E, w_Pages Z.2.1 Ag G, w_Pages Z.2.1 Bg F, w_Hist Z.2.1 Z.2.2.1 hh ha Ah Hs, w_Row Z.2.1 200 rt rq tx]).flatten H) (hD : va_D A ([w_Main mm As Bs Ac Bc Ag Bg hh rt tl, w_Script Z.2.1 As S, w_Script Z.2.1 Bs D, w_Scenes Z.2.1 Ac C, w_Scenes Z.2.1 Bc E, w_Pages Z.2.1 Ag G, w_Pages Z.2.1 Bg F, w_Hist Z.2.1 Z.2.2.1 hh ha Ah Hs, w_Row Z.2.1 200 rt rq tx]).flatten) (hS : va_S A s.heap H locs) (hl : lv_has ls 5 [(0, .ref mm), (1, .int p1), (2, .int p2)]), W p l e rm_X6_names s m ([.ref mm, .int p1, .int p2] : List Value).toArray below meth c H locs 0 0 Q (F0 m 10 ls []) := by
    intro  hF H locs ls hP hD hS hl
    unfold j_X6_names_10 at hF
    obtain rfl := Option.some.inj hF
    subst hQ
    subst hA
    exact z_throw (ik := 80) (ic := 84) (is := 204) (cls := "java/lang/IllegalArgumentException") (text := "person is out of range") (by decide) (by decide) hx hb hlt hown hts hT hnt hlocks k_c_X6_80 k_i_IllegalArgumentException hS (hl.1.trans hml.symm) rfl hP ⟨⟨Nat.le_of_ble_eq_true rfl, Nat.le_of_ble_eq_true rfl⟩, ⟨Nat.le_of_ble_eq_true rfl, Nat.le_of_ble_eq_true rfl⟩⟩ (z_d hX6_names_0 5 rfl) (z_d hX6_names_0 6 rfl) (z_d hX6_names_0 7 rfl) (z_d hX6_names_0 8 rfl) (z_d hX6_names_0 9 rfl)
  have L25 : ∀  (n : Nat) (v : Int32 × Int32) (X : Int32) (hF : zloop (b_X6_names_25 tl S D C E G F Hs tx p1 p2 ) n v = some X) (H : Heap) (locs : List Loc) (ls : Array Slot) (hP : va_P Z.1 vwCl ([w_Main mm As Bs Ac Bc Ag Bg hh rt tl, w_Script Z.2.1 As S, w_Script Z.2.1 Bs D, w_Scenes Z.2.1 Ac C, w_Scenes Z.2.1 Bc E, w_Pages Z.2.1 Ag G, w_Pages Z.2.1 Bg F, w_Hist Z.2.1 Z.2.2.1 hh ha Ah Hs, w_Row Z.2.1 200 rt rq tx]).flatten H) (hD : va_D A ([w_Main mm As Bs Ac Bc Ag Bg hh rt tl, w_Script Z.2.1 As S, w_Script Z.2.1 Bs D, w_Scenes Z.2.1 Ac C, w_Scenes Z.2.1 Bc E, w_Pages Z.2.1 Ag G, w_Pages Z.2.1 Bg F, w_Hist Z.2.1 Z.2.2.1 hh ha Ah Hs, w_Row Z.2.1 200 rt rq tx]).flatten) (hS : va_S A s.heap H locs) (hl : lv_has ls 5 [(0, .ref mm), (1, .int p1), (2, .int p2), (3, .int v.1), (4, .int v.2)]) (K1 : ∀ (H : Heap) (locs : List Loc) (ls : Array Slot) (hP : va_P Z.1 vwCl ([w_Main mm As Bs Ac Bc Ag Bg hh rt tl, w_Script Z.2.1 As S, w_Script Z.2.1 Bs D, w_Scenes Z.2.1 Ac C, w_Scenes Z.2.1 Bc E, w_Pages Z.2.1 Ag G, w_Pages Z.2.1 Bg F, w_Hist Z.2.1 Z.2.2.1 hh ha Ah Hs, w_Row Z.2.1 200 rt rq tx]).flatten H) (hD : va_D A ([w_Main mm As Bs Ac Bc Ag Bg hh rt tl, w_Script Z.2.1 As S, w_Script Z.2.1 Bs D, w_Scenes Z.2.1 Ac C, w_Scenes Z.2.1 Bc E, w_Pages Z.2.1 Ag G, w_Pages Z.2.1 Bg F, w_Hist Z.2.1 Z.2.2.1 hh ha Ah Hs, w_Row Z.2.1 200 rt rq tx]).flatten) (hS : va_S A s.heap H locs) (hl : lv_has ls 5 [(0, .ref mm), (1, .int p1), (2, .int p2), (3, .int X)]), W p l e rm_X6_names s m ([.ref mm, .int p1, .int p2] : List Value).toArray below meth c H locs 0 0 Q (F0 m 82 ls [])), W p l e rm_X6_names s m ([.ref mm, .int p1, .int p2] : List Value).toArray below meth c H locs 0 0 Q (F0 m 25 ls []) := by
    skip
    refine z_loopE (fun rec ih v X hF H locs ls hP hD hS hl K1 => ?_)
    unfold b_X6_names_25 at hF
    refine lv_iload hx hb (z_d hX6_names_0 14 rfl) (lv_at hl 4 rfl) ?_
    refine lv_aload_n hx hb (z_d hX6_names_0 15 rfl) rfl (lv_at hl 0 rfl) ?_
    refine va_get (D := Z.1) (ci := 6) (v := .ref (As 0)) (C := RX6) (T := TX6) (N := 9) hx hb hts zinX6 hown hK.1 (zP_reg hP 0 rfl) 0 rfl rfl 0 (by decide) (hts _ k_f_X6_12) (fun _ h9 => h9) rfl (z_d hX6_names_0 16 rfl) ?_
    refine va_getN (D := Z.1) (ci := 5) (v := .int S.1) (C := RX5) (T := TX5) (N := 10) hx hb hts zinX5 hown hK.1 (zP_reg (L := l_Script Z.2.1 As S.1 S.2.1 S.2.2.1 S.2.2.2.1 S.2.2.2.2.1 S.2.2.2.2.2.1 S.2.2.2.2.2.2.1 S.2.2.2.2.2.2.2.1 S.2.2.2.2.2.2.2.2.1 S.2.2.2.2.2.2.2.2.2) (zP_reg hP 1 rfl) 0 rfl) 0 rfl rfl 0 (by decide) (kn_X6_59 hK.2) (fun _ h9 => h9) rfl (z_d hX6_names_0 17 rfl) ?_
    refine lv_icmp_ge (tgt := 82) hx hb (z_d hX6_names_0 18 rfl) (by decide) (fun hc34 => ?_) (fun hc34 => ?_)
    · have hF := z_pos hc34 hF
      obtain rfl := Option.some.inj hF
      exact K1 _ _ ls hP hD hS (lv_sub hl [0, 1, 2, 3] rfl)
    · have hF := z_neg hc34 hF
      refine lv_aload_n hx hb (z_d hX6_names_0 19 rfl) rfl (lv_at hl 0 rfl) ?_
      refine va_get (D := Z.1) (ci := 6) (v := .ref (As 0)) (C := RX6) (T := TX6) (N := 9) hx hb hts zinX6 hown hK.1 (zP_reg hP 0 rfl) 0 rfl rfl 0 (by decide) (hts _ k_f_X6_12) (fun _ h9 => h9) rfl (z_d hX6_names_0 20 rfl) ?_
      refine va_getN (D := Z.1) (ci := 5) (v := .ref (As 5)) (C := RX5) (T := TX5) (N := 10) hx hb hts zinX5 hown hK.1 (zP_reg (L := l_Script Z.2.1 As S.1 S.2.1 S.2.2.1 S.2.2.2.1 S.2.2.2.2.1 S.2.2.2.2.2.1 S.2.2.2.2.2.2.1 S.2.2.2.2.2.2.2.1 S.2.2.2.2.2.2.2.2.1 S.2.2.2.2.2.2.2.2.2) (zP_reg hP 1 rfl) 0 rfl) 0 rfl rfl 4 (by decide) (kn_X6_206 hK.2) (fun _ h9 => h9) rfl (z_d hX6_names_0 21 rfl) ?_
      refine lv_iload hx hb (z_d hX6_names_0 22 rfl) (lv_at hl 4 rfl) ?_
      refine z_let hF (fun q1 hq1 hF => ?_)
      refine z_ro_i (z_rV (As := [.int v.2]) (rest := []) hx hb hml hown hts vt_X3_at (c_rAt l Z 60 (As 5) (As 6) (by decide) S.2.2.2.2.1 v.2 _ hq1) rfl rfl ⟨Nat.le_of_ble_eq_true rfl, Nat.le_of_ble_eq_true rfl⟩ k_m_X6_150 zPro_blind (z_recv (q := (RX3, TX3, 1)) (ci := 3) (q0 := 0) hK (zP_reg (L := l_Script Z.2.1 As S.1 S.2.1 S.2.2.1 S.2.2.2.1 S.2.2.2.2.1 S.2.2.2.2.2.1 S.2.2.2.2.2.2.1 S.2.2.2.2.2.2.2.1 S.2.2.2.2.2.2.2.2.1 S.2.2.2.2.2.2.2.2.2) (zP_reg hP 1 rfl) 3 rfl) rfl rfl) (z_prec hK (zP_reg (L := l_Script Z.2.1 As S.1 S.2.1 S.2.2.1 S.2.2.2.1 S.2.2.2.2.1 S.2.2.2.2.2.1 S.2.2.2.2.2.2.1 S.2.2.2.2.2.2.2.1 S.2.2.2.2.2.2.2.2.1 S.2.2.2.2.2.2.2.2.2) (zP_reg hP 1 rfl) 3 rfl)) rfl hl.1 (Nat.le_of_ble_eq_true rfl) (z_d hX6_names_0 23 rfl) ⟨Nat.zero_le _, Nat.zero_le _⟩) hS hP (fun H locs hP hS => ?_)
      refine lv_iload_n hx hb (z_d hX6_names_0 24 rfl) rfl (lv_at hl 1 rfl) ?_
      refine lv_icmp_ne (tgt := 76) hx hb (z_d hX6_names_0 25 rfl) (by decide) (fun hc50 => ?_) (fun hc50 => ?_)
      · have hF := z_neg hc50 hF
        refine z_let hF (fun u2 hu2 hF => ?_)
        refine lv_iinc (v := u2) (lv' := [(4, .int u2), (0, .ref mm), (1, .int p1), (2, .int p2), (3, .int v.1)]) hx hb (z_d hX6_names_0 36 rfl) hl (k := 4) rfl (z_inc1 hu2) (by decide) rfl (fun ls hl => ?_)
        refine lv_goto (tgt := 25) hx hb (z_d hX6_names_0 37 rfl) (by decide) ?_
        exact ih _ _ hF _ _ ls hP hD hS (lv_sub hl [1, 2, 3, 4, 0] rfl) K1
      · have hF := z_pos hc50 hF
        refine lv_iload_n hx hb (z_d hX6_names_0 26 rfl) rfl (lv_at hl 2 rfl) ?_
        refine lv_if_eq (tgt := 73) hx hb (z_d hX6_names_0 27 rfl) (by decide) (fun hc54 => ?_) (fun hc54 => ?_)
        · have hF := z_pos hc54 hF
          refine z_let hF (fun u3 hu3 hF => ?_)
          refine lv_iinc (v := u3) (lv' := [(3, .int u3), (0, .ref mm), (1, .int p1), (2, .int p2), (4, .int v.2)]) hx hb (z_d hX6_names_0 35 rfl) hl (k := 3) rfl (z_inc1 hu3) (by decide) rfl (fun ls hl => ?_)
          refine z_let hF (fun u4 hu4 hF => ?_)
          refine lv_iinc (v := u4) (lv' := [(4, .int u4), (3, .int u3), (0, .ref mm), (1, .int p1), (2, .int p2)]) hx hb (z_d hX6_names_0 36 rfl) hl (k := 4) rfl (z_inc1 hu4) (by decide) rfl (fun ls hl => ?_)
          refine lv_goto (tgt := 25) hx hb (z_d hX6_names_0 37 rfl) (by decide) ?_
          exact ih _ _ hF _ _ ls hP hD hS (lv_sub hl [2, 3, 4, 1, 0] rfl) K1
        · have hF := z_neg hc54 hF
          refine lv_aload_n hx hb (z_d hX6_names_0 28 rfl) rfl (lv_at hl 0 rfl) ?_
          refine va_get (D := Z.1) (ci := 6) (v := .ref (Ac 0)) (C := RX6) (T := TX6) (N := 9) hx hb hts zinX6 hown hK.1 (zP_reg hP 0 rfl) 0 rfl rfl 2 (by decide) (hts _ k_f_X6_22) (fun _ h9 => h9) rfl (z_d hX6_names_0 29 rfl) ?_
          refine va_getN (D := Z.1) (ci := 4) (v := .ref (Ac 17)) (C := RX4) (T := TX4) (N := 12) hx hb hts zinX4 hown hK.1 (zP_reg (L := l_Scenes Z.2.1 Ac C.1 C.2.1 C.2.2.1 C.2.2.2.1 C.2.2.2.2.1 C.2.2.2.2.2.1 C.2.2.2.2.2.2.1 C.2.2.2.2.2.2.2.1 C.2.2.2.2.2.2.2.2.1 C.2.2.2.2.2.2.2.2.2.1 C.2.2.2.2.2.2.2.2.2.2.1 C.2.2.2.2.2.2.2.2.2.2.2) (zP_reg hP 3 rfl) 0 rfl) 0 rfl rfl 11 (by decide) (kn_X6_209 hK.2) (fun _ h9 => h9) rfl (z_d hX6_names_0 30 rfl) ?_
          refine lv_iload hx hb (z_d hX6_names_0 31 rfl) (lv_at hl 4 rfl) ?_
          refine z_let hF (fun q5 hq5 hF => ?_)
          refine z_ro_i (z_rV (As := [.int v.2]) (rest := []) hx hb hml hown hts vt_X3_at (c_rAt l Z 60 (Ac 17) (Ac 18) (by decide) C.2.2.2.2.2.2.2.2.2.2.2 v.2 _ hq5) rfl rfl ⟨Nat.le_of_ble_eq_true rfl, Nat.le_of_ble_eq_true rfl⟩ k_m_X6_150 zPro_blind (z_recv (q := (RX3, TX3, 1)) (ci := 3) (q0 := 0) hK (zP_reg (L := l_Scenes Z.2.1 Ac C.1 C.2.1 C.2.2.1 C.2.2.2.1 C.2.2.2.2.1 C.2.2.2.2.2.1 C.2.2.2.2.2.2.1 C.2.2.2.2.2.2.2.1 C.2.2.2.2.2.2.2.2.1 C.2.2.2.2.2.2.2.2.2.1 C.2.2.2.2.2.2.2.2.2.2.1 C.2.2.2.2.2.2.2.2.2.2.2) (zP_reg hP 3 rfl) 9 rfl) rfl rfl) (z_prec hK (zP_reg (L := l_Scenes Z.2.1 Ac C.1 C.2.1 C.2.2.1 C.2.2.2.1 C.2.2.2.2.1 C.2.2.2.2.2.1 C.2.2.2.2.2.2.1 C.2.2.2.2.2.2.2.1 C.2.2.2.2.2.2.2.2.1 C.2.2.2.2.2.2.2.2.2.1 C.2.2.2.2.2.2.2.2.2.2.1 C.2.2.2.2.2.2.2.2.2.2.2) (zP_reg hP 3 rfl) 9 rfl)) rfl hl.1 (Nat.le_of_ble_eq_true rfl) (z_d hX6_names_0 32 rfl) ⟨Nat.zero_le _, Nat.zero_le _⟩) hS hP (fun H locs hP hS => ?_)
          refine lv_iconst (v := 1) hx hb (z_d hX6_names_0 33 rfl) (by decide) ?_
          refine lv_icmp_ne (tgt := 76) hx hb (z_d hX6_names_0 34 rfl) (by decide) (fun hc70 => ?_) (fun hc70 => ?_)
          · have hF := z_neg hc70 hF
            refine z_let hF (fun u6 hu6 hF => ?_)
            refine lv_iinc (v := u6) (lv' := [(4, .int u6), (0, .ref mm), (1, .int p1), (2, .int p2), (3, .int v.1)]) hx hb (z_d hX6_names_0 36 rfl) hl (k := 4) rfl (z_inc1 hu6) (by decide) rfl (fun ls hl => ?_)
            refine lv_goto (tgt := 25) hx hb (z_d hX6_names_0 37 rfl) (by decide) ?_
            exact ih _ _ hF _ _ ls hP hD hS (lv_sub hl [1, 2, 3, 4, 0] rfl) K1
          · have hF := z_pos hc70 hF
            refine z_let hF (fun u7 hu7 hF => ?_)
            refine lv_iinc (v := u7) (lv' := [(3, .int u7), (0, .ref mm), (1, .int p1), (2, .int p2), (4, .int v.2)]) hx hb (z_d hX6_names_0 35 rfl) hl (k := 3) rfl (z_inc1 hu7) (by decide) rfl (fun ls hl => ?_)
            refine z_let hF (fun u8 hu8 hF => ?_)
            refine lv_iinc (v := u8) (lv' := [(4, .int u8), (3, .int u7), (0, .ref mm), (1, .int p1), (2, .int p2)]) hx hb (z_d hX6_names_0 36 rfl) hl (k := 4) rfl (z_inc1 hu8) (by decide) rfl (fun ls hl => ?_)
            refine lv_goto (tgt := 25) hx hb (z_d hX6_names_0 37 rfl) (by decide) ?_
            exact ih _ _ hF _ _ ls hP hD hS (lv_sub hl [2, 3, 4, 1, 0] rfl) K1
  refine lv_iload_n hx hb (z_d hX6_names_0 0 rfl) rfl (lv_at hl 1 rfl) ?_
  refine lv_if_lt (tgt := 10) hx hb (z_d hX6_names_0 1 rfl) (by decide) (fun hc1 => ?_) (fun hc1 => ?_)
  · have hF := z_pos hc1 hF
    exact J10  hF _ _ ls hP hD hS (lv_sub hl [0, 1, 2] rfl)
  · have hF := z_neg hc1 hF
    refine lv_iload_n hx hb (z_d hX6_names_0 2 rfl) rfl (lv_at hl 1 rfl) ?_
    refine lv_bipush (v := 9) hx hb (z_d hX6_names_0 3 rfl) (by decide) ?_
    refine lv_icmp_le (tgt := 20) hx hb (z_d hX6_names_0 4 rfl) (by decide) (fun hc7 => ?_) (fun hc7 => ?_)
    · have hF := z_pos hc7 hF
      refine lv_iconst (v := 0) hx hb (z_d hX6_names_0 10 rfl) (by decide) ?_
      refine lv_istore_n (lv' := [(3, .int 0), (0, .ref mm), (1, .int p1), (2, .int p2)]) hx hb (z_d hX6_names_0 11 rfl) rfl hl (by decide) rfl (fun ls hl => ?_)
      refine lv_iconst (v := 0) hx hb (z_d hX6_names_0 12 rfl) (by decide) ?_
      refine lv_istore (lv' := [(4, .int 0), (3, .int 0), (0, .ref mm), (1, .int p1), (2, .int p2)]) hx hb (z_d hX6_names_0 13 rfl) hl (by decide) rfl (fun ls hl => ?_)
      refine z_bnd hF (fun q9 hq9 hF => ?_)
      refine L25  _ _ _ hq9 _ _ ls hP hD hS (lv_sub hl [2, 3, 4, 1, 0] rfl) (fun H locs ls hP hD hS hl => ?_)
      refine lv_iload_n hx hb (z_d hX6_names_0 38 rfl) rfl (lv_at hl 3 rfl) ?_
      obtain rfl := Option.some.inj hF
      subst hQ
      subst hA
      exact z_xret hx hb hr hlocks rfl hP hS (z_d hX6_names_0 39 rfl)
    · have hF := z_neg hc7 hF
      exact J10  hF _ _ ls hP hD hS (lv_sub hl [0, 1, 2] rfl)

def rm_X6n_value : Room := { frames := 1, cells := 0, slots := 0, locals := 21 }
set_option maxRecDepth 100000 in
set_option maxHeartbeats 4000000 in
theorem c_X6n_value (l : Launch) (Z : zZ) (mm : Nat) (As : Nat → Nat) (Bs : Nat → Nat) (Ac : Nat → Nat) (Bc : Nat → Nat) (Ag : Nat → Nat) (Bg : Nat → Nat) (hh ha : Nat) (Ah : Nat → Nat → Nat) (rt rq : Nat) (tl : Int32) (S : t_Script) (D : t_Script) (C : t_Scenes) (E : t_Scenes) (G : t_Pages) (F : t_Pages) (Hs : t_Hist) (tx : Rw) (p1 : Int32) (R : Int32) (hF : X6n_value tl S D C E G F Hs tx p1 = some R) : zRO l yX6_value (zw yX6_value cX6_value 2 (some .int)) rm_X6n_value Z [.ref mm, .int p1] (List.flatten [w_Main mm As Bs Ac Bc Ag Bg hh rt tl, w_Script Z.2.1 As S, w_Script Z.2.1 Bs D, w_Scenes Z.2.1 Ac C, w_Scenes Z.2.1 Bc E, w_Pages Z.2.1 Ag G, w_Pages Z.2.1 Bg F, w_Hist Z.2.1 Z.2.2.1 hh ha Ah Hs, w_Row Z.2.1 200 rt rq tx]) (some (.int R)) := by
  refine zRO_of (by decide) (Nat.le_of_ble_eq_true rfl) (fun p e s m below meth c hx hb hr hml hown hts hlocks hK Q hQ ls hl hP hS => ?_)
  unfold X6n_value at hF
  have hl : lv_has ls 2 [(0, .ref mm), (1, .int p1)] := hl
  have hown : s.vm.findClass RX6 = some m.cls := hown
  refine lv_iload_n hx hb (z_d hX6_value_0 0 rfl) rfl (lv_at hl 1 rfl) ?_
  refine lv_bipush (v := 8) hx hb (z_d hX6_value_0 1 rfl) (by decide) ?_
  refine z_let hF (fun q1 hq1 hF => ?_)
  refine z_ro_i (z_rS (As := [.int p1, .int 8]) (rest := []) hx hb hml hown hts vs_X6_isBelow (c_X6_isBelow l Z p1 8 _ hq1) rfl rfl ⟨Nat.le_of_ble_eq_true rfl, Nat.le_of_ble_eq_true rfl⟩ k_m_X6_184 zPro_blind (z_prec hK zP_nil) rfl hl.1 (Nat.le_of_ble_eq_true rfl) (z_d hX6_value_0 2 rfl) ⟨Nat.zero_le _, Nat.zero_le _⟩) hS hP (fun H locs hP hS => ?_)
  refine lv_if_ne (tgt := 19) hx hb (z_d hX6_value_0 3 rfl) (by decide) (fun hc6 => ?_) (fun hc6 => ?_)
  · have hF := z_neg hc6 hF
    refine lv_aload_n hx hb (z_d hX6_value_0 9 rfl) rfl (lv_at hl 0 rfl) ?_
    refine lv_iload_n hx hb (z_d hX6_value_0 10 rfl) rfl (lv_at hl 1 rfl) ?_
    refine z_let hF (fun q2 hq2 hF => ?_)
    refine z_ro_i (z_rV (As := [.int p1]) (rest := []) hx hb hml hown hts vt_X6_valueOf (c_X6_valueOf l Z mm As Bs Ac Bc Ag Bg hh ha Ah rt rq tl S D C E G F Hs tx p1 _ hq2) rfl rfl ⟨Nat.le_of_ble_eq_true rfl, Nat.le_of_ble_eq_true rfl⟩ k_m_X6_189 zPro_blind (z_recv (q := (RX6, TX6, 9)) (ci := 6) (q0 := 0) hK (zP_reg hP 0 rfl) rfl rfl) (z_prec hK hP) rfl hl.1 (Nat.le_of_ble_eq_true rfl) (z_d hX6_value_0 11 rfl) ⟨Nat.zero_le _, Nat.zero_le _⟩) hS hP (fun H locs hP hS => ?_)
    obtain rfl := Option.some.inj hF
    subst hQ
    exact W.iret hx hb hr (fun t ht hW => zq_ro (hS.F ht)) hS.2.2 (z_d hX6_value_0 12 rfl)
  · have hF := z_pos hc6 hF
    cases hF
def rm_X6n_element : Room := { frames := 4, cells := 0, slots := 0, locals := 87 }
set_option maxRecDepth 100000 in
set_option maxHeartbeats 4000000 in
theorem c_X6n_element (l : Launch) (Z : zZ) (mm : Nat) (As : Nat → Nat) (Bs : Nat → Nat) (Ac : Nat → Nat) (Bc : Nat → Nat) (Ag : Nat → Nat) (Bg : Nat → Nat) (hh ha : Nat) (Ah : Nat → Nat → Nat) (rt rq : Nat) (tl : Int32) (S : t_Script) (D : t_Script) (C : t_Scenes) (E : t_Scenes) (G : t_Pages) (F : t_Pages) (Hs : t_Hist) (tx : Rw) (p1 : Int32) (p2 : Int32) (R : Int32) (hF : X6n_element tl S D C E G F Hs tx p1 p2 = some R) : zRO l yX6_element (zw yX6_element cX6_element 3 (some .int)) rm_X6n_element Z [.ref mm, .int p1, .int p2] (List.flatten [w_Main mm As Bs Ac Bc Ag Bg hh rt tl, w_Script Z.2.1 As S, w_Script Z.2.1 Bs D, w_Scenes Z.2.1 Ac C, w_Scenes Z.2.1 Bc E, w_Pages Z.2.1 Ag G, w_Pages Z.2.1 Bg F, w_Hist Z.2.1 Z.2.2.1 hh ha Ah Hs, w_Row Z.2.1 200 rt rq tx]) (some (.int R)) := by
  refine zRO_of (by decide) (Nat.le_of_ble_eq_true rfl) (fun p e s m below meth c hx hb hr hml hown hts hlocks hK Q hQ ls hl hP hS => ?_)
  unfold X6n_element at hF
  have hl : lv_has ls 3 [(0, .ref mm), (1, .int p1), (2, .int p2)] := hl
  have hown : s.vm.findClass RX6 = some m.cls := hown
  refine lv_aload_n hx hb (z_d hX6_element_0 0 rfl) rfl (lv_at hl 0 rfl) ?_
  refine va_get (D := Z.1) (ci := 6) (v := .ref (As 0)) (C := RX6) (T := TX6) (N := 9) hx hb hts zinX6 hown hK.1 (zP_reg hP 0 rfl) 0 rfl rfl 0 (by decide) (hts _ k_f_X6_12) (fun _ h9 => h9) rfl (z_d hX6_element_0 1 rfl) ?_
  refine lv_iload_n hx hb (z_d hX6_element_0 2 rfl) rfl (lv_at hl 1 rfl) ?_
  refine z_let hF (fun q1 hq1 hF => ?_)
  refine z_ro_i (z_rV (As := [.int p1]) (rest := []) hx hb hml hown hts vt_X5_has (c_X5_has l Z As S p1 _ hq1) rfl rfl ⟨Nat.le_of_ble_eq_true rfl, Nat.le_of_ble_eq_true rfl⟩ k_m_X6_110 zPro_blind (z_recv (q := (RX5, TX5, 10)) (ci := 5) (q0 := 0) hK (zP_reg (L := l_Script Z.2.1 As S.1 S.2.1 S.2.2.1 S.2.2.2.1 S.2.2.2.2.1 S.2.2.2.2.2.1 S.2.2.2.2.2.2.1 S.2.2.2.2.2.2.2.1 S.2.2.2.2.2.2.2.2.1 S.2.2.2.2.2.2.2.2.2) (zP_reg hP 1 rfl) 0 rfl) rfl rfl) (z_prec hK (zP_reg hP 1 rfl)) rfl hl.1 (Nat.le_of_ble_eq_true rfl) (z_d hX6_element_0 3 rfl) ⟨Nat.zero_le _, Nat.zero_le _⟩) hS hP (fun H locs hP hS => ?_)
  refine lv_if_ne (tgt := 21) hx hb (z_d hX6_element_0 4 rfl) (by decide) (fun hc8 => ?_) (fun hc8 => ?_)
  · have hF := z_neg hc8 hF
    refine lv_iload_n hx hb (z_d hX6_element_0 10 rfl) rfl (lv_at hl 2 rfl) ?_
    refine lv_bipush (v := 10) hx hb (z_d hX6_element_0 11 rfl) (by decide) ?_
    refine z_let hF (fun q2 hq2 hF => ?_)
    refine z_ro_i (z_rS (As := [.int p2, .int 10]) (rest := []) hx hb hml hown hts vs_X6_isBelow (c_X6_isBelow l Z p2 10 _ hq2) rfl rfl ⟨Nat.le_of_ble_eq_true rfl, Nat.le_of_ble_eq_true rfl⟩ k_m_X6_184 zPro_blind (z_prec hK zP_nil) rfl hl.1 (Nat.le_of_ble_eq_true rfl) (z_d hX6_element_0 12 rfl) ⟨Nat.zero_le _, Nat.zero_le _⟩) hS hP (fun H locs hP hS => ?_)
    refine lv_if_ne (tgt := 40) hx hb (z_d hX6_element_0 13 rfl) (by decide) (fun hc27 => ?_) (fun hc27 => ?_)
    · have hF := z_neg hc27 hF
      refine lv_aload_n hx hb (z_d hX6_element_0 19 rfl) rfl (lv_at hl 0 rfl) ?_
      refine lv_iload_n hx hb (z_d hX6_element_0 20 rfl) rfl (lv_at hl 1 rfl) ?_
      refine lv_iload_n hx hb (z_d hX6_element_0 21 rfl) rfl (lv_at hl 2 rfl) ?_
      refine z_let hF (fun q3 hq3 hF => ?_)
      refine z_ro_i (z_rV (As := [.int p1, .int p2]) (rest := []) hx hb hml hown hts vt_X6_elementFact (c_X6_elementFact l Z mm As Bs Ac Bc Ag Bg hh ha Ah rt rq tl S D C E G F Hs tx p1 p2 _ hq3) rfl rfl ⟨Nat.le_of_ble_eq_true rfl, Nat.le_of_ble_eq_true rfl⟩ k_m_X6_192 zPro_blind (z_recv (q := (RX6, TX6, 9)) (ci := 6) (q0 := 0) hK (zP_reg hP 0 rfl) rfl rfl) (z_prec hK hP) rfl hl.1 (Nat.le_of_ble_eq_true rfl) (z_d hX6_element_0 22 rfl) ⟨Nat.zero_le _, Nat.zero_le _⟩) hS hP (fun H locs hP hS => ?_)
      obtain rfl := Option.some.inj hF
      subst hQ
      exact W.iret hx hb hr (fun t ht hW => zq_ro (hS.F ht)) hS.2.2 (z_d hX6_element_0 23 rfl)
    · have hF := z_pos hc27 hF
      cases hF
  · have hF := z_pos hc8 hF
    cases hF
def rm_X6n_scene : Room := { frames := 3, cells := 0, slots := 0, locals := 65 }
set_option maxRecDepth 100000 in
set_option maxHeartbeats 4000000 in
theorem c_X6n_scene (l : Launch) (Z : zZ) (mm : Nat) (As : Nat → Nat) (Bs : Nat → Nat) (Ac : Nat → Nat) (Bc : Nat → Nat) (Ag : Nat → Nat) (Bg : Nat → Nat) (hh ha : Nat) (Ah : Nat → Nat → Nat) (rt rq : Nat) (tl : Int32) (S : t_Script) (D : t_Script) (C : t_Scenes) (E : t_Scenes) (G : t_Pages) (F : t_Pages) (Hs : t_Hist) (tx : Rw) (p1 : Int32) (p2 : Int32) (R : Int32) (hF : X6n_scene tl S D C E G F Hs tx p1 p2 = some R) : zRO l yX6_scene (zw yX6_scene cX6_scene 3 (some .int)) rm_X6n_scene Z [.ref mm, .int p1, .int p2] (List.flatten [w_Main mm As Bs Ac Bc Ag Bg hh rt tl, w_Script Z.2.1 As S, w_Script Z.2.1 Bs D, w_Scenes Z.2.1 Ac C, w_Scenes Z.2.1 Bc E, w_Pages Z.2.1 Ag G, w_Pages Z.2.1 Bg F, w_Hist Z.2.1 Z.2.2.1 hh ha Ah Hs, w_Row Z.2.1 200 rt rq tx]) (some (.int R)) := by
  refine zRO_of (by decide) (Nat.le_of_ble_eq_true rfl) (fun p e s m below meth c hx hb hr hml hown hts hlocks hK Q hQ ls hl hP hS => ?_)
  unfold X6n_scene at hF
  have hl : lv_has ls 3 [(0, .ref mm), (1, .int p1), (2, .int p2)] := hl
  have hown : s.vm.findClass RX6 = some m.cls := hown
  refine lv_aload_n hx hb (z_d hX6_scene_0 0 rfl) rfl (lv_at hl 0 rfl) ?_
  refine va_get (D := Z.1) (ci := 6) (v := .ref (Ac 0)) (C := RX6) (T := TX6) (N := 9) hx hb hts zinX6 hown hK.1 (zP_reg hP 0 rfl) 0 rfl rfl 2 (by decide) (hts _ k_f_X6_22) (fun _ h9 => h9) rfl (z_d hX6_scene_0 1 rfl) ?_
  refine lv_iload_n hx hb (z_d hX6_scene_0 2 rfl) rfl (lv_at hl 1 rfl) ?_
  refine z_let hF (fun q1 hq1 hF => ?_)
  refine z_ro_i (z_rV (As := [.int p1]) (rest := []) hx hb hml hown hts vt_X4_has (c_X4_has l Z Ac C p1 _ hq1) rfl rfl ⟨Nat.le_of_ble_eq_true rfl, Nat.le_of_ble_eq_true rfl⟩ k_m_X6_165 zPro_blind (z_recv (q := (RX4, TX4, 12)) (ci := 4) (q0 := 0) hK (zP_reg (L := l_Scenes Z.2.1 Ac C.1 C.2.1 C.2.2.1 C.2.2.2.1 C.2.2.2.2.1 C.2.2.2.2.2.1 C.2.2.2.2.2.2.1 C.2.2.2.2.2.2.2.1 C.2.2.2.2.2.2.2.2.1 C.2.2.2.2.2.2.2.2.2.1 C.2.2.2.2.2.2.2.2.2.2.1 C.2.2.2.2.2.2.2.2.2.2.2) (zP_reg hP 3 rfl) 0 rfl) rfl rfl) (z_prec hK (zP_reg hP 3 rfl)) rfl hl.1 (Nat.le_of_ble_eq_true rfl) (z_d hX6_scene_0 3 rfl) ⟨Nat.zero_le _, Nat.zero_le _⟩) hS hP (fun H locs hP hS => ?_)
  refine lv_if_ne (tgt := 21) hx hb (z_d hX6_scene_0 4 rfl) (by decide) (fun hc8 => ?_) (fun hc8 => ?_)
  · have hF := z_neg hc8 hF
    refine lv_iload_n hx hb (z_d hX6_scene_0 10 rfl) rfl (lv_at hl 2 rfl) ?_
    refine lv_bipush (v := 10) hx hb (z_d hX6_scene_0 11 rfl) (by decide) ?_
    refine z_let hF (fun q2 hq2 hF => ?_)
    refine z_ro_i (z_rS (As := [.int p2, .int 10]) (rest := []) hx hb hml hown hts vs_X6_isBelow (c_X6_isBelow l Z p2 10 _ hq2) rfl rfl ⟨Nat.le_of_ble_eq_true rfl, Nat.le_of_ble_eq_true rfl⟩ k_m_X6_184 zPro_blind (z_prec hK zP_nil) rfl hl.1 (Nat.le_of_ble_eq_true rfl) (z_d hX6_scene_0 12 rfl) ⟨Nat.zero_le _, Nat.zero_le _⟩) hS hP (fun H locs hP hS => ?_)
    refine lv_if_ne (tgt := 40) hx hb (z_d hX6_scene_0 13 rfl) (by decide) (fun hc27 => ?_) (fun hc27 => ?_)
    · have hF := z_neg hc27 hF
      refine lv_aload_n hx hb (z_d hX6_scene_0 19 rfl) rfl (lv_at hl 0 rfl) ?_
      refine lv_iload_n hx hb (z_d hX6_scene_0 20 rfl) rfl (lv_at hl 1 rfl) ?_
      refine lv_iload_n hx hb (z_d hX6_scene_0 21 rfl) rfl (lv_at hl 2 rfl) ?_
      refine z_bnd hF (fun q3 hq3 hF => ?_)
      refine z_ro_i (z_rV (As := [.int p1, .int p2]) (rest := []) hx hb hml hown hts vt_X6_sceneFact (c_X6_sceneFact l Z mm As Bs Ac Bc Ag Bg hh ha Ah rt rq tl S D C E G F Hs tx p1 p2 _ hq3) rfl rfl ⟨Nat.le_of_ble_eq_true rfl, Nat.le_of_ble_eq_true rfl⟩ k_m_X6_196 zPro_blind (z_recv (q := (RX6, TX6, 9)) (ci := 6) (q0 := 0) hK (zP_reg hP 0 rfl) rfl rfl) (z_prec hK hP) rfl hl.1 (Nat.le_of_ble_eq_true rfl) (z_d hX6_scene_0 22 rfl) ⟨Nat.zero_le _, Nat.zero_le _⟩) hS hP (fun H locs hP hS => ?_)
      obtain rfl := Option.some.inj hF
      subst hQ
      exact W.iret hx hb hr (fun t ht hW => zq_ro (hS.F ht)) hS.2.2 (z_d hX6_scene_0 23 rfl)
    · have hF := z_pos hc27 hF
      cases hF
  · have hF := z_pos hc8 hF
    cases hF
def rm_X6n_names : Room := { frames := 1, cells := 0, slots := 0, locals := 21 }
set_option maxRecDepth 100000 in
set_option maxHeartbeats 4000000 in
theorem c_X6n_names (l : Launch) (Z : zZ) (mm : Nat) (As : Nat → Nat) (Bs : Nat → Nat) (Ac : Nat → Nat) (Bc : Nat → Nat) (Ag : Nat → Nat) (Bg : Nat → Nat) (hh ha : Nat) (Ah : Nat → Nat → Nat) (rt rq : Nat) (tl : Int32) (S : t_Script) (D : t_Script) (C : t_Scenes) (E : t_Scenes) (G : t_Pages) (F : t_Pages) (Hs : t_Hist) (tx : Rw) (p1 : Int32) (p2 : Int32) (R : Int32) (hF : X6n_names tl S D C E G F Hs tx p1 p2 = some R) : zRO l yX6_names (zw yX6_names cX6_names 5 (some .int)) rm_X6n_names Z [.ref mm, .int p1, .int p2] (List.flatten [w_Main mm As Bs Ac Bc Ag Bg hh rt tl, w_Script Z.2.1 As S, w_Script Z.2.1 Bs D, w_Scenes Z.2.1 Ac C, w_Scenes Z.2.1 Bc E, w_Pages Z.2.1 Ag G, w_Pages Z.2.1 Bg F, w_Hist Z.2.1 Z.2.2.1 hh ha Ah Hs, w_Row Z.2.1 200 rt rq tx]) (some (.int R)) := by
  refine zRO_of (by decide) (Nat.le_of_ble_eq_true rfl) (fun p e s m below meth c hx hb hr hml hown hts hlocks hK Q hQ ls hl hP hS => ?_)
  unfold X6n_names at hF
  have hl : lv_has ls 5 [(0, .ref mm), (1, .int p1), (2, .int p2)] := hl
  have hown : s.vm.findClass RX6 = some m.cls := hown
  have J10 : ∀  (hF : j_X6n_names_10 tl S D C E G F Hs tx p1 p2 = some R) (H : Heap) (locs : List Loc) (ls : Array Slot) (hP : va_P Z.1 vwCl ([w_Main mm As Bs Ac Bc Ag Bg hh rt tl, w_Script Z.2.1 As S, w_Script Z.2.1 Bs D, w_Scenes Z.2.1 Ac C, w_Scenes Z.2.1 Bc E, w_Pages Z.2.1 Ag G, w_Pages Z.2.1 Bg F, w_Hist Z.2.1 Z.2.2.1 hh ha Ah Hs, w_Row Z.2.1 200 rt rq tx]).flatten H) (hS : va_S (fun _ => False) s.heap H locs) (hl : lv_has ls 5 [(0, .ref mm), (1, .int p1), (2, .int p2)]), W p l e rm_X6n_names s m ([.ref mm, .int p1, .int p2] : List Value).toArray below meth c H locs 0 0 Q (F0 m 10 ls []) := by
    intro  hF H locs ls hP hS hl
    unfold j_X6n_names_10 at hF
    cases hF
  have L25 : ∀  (n : Nat) (v : Int32 × Int32) (X : Int32) (hF : zloop (b_X6n_names_25 tl S D C E G F Hs tx p1 p2 ) n v = some X) (H : Heap) (locs : List Loc) (ls : Array Slot) (hP : va_P Z.1 vwCl ([w_Main mm As Bs Ac Bc Ag Bg hh rt tl, w_Script Z.2.1 As S, w_Script Z.2.1 Bs D, w_Scenes Z.2.1 Ac C, w_Scenes Z.2.1 Bc E, w_Pages Z.2.1 Ag G, w_Pages Z.2.1 Bg F, w_Hist Z.2.1 Z.2.2.1 hh ha Ah Hs, w_Row Z.2.1 200 rt rq tx]).flatten H) (hS : va_S (fun _ => False) s.heap H locs) (hl : lv_has ls 5 [(0, .ref mm), (1, .int p1), (2, .int p2), (3, .int v.1), (4, .int v.2)]) (K1 : ∀ (H : Heap) (locs : List Loc) (ls : Array Slot) (hP : va_P Z.1 vwCl ([w_Main mm As Bs Ac Bc Ag Bg hh rt tl, w_Script Z.2.1 As S, w_Script Z.2.1 Bs D, w_Scenes Z.2.1 Ac C, w_Scenes Z.2.1 Bc E, w_Pages Z.2.1 Ag G, w_Pages Z.2.1 Bg F, w_Hist Z.2.1 Z.2.2.1 hh ha Ah Hs, w_Row Z.2.1 200 rt rq tx]).flatten H) (hS : va_S (fun _ => False) s.heap H locs) (hl : lv_has ls 5 [(0, .ref mm), (1, .int p1), (2, .int p2), (3, .int X)]), W p l e rm_X6n_names s m ([.ref mm, .int p1, .int p2] : List Value).toArray below meth c H locs 0 0 Q (F0 m 82 ls [])), W p l e rm_X6n_names s m ([.ref mm, .int p1, .int p2] : List Value).toArray below meth c H locs 0 0 Q (F0 m 25 ls []) := by
    skip
    refine z_loopE (fun rec ih v X hF H locs ls hP hS hl K1 => ?_)
    unfold b_X6n_names_25 at hF
    refine lv_iload hx hb (z_d hX6_names_0 14 rfl) (lv_at hl 4 rfl) ?_
    refine lv_aload_n hx hb (z_d hX6_names_0 15 rfl) rfl (lv_at hl 0 rfl) ?_
    refine va_get (D := Z.1) (ci := 6) (v := .ref (As 0)) (C := RX6) (T := TX6) (N := 9) hx hb hts zinX6 hown hK.1 (zP_reg hP 0 rfl) 0 rfl rfl 0 (by decide) (hts _ k_f_X6_12) (fun _ h9 => h9) rfl (z_d hX6_names_0 16 rfl) ?_
    refine va_getN (D := Z.1) (ci := 5) (v := .int S.1) (C := RX5) (T := TX5) (N := 10) hx hb hts zinX5 hown hK.1 (zP_reg (L := l_Script Z.2.1 As S.1 S.2.1 S.2.2.1 S.2.2.2.1 S.2.2.2.2.1 S.2.2.2.2.2.1 S.2.2.2.2.2.2.1 S.2.2.2.2.2.2.2.1 S.2.2.2.2.2.2.2.2.1 S.2.2.2.2.2.2.2.2.2) (zP_reg hP 1 rfl) 0 rfl) 0 rfl rfl 0 (by decide) (kn_X6_59 hK.2) (fun _ h9 => h9) rfl (z_d hX6_names_0 17 rfl) ?_
    refine lv_icmp_ge (tgt := 82) hx hb (z_d hX6_names_0 18 rfl) (by decide) (fun hc34 => ?_) (fun hc34 => ?_)
    · have hF := z_pos hc34 hF
      obtain rfl := Option.some.inj hF
      exact K1 _ _ ls hP hS (lv_sub hl [0, 1, 2, 3] rfl)
    · have hF := z_neg hc34 hF
      refine lv_aload_n hx hb (z_d hX6_names_0 19 rfl) rfl (lv_at hl 0 rfl) ?_
      refine va_get (D := Z.1) (ci := 6) (v := .ref (As 0)) (C := RX6) (T := TX6) (N := 9) hx hb hts zinX6 hown hK.1 (zP_reg hP 0 rfl) 0 rfl rfl 0 (by decide) (hts _ k_f_X6_12) (fun _ h9 => h9) rfl (z_d hX6_names_0 20 rfl) ?_
      refine va_getN (D := Z.1) (ci := 5) (v := .ref (As 5)) (C := RX5) (T := TX5) (N := 10) hx hb hts zinX5 hown hK.1 (zP_reg (L := l_Script Z.2.1 As S.1 S.2.1 S.2.2.1 S.2.2.2.1 S.2.2.2.2.1 S.2.2.2.2.2.1 S.2.2.2.2.2.2.1 S.2.2.2.2.2.2.2.1 S.2.2.2.2.2.2.2.2.1 S.2.2.2.2.2.2.2.2.2) (zP_reg hP 1 rfl) 0 rfl) 0 rfl rfl 4 (by decide) (kn_X6_206 hK.2) (fun _ h9 => h9) rfl (z_d hX6_names_0 21 rfl) ?_
      refine lv_iload hx hb (z_d hX6_names_0 22 rfl) (lv_at hl 4 rfl) ?_
      refine z_let hF (fun q1 hq1 hF => ?_)
      refine z_ro_i (z_rV (As := [.int v.2]) (rest := []) hx hb hml hown hts vt_X3_at (c_rAt l Z 60 (As 5) (As 6) (by decide) S.2.2.2.2.1 v.2 _ hq1) rfl rfl ⟨Nat.le_of_ble_eq_true rfl, Nat.le_of_ble_eq_true rfl⟩ k_m_X6_150 zPro_blind (z_recv (q := (RX3, TX3, 1)) (ci := 3) (q0 := 0) hK (zP_reg (L := l_Script Z.2.1 As S.1 S.2.1 S.2.2.1 S.2.2.2.1 S.2.2.2.2.1 S.2.2.2.2.2.1 S.2.2.2.2.2.2.1 S.2.2.2.2.2.2.2.1 S.2.2.2.2.2.2.2.2.1 S.2.2.2.2.2.2.2.2.2) (zP_reg hP 1 rfl) 3 rfl) rfl rfl) (z_prec hK (zP_reg (L := l_Script Z.2.1 As S.1 S.2.1 S.2.2.1 S.2.2.2.1 S.2.2.2.2.1 S.2.2.2.2.2.1 S.2.2.2.2.2.2.1 S.2.2.2.2.2.2.2.1 S.2.2.2.2.2.2.2.2.1 S.2.2.2.2.2.2.2.2.2) (zP_reg hP 1 rfl) 3 rfl)) rfl hl.1 (Nat.le_of_ble_eq_true rfl) (z_d hX6_names_0 23 rfl) ⟨Nat.zero_le _, Nat.zero_le _⟩) hS hP (fun H locs hP hS => ?_)
      refine lv_iload_n hx hb (z_d hX6_names_0 24 rfl) rfl (lv_at hl 1 rfl) ?_
      refine lv_icmp_ne (tgt := 76) hx hb (z_d hX6_names_0 25 rfl) (by decide) (fun hc50 => ?_) (fun hc50 => ?_)
      · have hF := z_neg hc50 hF
        refine z_let hF (fun u2 hu2 hF => ?_)
        refine lv_iinc (v := u2) (lv' := [(4, .int u2), (0, .ref mm), (1, .int p1), (2, .int p2), (3, .int v.1)]) hx hb (z_d hX6_names_0 36 rfl) hl (k := 4) rfl (z_inc1 hu2) (by decide) rfl (fun ls hl => ?_)
        refine lv_goto (tgt := 25) hx hb (z_d hX6_names_0 37 rfl) (by decide) ?_
        exact ih _ _ hF _ _ ls hP hS (lv_sub hl [1, 2, 3, 4, 0] rfl) K1
      · have hF := z_pos hc50 hF
        refine lv_iload_n hx hb (z_d hX6_names_0 26 rfl) rfl (lv_at hl 2 rfl) ?_
        refine lv_if_eq (tgt := 73) hx hb (z_d hX6_names_0 27 rfl) (by decide) (fun hc54 => ?_) (fun hc54 => ?_)
        · have hF := z_pos hc54 hF
          refine z_let hF (fun u3 hu3 hF => ?_)
          refine lv_iinc (v := u3) (lv' := [(3, .int u3), (0, .ref mm), (1, .int p1), (2, .int p2), (4, .int v.2)]) hx hb (z_d hX6_names_0 35 rfl) hl (k := 3) rfl (z_inc1 hu3) (by decide) rfl (fun ls hl => ?_)
          refine z_let hF (fun u4 hu4 hF => ?_)
          refine lv_iinc (v := u4) (lv' := [(4, .int u4), (3, .int u3), (0, .ref mm), (1, .int p1), (2, .int p2)]) hx hb (z_d hX6_names_0 36 rfl) hl (k := 4) rfl (z_inc1 hu4) (by decide) rfl (fun ls hl => ?_)
          refine lv_goto (tgt := 25) hx hb (z_d hX6_names_0 37 rfl) (by decide) ?_
          exact ih _ _ hF _ _ ls hP hS (lv_sub hl [2, 3, 4, 1, 0] rfl) K1
        · have hF := z_neg hc54 hF
          refine lv_aload_n hx hb (z_d hX6_names_0 28 rfl) rfl (lv_at hl 0 rfl) ?_
          refine va_get (D := Z.1) (ci := 6) (v := .ref (Ac 0)) (C := RX6) (T := TX6) (N := 9) hx hb hts zinX6 hown hK.1 (zP_reg hP 0 rfl) 0 rfl rfl 2 (by decide) (hts _ k_f_X6_22) (fun _ h9 => h9) rfl (z_d hX6_names_0 29 rfl) ?_
          refine va_getN (D := Z.1) (ci := 4) (v := .ref (Ac 17)) (C := RX4) (T := TX4) (N := 12) hx hb hts zinX4 hown hK.1 (zP_reg (L := l_Scenes Z.2.1 Ac C.1 C.2.1 C.2.2.1 C.2.2.2.1 C.2.2.2.2.1 C.2.2.2.2.2.1 C.2.2.2.2.2.2.1 C.2.2.2.2.2.2.2.1 C.2.2.2.2.2.2.2.2.1 C.2.2.2.2.2.2.2.2.2.1 C.2.2.2.2.2.2.2.2.2.2.1 C.2.2.2.2.2.2.2.2.2.2.2) (zP_reg hP 3 rfl) 0 rfl) 0 rfl rfl 11 (by decide) (kn_X6_209 hK.2) (fun _ h9 => h9) rfl (z_d hX6_names_0 30 rfl) ?_
          refine lv_iload hx hb (z_d hX6_names_0 31 rfl) (lv_at hl 4 rfl) ?_
          refine z_let hF (fun q5 hq5 hF => ?_)
          refine z_ro_i (z_rV (As := [.int v.2]) (rest := []) hx hb hml hown hts vt_X3_at (c_rAt l Z 60 (Ac 17) (Ac 18) (by decide) C.2.2.2.2.2.2.2.2.2.2.2 v.2 _ hq5) rfl rfl ⟨Nat.le_of_ble_eq_true rfl, Nat.le_of_ble_eq_true rfl⟩ k_m_X6_150 zPro_blind (z_recv (q := (RX3, TX3, 1)) (ci := 3) (q0 := 0) hK (zP_reg (L := l_Scenes Z.2.1 Ac C.1 C.2.1 C.2.2.1 C.2.2.2.1 C.2.2.2.2.1 C.2.2.2.2.2.1 C.2.2.2.2.2.2.1 C.2.2.2.2.2.2.2.1 C.2.2.2.2.2.2.2.2.1 C.2.2.2.2.2.2.2.2.2.1 C.2.2.2.2.2.2.2.2.2.2.1 C.2.2.2.2.2.2.2.2.2.2.2) (zP_reg hP 3 rfl) 9 rfl) rfl rfl) (z_prec hK (zP_reg (L := l_Scenes Z.2.1 Ac C.1 C.2.1 C.2.2.1 C.2.2.2.1 C.2.2.2.2.1 C.2.2.2.2.2.1 C.2.2.2.2.2.2.1 C.2.2.2.2.2.2.2.1 C.2.2.2.2.2.2.2.2.1 C.2.2.2.2.2.2.2.2.2.1 C.2.2.2.2.2.2.2.2.2.2.1 C.2.2.2.2.2.2.2.2.2.2.2) (zP_reg hP 3 rfl) 9 rfl)) rfl hl.1 (Nat.le_of_ble_eq_true rfl) (z_d hX6_names_0 32 rfl) ⟨Nat.zero_le _, Nat.zero_le _⟩) hS hP (fun H locs hP hS => ?_)
          refine lv_iconst (v := 1) hx hb (z_d hX6_names_0 33 rfl) (by decide) ?_
          refine lv_icmp_ne (tgt := 76) hx hb (z_d hX6_names_0 34 rfl) (by decide) (fun hc70 => ?_) (fun hc70 => ?_)
          · have hF := z_neg hc70 hF
            refine z_let hF (fun u6 hu6 hF => ?_)
            refine lv_iinc (v := u6) (lv' := [(4, .int u6), (0, .ref mm), (1, .int p1), (2, .int p2), (3, .int v.1)]) hx hb (z_d hX6_names_0 36 rfl) hl (k := 4) rfl (z_inc1 hu6) (by decide) rfl (fun ls hl => ?_)
            refine lv_goto (tgt := 25) hx hb (z_d hX6_names_0 37 rfl) (by decide) ?_
            exact ih _ _ hF _ _ ls hP hS (lv_sub hl [1, 2, 3, 4, 0] rfl) K1
          · have hF := z_pos hc70 hF
            refine z_let hF (fun u7 hu7 hF => ?_)
            refine lv_iinc (v := u7) (lv' := [(3, .int u7), (0, .ref mm), (1, .int p1), (2, .int p2), (4, .int v.2)]) hx hb (z_d hX6_names_0 35 rfl) hl (k := 3) rfl (z_inc1 hu7) (by decide) rfl (fun ls hl => ?_)
            refine z_let hF (fun u8 hu8 hF => ?_)
            refine lv_iinc (v := u8) (lv' := [(4, .int u8), (3, .int u7), (0, .ref mm), (1, .int p1), (2, .int p2)]) hx hb (z_d hX6_names_0 36 rfl) hl (k := 4) rfl (z_inc1 hu8) (by decide) rfl (fun ls hl => ?_)
            refine lv_goto (tgt := 25) hx hb (z_d hX6_names_0 37 rfl) (by decide) ?_
            exact ih _ _ hF _ _ ls hP hS (lv_sub hl [2, 3, 4, 1, 0] rfl) K1
  refine lv_iload_n hx hb (z_d hX6_names_0 0 rfl) rfl (lv_at hl 1 rfl) ?_
  refine lv_if_lt (tgt := 10) hx hb (z_d hX6_names_0 1 rfl) (by decide) (fun hc1 => ?_) (fun hc1 => ?_)
  · have hF := z_pos hc1 hF
    exact J10  hF _ _ ls hP hS (lv_sub hl [0, 1, 2] rfl)
  · have hF := z_neg hc1 hF
    refine lv_iload_n hx hb (z_d hX6_names_0 2 rfl) rfl (lv_at hl 1 rfl) ?_
    refine lv_bipush (v := 9) hx hb (z_d hX6_names_0 3 rfl) (by decide) ?_
    refine lv_icmp_le (tgt := 20) hx hb (z_d hX6_names_0 4 rfl) (by decide) (fun hc7 => ?_) (fun hc7 => ?_)
    · have hF := z_pos hc7 hF
      refine lv_iconst (v := 0) hx hb (z_d hX6_names_0 10 rfl) (by decide) ?_
      refine lv_istore_n (lv' := [(3, .int 0), (0, .ref mm), (1, .int p1), (2, .int p2)]) hx hb (z_d hX6_names_0 11 rfl) rfl hl (by decide) rfl (fun ls hl => ?_)
      refine lv_iconst (v := 0) hx hb (z_d hX6_names_0 12 rfl) (by decide) ?_
      refine lv_istore (lv' := [(4, .int 0), (3, .int 0), (0, .ref mm), (1, .int p1), (2, .int p2)]) hx hb (z_d hX6_names_0 13 rfl) hl (by decide) rfl (fun ls hl => ?_)
      refine z_bnd hF (fun q9 hq9 hF => ?_)
      refine L25  _ _ _ hq9 _ _ ls hP hS (lv_sub hl [2, 3, 4, 1, 0] rfl) (fun H locs ls hP hS hl => ?_)
      refine lv_iload_n hx hb (z_d hX6_names_0 38 rfl) rfl (lv_at hl 3 rfl) ?_
      obtain rfl := Option.some.inj hF
      subst hQ
      exact W.iret hx hb hr (fun t ht hW => zq_ro (hS.F ht)) hS.2.2 (z_d hX6_names_0 39 rfl)
    · have hF := z_neg hc7 hF
      exact J10  hF _ _ ls hP hS (lv_sub hl [0, 1, 2] rfl)

def rm_X6_used : Room := { frames := 1, cells := 0, slots := 0, locals := 21 }
set_option maxRecDepth 100000 in
set_option maxHeartbeats 4000000 in
theorem c_X6_used (l : Launch) (Z : zZ) (mm : Nat) (As : Nat → Nat) (Bs : Nat → Nat) (Ac : Nat → Nat) (Bc : Nat → Nat) (Ag : Nat → Nat) (Bg : Nat → Nat) (hh ha : Nat) (Ah : Nat → Nat → Nat) (rt rq : Nat) (tl : Int32) (S : t_Script) (D : t_Script) (C : t_Scenes) (E : t_Scenes) (G : t_Pages) (F : t_Pages) (Hs : t_Hist) (tx : Rw) (R : UInt64) (hF : X6_used tl S D C E G F Hs tx = some R) : zMD l yX6_used (zw yX6_used cX6_used 4 (some .double)) rm_X6_used Z [.ref mm] (List.flatten [w_Main mm As Bs Ac Bc Ag Bg hh rt tl, w_Script Z.2.1 As S, w_Script Z.2.1 Bs D, w_Scenes Z.2.1 Ac C, w_Scenes Z.2.1 Bc E, w_Pages Z.2.1 Ag G, w_Pages Z.2.1 Bg F, w_Hist Z.2.1 Z.2.2.1 hh ha Ah Hs, w_Row Z.2.1 200 rt rq tx]) (List.flatten [w_Main mm As Bs Ac Bc Ag Bg hh rt tl, w_Script Z.2.1 As S, w_Script Z.2.1 Bs D, w_Scenes Z.2.1 Ac C, w_Scenes Z.2.1 Bc E, w_Pages Z.2.1 Ag G, w_Pages Z.2.1 Bg F, w_Hist Z.2.1 Z.2.2.1 hh ha Ah Hs, w_Row Z.2.1 200 rt rq tx]) R := by
  refine zMD_of (by decide) (Nat.le_of_ble_eq_true rfl) (fun p e s0 s m below meth c e0 hx hb hr hml hown hts hlocks hK A hA Q hQ ls hl hP hD hS => ?_)
  unfold X6_used at hF
  have hl : lv_has ls 4 [(0, .ref mm)] := hl
  have hown : s.vm.findClass RX6 = some m.cls := hown
  have L26 : ∀ (x1 : Int32) (n : Nat) (v : Int32 × Int32) (X : Int32) (hF : zloop (b_X6_used_26 tl S D C E G F Hs tx x1) n v = some X) (H : Heap) (locs : List Loc) (ls : Array Slot) (hP : va_P Z.1 vwCl ([w_Main mm As Bs Ac Bc Ag Bg hh rt tl, w_Script Z.2.1 As S, w_Script Z.2.1 Bs D, w_Scenes Z.2.1 Ac C, w_Scenes Z.2.1 Bc E, w_Pages Z.2.1 Ag G, w_Pages Z.2.1 Bg F, w_Hist Z.2.1 Z.2.2.1 hh ha Ah Hs, w_Row Z.2.1 200 rt rq tx]).flatten H) (hD : va_D A ([w_Main mm As Bs Ac Bc Ag Bg hh rt tl, w_Script Z.2.1 As S, w_Script Z.2.1 Bs D, w_Scenes Z.2.1 Ac C, w_Scenes Z.2.1 Bc E, w_Pages Z.2.1 Ag G, w_Pages Z.2.1 Bg F, w_Hist Z.2.1 Z.2.2.1 hh ha Ah Hs, w_Row Z.2.1 200 rt rq tx]).flatten) (hS : va_S A s.heap H locs) (hl : lv_has ls 4 [(0, .ref mm), (1, .int x1), (2, .int v.1), (3, .int v.2)]) (K1 : ∀ (H : Heap) (locs : List Loc) (ls : Array Slot) (hP : va_P Z.1 vwCl ([w_Main mm As Bs Ac Bc Ag Bg hh rt tl, w_Script Z.2.1 As S, w_Script Z.2.1 Bs D, w_Scenes Z.2.1 Ac C, w_Scenes Z.2.1 Bc E, w_Pages Z.2.1 Ag G, w_Pages Z.2.1 Bg F, w_Hist Z.2.1 Z.2.2.1 hh ha Ah Hs, w_Row Z.2.1 200 rt rq tx]).flatten H) (hD : va_D A ([w_Main mm As Bs Ac Bc Ag Bg hh rt tl, w_Script Z.2.1 As S, w_Script Z.2.1 Bs D, w_Scenes Z.2.1 Ac C, w_Scenes Z.2.1 Bc E, w_Pages Z.2.1 Ag G, w_Pages Z.2.1 Bg F, w_Hist Z.2.1 Z.2.2.1 hh ha Ah Hs, w_Row Z.2.1 200 rt rq tx]).flatten) (hS : va_S A s.heap H locs) (hl : lv_has ls 4 [(0, .ref mm), (1, .int x1), (2, .int X)]), W p l e rm_X6_used s m ([.ref mm] : List Value).toArray below meth c H locs 0 0 Q (F0 m 57 ls [])), W p l e rm_X6_used s m ([.ref mm] : List Value).toArray below meth c H locs 0 0 Q (F0 m 26 ls []) := by
    intro x1
    refine z_loopE (fun rec ih v X hF H locs ls hP hD hS hl K1 => ?_)
    unfold b_X6_used_26 at hF
    refine lv_iload_n hx hb (z_d hX6_used_0 16 rfl) rfl (lv_at hl 3 rfl) ?_
    refine lv_aload_n hx hb (z_d hX6_used_0 17 rfl) rfl (lv_at hl 0 rfl) ?_
    refine va_get (D := Z.1) (ci := 6) (v := .ref (Ag 0)) (C := RX6) (T := TX6) (N := 9) hx hb hts zinX6 hown hK.1 (zP_reg hP 0 rfl) 0 rfl rfl 4 (by decide) (hts _ k_f_X6_32) (fun _ h9 => h9) rfl (z_d hX6_used_0 18 rfl) ?_
    refine va_getN (D := Z.1) (ci := 1) (v := .int G.1) (C := RX1) (T := TX1) (N := 14) hx hb hts zinX1 hown hK.1 (zP_reg (L := l_Pages Z.2.1 Ag G.1 G.2.1 G.2.2.1 G.2.2.2.1 G.2.2.2.2.1 G.2.2.2.2.2.1 G.2.2.2.2.2.2.1 G.2.2.2.2.2.2.2.1 G.2.2.2.2.2.2.2.2.1 G.2.2.2.2.2.2.2.2.2.1 G.2.2.2.2.2.2.2.2.2.2.1 G.2.2.2.2.2.2.2.2.2.2.2.1 G.2.2.2.2.2.2.2.2.2.2.2.2.1 G.2.2.2.2.2.2.2.2.2.2.2.2.2) (zP_reg hP 5 rfl) 0 rfl) 0 rfl rfl 0 (by decide) (kn_X6_182 hK.2) (fun _ h9 => h9) rfl (z_d hX6_used_0 19 rfl) ?_
    refine lv_icmp_ge (tgt := 57) hx hb (z_d hX6_used_0 20 rfl) (by decide) (fun hc34 => ?_) (fun hc34 => ?_)
    · have hF := z_pos hc34 hF
      obtain rfl := Option.some.inj hF
      exact K1 _ _ ls hP hD hS (lv_sub hl [0, 1, 2] rfl)
    · have hF := z_neg hc34 hF
      refine lv_iload_n hx hb (z_d hX6_used_0 21 rfl) rfl (lv_at hl 2 rfl) ?_
      refine lv_aload_n hx hb (z_d hX6_used_0 22 rfl) rfl (lv_at hl 0 rfl) ?_
      refine va_get (D := Z.1) (ci := 6) (v := .ref (Ag 0)) (C := RX6) (T := TX6) (N := 9) hx hb hts zinX6 hown hK.1 (zP_reg hP 0 rfl) 0 rfl rfl 4 (by decide) (hts _ k_f_X6_32) (fun _ h9 => h9) rfl (z_d hX6_used_0 23 rfl) ?_
      refine va_getN (D := Z.1) (ci := 1) (v := .ref (Ag 13)) (C := RX1) (T := TX1) (N := 14) hx hb hts zinX1 hown hK.1 (zP_reg (L := l_Pages Z.2.1 Ag G.1 G.2.1 G.2.2.1 G.2.2.2.1 G.2.2.2.2.1 G.2.2.2.2.2.1 G.2.2.2.2.2.2.1 G.2.2.2.2.2.2.2.1 G.2.2.2.2.2.2.2.2.1 G.2.2.2.2.2.2.2.2.2.1 G.2.2.2.2.2.2.2.2.2.2.1 G.2.2.2.2.2.2.2.2.2.2.2.1 G.2.2.2.2.2.2.2.2.2.2.2.2.1 G.2.2.2.2.2.2.2.2.2.2.2.2.2) (zP_reg hP 5 rfl) 0 rfl) 0 rfl rfl 11 (by decide) (kn_X6_212 hK.2) (fun _ h9 => h9) rfl (z_d hX6_used_0 24 rfl) ?_
      refine lv_iload_n hx hb (z_d hX6_used_0 25 rfl) rfl (lv_at hl 3 rfl) ?_
      refine z_let hF (fun q2 hq2 hF => ?_)
      refine z_ro_i (z_rV (As := [.int v.2]) (rest := [.int v.1]) hx hb hml hown hts vt_X3_at (c_rAt l Z 60 (Ag 13) (Ag 14) (by decide) G.2.2.2.2.2.2.2.2.2.2.2.1 v.2 _ hq2) rfl rfl ⟨Nat.le_of_ble_eq_true rfl, Nat.le_of_ble_eq_true rfl⟩ k_m_X6_150 zPro_blind (z_recv (q := (RX3, TX3, 1)) (ci := 3) (q0 := 0) hK (zP_reg (L := l_Pages Z.2.1 Ag G.1 G.2.1 G.2.2.1 G.2.2.2.1 G.2.2.2.2.1 G.2.2.2.2.2.1 G.2.2.2.2.2.2.1 G.2.2.2.2.2.2.2.1 G.2.2.2.2.2.2.2.2.1 G.2.2.2.2.2.2.2.2.2.1 G.2.2.2.2.2.2.2.2.2.2.1 G.2.2.2.2.2.2.2.2.2.2.2.1 G.2.2.2.2.2.2.2.2.2.2.2.2.1 G.2.2.2.2.2.2.2.2.2.2.2.2.2) (zP_reg hP 5 rfl) 7 rfl) rfl rfl) (z_prec hK (zP_reg (L := l_Pages Z.2.1 Ag G.1 G.2.1 G.2.2.1 G.2.2.2.1 G.2.2.2.2.1 G.2.2.2.2.2.1 G.2.2.2.2.2.2.1 G.2.2.2.2.2.2.2.1 G.2.2.2.2.2.2.2.2.1 G.2.2.2.2.2.2.2.2.2.1 G.2.2.2.2.2.2.2.2.2.2.1 G.2.2.2.2.2.2.2.2.2.2.2.1 G.2.2.2.2.2.2.2.2.2.2.2.2.1 G.2.2.2.2.2.2.2.2.2.2.2.2.2) (zP_reg hP 5 rfl) 7 rfl)) rfl hl.1 (Nat.le_of_ble_eq_true rfl) (z_d hX6_used_0 26 rfl) ⟨Nat.zero_le _, Nat.zero_le _⟩) hS hP (fun H locs hP hS => ?_)
      refine lv_iadd hx hb (z_d hX6_used_0 27 rfl) ?_
      refine z_let hF (fun u3 hu3 hF => ?_)
      refine lv_topE hu3 ?_
      refine lv_istore_n (lv' := [(2, .int u3), (0, .ref mm), (1, .int x1), (3, .int v.2)]) hx hb (z_d hX6_used_0 28 rfl) rfl hl (by decide) rfl (fun ls hl => ?_)
      refine z_let hF (fun u4 hu4 hF => ?_)
      refine lv_iinc (v := u4) (lv' := [(3, .int u4), (2, .int u3), (0, .ref mm), (1, .int x1)]) hx hb (z_d hX6_used_0 29 rfl) hl (k := 3) rfl (z_inc1 hu4) (by decide) rfl (fun ls hl => ?_)
      refine lv_goto (tgt := 26) hx hb (z_d hX6_used_0 30 rfl) (by decide) ?_
      exact ih _ _ hF _ _ ls hP hD hS (lv_sub hl [2, 3, 1, 0] rfl) K1
  refine lv_aload_n hx hb (z_d hX6_used_0 0 rfl) rfl (lv_at hl 0 rfl) ?_
  refine va_get (D := Z.1) (ci := 6) (v := .ref (As 0)) (C := RX6) (T := TX6) (N := 9) hx hb hts zinX6 hown hK.1 (zP_reg hP 0 rfl) 0 rfl rfl 0 (by decide) (hts _ k_f_X6_12) (fun _ h9 => h9) rfl (z_d hX6_used_0 1 rfl) ?_
  refine va_getN (D := Z.1) (ci := 5) (v := .int S.2.1) (C := RX5) (T := TX5) (N := 10) hx hb hts zinX5 hown hK.1 (zP_reg (L := l_Script Z.2.1 As S.1 S.2.1 S.2.2.1 S.2.2.2.1 S.2.2.2.2.1 S.2.2.2.2.2.1 S.2.2.2.2.2.2.1 S.2.2.2.2.2.2.2.1 S.2.2.2.2.2.2.2.2.1 S.2.2.2.2.2.2.2.2.2) (zP_reg hP 1 rfl) 0 rfl) 0 rfl rfl 1 (by decide) (kn_X6_141 hK.2) (fun _ h9 => h9) rfl (z_d hX6_used_0 2 rfl) ?_
  refine lv_aload_n hx hb (z_d hX6_used_0 3 rfl) rfl (lv_at hl 0 rfl) ?_
  refine va_get (D := Z.1) (ci := 6) (v := .ref (Ag 0)) (C := RX6) (T := TX6) (N := 9) hx hb hts zinX6 hown hK.1 (zP_reg hP 0 rfl) 0 rfl rfl 4 (by decide) (hts _ k_f_X6_32) (fun _ h9 => h9) rfl (z_d hX6_used_0 4 rfl) ?_
  refine va_getN (D := Z.1) (ci := 1) (v := .int G.1) (C := RX1) (T := TX1) (N := 14) hx hb hts zinX1 hown hK.1 (zP_reg (L := l_Pages Z.2.1 Ag G.1 G.2.1 G.2.2.1 G.2.2.2.1 G.2.2.2.2.1 G.2.2.2.2.2.1 G.2.2.2.2.2.2.1 G.2.2.2.2.2.2.2.1 G.2.2.2.2.2.2.2.2.1 G.2.2.2.2.2.2.2.2.2.1 G.2.2.2.2.2.2.2.2.2.2.1 G.2.2.2.2.2.2.2.2.2.2.2.1 G.2.2.2.2.2.2.2.2.2.2.2.2.1 G.2.2.2.2.2.2.2.2.2.2.2.2.2) (zP_reg hP 5 rfl) 0 rfl) 0 rfl rfl 0 (by decide) (kn_X6_182 hK.2) (fun _ h9 => h9) rfl (z_d hX6_used_0 5 rfl) ?_
  refine lv_imul hx hb (z_d hX6_used_0 6 rfl) ?_
  refine z_let hF (fun u1 hu1 hF => ?_)
  refine lv_topE hu1 ?_
  refine lv_istore_n (lv' := [(1, .int u1), (0, .ref mm)]) hx hb (z_d hX6_used_0 7 rfl) rfl hl (by decide) rfl (fun ls hl => ?_)
  refine lv_iload_n hx hb (z_d hX6_used_0 8 rfl) rfl (lv_at hl 0 rfl) ?_
  refine lv_if_gt (tgt := 22) hx hb (z_d hX6_used_0 9 rfl) (by decide) (fun hc17 => ?_) (fun hc17 => ?_)
  · have hF := z_pos hc17 hF
    refine lv_iconst (v := 0) hx hb (z_d hX6_used_0 12 rfl) (by decide) ?_
    refine lv_istore_n (lv' := [(2, .int 0), (1, .int u1), (0, .ref mm)]) hx hb (z_d hX6_used_0 13 rfl) rfl hl (by decide) rfl (fun ls hl => ?_)
    refine lv_iconst (v := 0) hx hb (z_d hX6_used_0 14 rfl) (by decide) ?_
    refine lv_istore_n (lv' := [(3, .int 0), (2, .int 0), (1, .int u1), (0, .ref mm)]) hx hb (z_d hX6_used_0 15 rfl) rfl hl (by decide) rfl (fun ls hl => ?_)
    refine z_bnd hF (fun q5 hq5 hF => ?_)
    refine L26 u1 _ _ _ hq5 _ _ ls hP hD hS (lv_sub hl [3, 2, 1, 0] rfl) (fun H locs ls hP hD hS hl => ?_)
    refine lv_iload_n hx hb (z_d hX6_used_0 31 rfl) rfl (lv_at hl 2 rfl) ?_
    refine lv_i2d hx hb (z_d hX6_used_0 32 rfl) ?_
    refine lv_iload_n hx hb (z_d hX6_used_0 33 rfl) rfl (lv_at hl 1 rfl) ?_
    refine lv_i2d hx hb (z_d hX6_used_0 34 rfl) ?_
    have hP9 := hP
    subst e0
    refine lv_ddiv_any (Drawn.sameBut.refl s0.drawn lw_cs) lw_bits hx hb (z_d hX6_used_0 35 rfl) (fun rr d1 hal hd1 => ?_)
    obtain rfl := Option.some.inj hF
    subst hQ
    subst hA
    refine W.endD hd1 ?_
    exact W.dret hx hb hr (fun t ht hW => ⟨⟨rr, (), rfl, hal, by dsimp only; rw [ht]; exact hP9⟩, hS.F ht⟩) hS.2.2 (z_d hX6_used_0 36 rfl)
  · have hF := z_neg hc17 hF
    refine lv_dconst0 hx hb (z_d hX6_used_0 10 rfl) ?_
    obtain rfl := Option.some.inj hF
    have hP9 := hP
    subst e0
    subst hQ
    subst hA
    refine W.endD (Drawn.sameBut.refl s0.drawn lw_cs) ?_
    exact W.dret hx hb hr (fun t ht hW => ⟨⟨FP.dconst0, (), rfl, alike_rfl _, by dsimp only; rw [ht]; exact hP9⟩, hS.F ht⟩) hS.2.2 (z_d hX6_used_0 11 rfl)
def rm_X7_used : Room := { frames := 6, cells := 0, slots := 0, locals := 141 }
set_option maxRecDepth 100000 in
set_option maxHeartbeats 4000000 in
theorem c_X7_used (l : Launch) (Z : zZ) (Am : Nat → Nat) (M : t_Model) (R : UInt64 × t_Model) (hF : X7_used M = some R) : zMD l yX7_used (zw yX7_used cX7_used 3 (some .double)) rm_X7_used Z [.ref (Am 0)] (w_Model Z.2.1 Am M) (w_Model Z.2.1 Am R.2) R.1 := by
  refine zMD_of (by decide) (Nat.le_of_ble_eq_true rfl) (fun p e s0 s m below meth c e0 hx hb hr hml hown hts hlocks hK A hA Q hQ ls hl hP hD hS => ?_)
  unfold X7_used at hF
  have hl : lv_has ls 3 [(0, .ref (Am 0))] := hl
  have hown : s.vm.findClass RX7 = some m.cls := hown
  have hP : va_P Z.1 vwCl (l_Model Z.2.1 Am M.1 M.2.1 M.2.2.1 M.2.2.2.1 M.2.2.2.2.1 M.2.2.2.2.2.1 M.2.2.2.2.2.2.1 M.2.2.2.2.2.2.2.1 M.2.2.2.2.2.2.2.2.1 M.2.2.2.2.2.2.2.2.2.1 M.2.2.2.2.2.2.2.2.2.2.1 M.2.2.2.2.2.2.2.2.2.2.2.1 M.2.2.2.2.2.2.2.2.2.2.2.2.1 M.2.2.2.2.2.2.2.2.2.2.2.2.2.1 M.2.2.2.2.2.2.2.2.2.2.2.2.2.2.1 M.2.2.2.2.2.2.2.2.2.2.2.2.2.2.2.1 M.2.2.2.2.2.2.2.2.2.2.2.2.2.2.2.2.1 M.2.2.2.2.2.2.2.2.2.2.2.2.2.2.2.2.2.1 M.2.2.2.2.2.2.2.2.2.2.2.2.2.2.2.2.2.2).flatten s.heap := hP
  have hD : va_D A (l_Model Z.2.1 Am M.1 M.2.1 M.2.2.1 M.2.2.2.1 M.2.2.2.2.1 M.2.2.2.2.2.1 M.2.2.2.2.2.2.1 M.2.2.2.2.2.2.2.1 M.2.2.2.2.2.2.2.2.1 M.2.2.2.2.2.2.2.2.2.1 M.2.2.2.2.2.2.2.2.2.2.1 M.2.2.2.2.2.2.2.2.2.2.2.1 M.2.2.2.2.2.2.2.2.2.2.2.2.1 M.2.2.2.2.2.2.2.2.2.2.2.2.2.1 M.2.2.2.2.2.2.2.2.2.2.2.2.2.2.1 M.2.2.2.2.2.2.2.2.2.2.2.2.2.2.2.1 M.2.2.2.2.2.2.2.2.2.2.2.2.2.2.2.2.1 M.2.2.2.2.2.2.2.2.2.2.2.2.2.2.2.2.2.1 M.2.2.2.2.2.2.2.2.2.2.2.2.2.2.2.2.2.2).flatten := hD
  have L19 : ∀ (M : t_Model) (n : Nat) (v : Int32 × Int32) (X : Int32) (hF : zloop (b_X7_used_19  M) n v = some X) (H : Heap) (locs : List Loc) (ls : Array Slot) (hP : va_P Z.1 vwCl (l_Model Z.2.1 Am M.1 M.2.1 M.2.2.1 M.2.2.2.1 M.2.2.2.2.1 M.2.2.2.2.2.1 M.2.2.2.2.2.2.1 M.2.2.2.2.2.2.2.1 M.2.2.2.2.2.2.2.2.1 M.2.2.2.2.2.2.2.2.2.1 M.2.2.2.2.2.2.2.2.2.2.1 M.2.2.2.2.2.2.2.2.2.2.2.1 M.2.2.2.2.2.2.2.2.2.2.2.2.1 M.2.2.2.2.2.2.2.2.2.2.2.2.2.1 M.2.2.2.2.2.2.2.2.2.2.2.2.2.2.1 M.2.2.2.2.2.2.2.2.2.2.2.2.2.2.2.1 M.2.2.2.2.2.2.2.2.2.2.2.2.2.2.2.2.1 M.2.2.2.2.2.2.2.2.2.2.2.2.2.2.2.2.2.1 M.2.2.2.2.2.2.2.2.2.2.2.2.2.2.2.2.2.2).flatten H) (hD : va_D A (l_Model Z.2.1 Am M.1 M.2.1 M.2.2.1 M.2.2.2.1 M.2.2.2.2.1 M.2.2.2.2.2.1 M.2.2.2.2.2.2.1 M.2.2.2.2.2.2.2.1 M.2.2.2.2.2.2.2.2.1 M.2.2.2.2.2.2.2.2.2.1 M.2.2.2.2.2.2.2.2.2.2.1 M.2.2.2.2.2.2.2.2.2.2.2.1 M.2.2.2.2.2.2.2.2.2.2.2.2.1 M.2.2.2.2.2.2.2.2.2.2.2.2.2.1 M.2.2.2.2.2.2.2.2.2.2.2.2.2.2.1 M.2.2.2.2.2.2.2.2.2.2.2.2.2.2.2.1 M.2.2.2.2.2.2.2.2.2.2.2.2.2.2.2.2.1 M.2.2.2.2.2.2.2.2.2.2.2.2.2.2.2.2.2.1 M.2.2.2.2.2.2.2.2.2.2.2.2.2.2.2.2.2.2).flatten) (hS : va_S A s.heap H locs) (hl : lv_has ls 3 [(0, .ref (Am 0)), (1, .int v.1), (2, .int v.2)]) (K1 : ∀ (H : Heap) (locs : List Loc) (ls : Array Slot) (hP : va_P Z.1 vwCl (l_Model Z.2.1 Am M.1 M.2.1 M.2.2.1 M.2.2.2.1 M.2.2.2.2.1 M.2.2.2.2.2.1 M.2.2.2.2.2.2.1 M.2.2.2.2.2.2.2.1 M.2.2.2.2.2.2.2.2.1 M.2.2.2.2.2.2.2.2.2.1 M.2.2.2.2.2.2.2.2.2.2.1 M.2.2.2.2.2.2.2.2.2.2.2.1 M.2.2.2.2.2.2.2.2.2.2.2.2.1 M.2.2.2.2.2.2.2.2.2.2.2.2.2.1 M.2.2.2.2.2.2.2.2.2.2.2.2.2.2.1 M.2.2.2.2.2.2.2.2.2.2.2.2.2.2.2.1 M.2.2.2.2.2.2.2.2.2.2.2.2.2.2.2.2.1 M.2.2.2.2.2.2.2.2.2.2.2.2.2.2.2.2.2.1 M.2.2.2.2.2.2.2.2.2.2.2.2.2.2.2.2.2.2).flatten H) (hD : va_D A (l_Model Z.2.1 Am M.1 M.2.1 M.2.2.1 M.2.2.2.1 M.2.2.2.2.1 M.2.2.2.2.2.1 M.2.2.2.2.2.2.1 M.2.2.2.2.2.2.2.1 M.2.2.2.2.2.2.2.2.1 M.2.2.2.2.2.2.2.2.2.1 M.2.2.2.2.2.2.2.2.2.2.1 M.2.2.2.2.2.2.2.2.2.2.2.1 M.2.2.2.2.2.2.2.2.2.2.2.2.1 M.2.2.2.2.2.2.2.2.2.2.2.2.2.1 M.2.2.2.2.2.2.2.2.2.2.2.2.2.2.1 M.2.2.2.2.2.2.2.2.2.2.2.2.2.2.2.1 M.2.2.2.2.2.2.2.2.2.2.2.2.2.2.2.2.1 M.2.2.2.2.2.2.2.2.2.2.2.2.2.2.2.2.2.1 M.2.2.2.2.2.2.2.2.2.2.2.2.2.2.2.2.2.2).flatten) (hS : va_S A s.heap H locs) (hl : lv_has ls 3 [(0, .ref (Am 0)), (1, .int X)]), W p l e rm_X7_used s m ([.ref (Am 0)] : List Value).toArray below meth c H locs 0 0 Q (F0 m 42 ls [])), W p l e rm_X7_used s m ([.ref (Am 0)] : List Value).toArray below meth c H locs 0 0 Q (F0 m 19 ls []) := by
    intro M
    refine z_loopE (fun rec ih v X hF H locs ls hP hD hS hl K1 => ?_)
    unfold b_X7_used_19 at hF
    refine lv_iload_n hx hb (z_d hX7_used_0 13 rfl) rfl (lv_at hl 2 rfl) ?_
    refine lv_aload_n hx hb (z_d hX7_used_0 14 rfl) rfl (lv_at hl 0 rfl) ?_
    refine va_get (D := Z.1) (ci := 7) (v := .int M.2.2.2.2.2.2.2.1) (C := RX7) (T := TX7) (N := 19) hx hb hts zinX7 hown hK.1 (zP_reg hP 0 rfl) 0 rfl rfl 7 (by decide) (hts _ k_f_X7_101) (fun _ h9 => h9) rfl (z_d hX7_used_0 15 rfl) ?_
    refine lv_icmp_ge (tgt := 42) hx hb (z_d hX7_used_0 16 rfl) (by decide) (fun hc24 => ?_) (fun hc24 => ?_)
    · have hF := z_pos hc24 hF
      obtain rfl := Option.some.inj hF
      exact K1 _ _ ls hP hD hS (lv_sub hl [0, 1] rfl)
    · have hF := z_neg hc24 hF
      refine lv_iload_n hx hb (z_d hX7_used_0 17 rfl) rfl (lv_at hl 1 rfl) ?_
      refine lv_aload_n hx hb (z_d hX7_used_0 18 rfl) rfl (lv_at hl 0 rfl) ?_
      refine va_get (D := Z.1) (ci := 7) (v := .ref (Am 8)) (C := RX7) (T := TX7) (N := 19) hx hb hts zinX7 hown hK.1 (zP_reg hP 0 rfl) 0 rfl rfl 12 (by decide) (hts _ k_f_X7_31) (fun _ h9 => h9) rfl (z_d hX7_used_0 19 rfl) ?_
      refine lv_iload_n hx hb (z_d hX7_used_0 20 rfl) rfl (lv_at hl 2 rfl) ?_
      refine z_ix hF (fun hin hF => ?_)
      refine va_iald (D := Z.1) (f := M.2.2.2.2.2.2.2.2.2.2.2.2.1) hx hb hK.1 (zP_reg hP 8 rfl) 0 0 rfl rfl hin (z_d hX7_used_0 21 rfl) ?_
      refine z_let hF (fun u3 hu3 hF => ?_)
      refine lv_topE hu3 ?_
      refine lv_iadd hx hb (z_d hX7_used_0 22 rfl) ?_
      refine z_let hF (fun u4 hu4 hF => ?_)
      refine lv_topE hu4 ?_
      refine lv_istore_n (lv' := [(1, .int u4), (0, .ref (Am 0)), (2, .int v.2)]) hx hb (z_d hX7_used_0 23 rfl) rfl hl (by decide) rfl (fun ls hl => ?_)
      refine z_let hF (fun u5 hu5 hF => ?_)
      refine lv_iinc (v := u5) (lv' := [(2, .int u5), (1, .int u4), (0, .ref (Am 0))]) hx hb (z_d hX7_used_0 24 rfl) hl (k := 2) rfl (z_inc1 hu5) (by decide) rfl (fun ls hl => ?_)
      refine lv_goto (tgt := 19) hx hb (z_d hX7_used_0 25 rfl) (by decide) ?_
      exact ih _ _ hF _ _ ls hP hD hS (lv_sub hl [2, 1, 0] rfl) K1
  refine lv_aload_n hx hb (z_d hX7_used_0 0 rfl) rfl (lv_at hl 0 rfl) ?_
  refine lv_iconst (v := 0) hx hb (z_d hX7_used_0 1 rfl) (by decide) ?_
  refine z_put (Z := Z) (ci := 7) (v := .int 0) (ty := .int) (L := l_Model Z.2.1 Am M.1 M.2.1 M.2.2.1 M.2.2.2.1 M.2.2.2.2.1 M.2.2.2.2.2.1 M.2.2.2.2.2.2.1 M.2.2.2.2.2.2.2.1 M.2.2.2.2.2.2.2.2.1 M.2.2.2.2.2.2.2.2.2.1 M.2.2.2.2.2.2.2.2.2.2.1 M.2.2.2.2.2.2.2.2.2.2.2.1 M.2.2.2.2.2.2.2.2.2.2.2.2.1 M.2.2.2.2.2.2.2.2.2.2.2.2.2.1 M.2.2.2.2.2.2.2.2.2.2.2.2.2.2.1 M.2.2.2.2.2.2.2.2.2.2.2.2.2.2.2.1 M.2.2.2.2.2.2.2.2.2.2.2.2.2.2.2.2.1 M.2.2.2.2.2.2.2.2.2.2.2.2.2.2.2.2.2.1 M.2.2.2.2.2.2.2.2.2.2.2.2.2.2.2.2.2.2) (L' := l_Model Z.2.1 Am M.1 M.2.1 M.2.2.1 M.2.2.2.1 M.2.2.2.2.1 M.2.2.2.2.2.1 0 M.2.2.2.2.2.2.2.1 M.2.2.2.2.2.2.2.2.1 M.2.2.2.2.2.2.2.2.2.1 M.2.2.2.2.2.2.2.2.2.2.1 M.2.2.2.2.2.2.2.2.2.2.2.1 M.2.2.2.2.2.2.2.2.2.2.2.2.1 M.2.2.2.2.2.2.2.2.2.2.2.2.2.1 M.2.2.2.2.2.2.2.2.2.2.2.2.2.2.1 M.2.2.2.2.2.2.2.2.2.2.2.2.2.2.2.1 M.2.2.2.2.2.2.2.2.2.2.2.2.2.2.2.2.1 M.2.2.2.2.2.2.2.2.2.2.2.2.2.2.2.2.2.1 M.2.2.2.2.2.2.2.2.2.2.2.2.2.2.2.2.2.2) (C := RX7) (T := TX7) (N := 19) hx hb hts zinX7 tyX7 tyX7_ok nmX7 hown hK hP hD hS 0 rfl rfl 6 (by decide) (hts _ k_f_X7_43) (fun _ h9 => h9) rfl (tyX7_ok 6 (by decide)) rfl rfl (Nat.le_of_ble_eq_true rfl) rfl (z_d hX7_used_0 2 rfl) (fun H locs hP hD hS => ?_)
  refine lv_aload_n hx hb (z_d hX7_used_0 3 rfl) rfl (lv_at hl 0 rfl) ?_
  refine lv_aload_n hx hb (z_d hX7_used_0 4 rfl) rfl (lv_at hl 0 rfl) ?_
  refine va_get (D := Z.1) (ci := 7) (v := .ref (Am 1)) (C := RX7) (T := TX7) (N := 19) hx hb hts zinX7 hown hK.1 (zP_reg hP 0 rfl) 0 rfl rfl 0 (by decide) (hts _ k_f_X7_7) (fun _ h9 => h9) rfl (z_d hX7_used_0 5 rfl) ?_
  refine lv_iconst (v := 0) hx hb (z_d hX7_used_0 6 rfl) (by decide) ?_
  refine z_ix hF (fun hin hF => ?_)
  refine va_iald (D := Z.1) (f := M.1) hx hb hK.1 (zP_reg hP 1 rfl) 0 0 rfl rfl hin (z_d hX7_used_0 7 rfl) ?_
  refine z_let hF (fun u1 hu1 hF => ?_)
  refine lv_topE hu1 ?_
  refine z_bnd hF (fun q2 hq2 hF => ?_)
  refine z_mu0 (z_rV (As := [.int u1]) (rest := []) hx hb hml hown hts vt_X7_setsAll (c_X7_setsAll l Z Am (M.1, M.2.1, M.2.2.1, M.2.2.2.1, M.2.2.2.2.1, M.2.2.2.2.2.1, 0, M.2.2.2.2.2.2.2.1, M.2.2.2.2.2.2.2.2.1, M.2.2.2.2.2.2.2.2.2.1, M.2.2.2.2.2.2.2.2.2.2.1, M.2.2.2.2.2.2.2.2.2.2.2.1, M.2.2.2.2.2.2.2.2.2.2.2.2.1, M.2.2.2.2.2.2.2.2.2.2.2.2.2.1, M.2.2.2.2.2.2.2.2.2.2.2.2.2.2.1, M.2.2.2.2.2.2.2.2.2.2.2.2.2.2.2.1, M.2.2.2.2.2.2.2.2.2.2.2.2.2.2.2.2.1, M.2.2.2.2.2.2.2.2.2.2.2.2.2.2.2.2.2.1, M.2.2.2.2.2.2.2.2.2.2.2.2.2.2.2.2.2.2) u1 _ hq2) rfl rfl ⟨Nat.le_of_ble_eq_true rfl, Nat.le_of_ble_eq_true rfl⟩ k_m_X7_117 zPmu_blind (z_recv (q := (RX7, TX7, 19)) (ci := 7) (q0 := 0) hK (zP_reg hP 0 rfl) rfl rfl) (z_prem hK hP hD) rfl hl.1 (Nat.le_of_ble_eq_true rfl) (z_d hX7_used_0 8 rfl) ⟨Nat.zero_le _, Nat.zero_le _⟩) hS hD (adr_Model _ _ _ _) (fun H locs hP hD hS => ?_)
  have hP : va_P Z.1 vwCl (l_Model Z.2.1 Am q2.1 q2.2.1 q2.2.2.1 q2.2.2.2.1 q2.2.2.2.2.1 q2.2.2.2.2.2.1 q2.2.2.2.2.2.2.1 q2.2.2.2.2.2.2.2.1 q2.2.2.2.2.2.2.2.2.1 q2.2.2.2.2.2.2.2.2.2.1 q2.2.2.2.2.2.2.2.2.2.2.1 q2.2.2.2.2.2.2.2.2.2.2.2.1 q2.2.2.2.2.2.2.2.2.2.2.2.2.1 q2.2.2.2.2.2.2.2.2.2.2.2.2.2.1 q2.2.2.2.2.2.2.2.2.2.2.2.2.2.2.1 q2.2.2.2.2.2.2.2.2.2.2.2.2.2.2.2.1 q2.2.2.2.2.2.2.2.2.2.2.2.2.2.2.2.2.1 q2.2.2.2.2.2.2.2.2.2.2.2.2.2.2.2.2.2.1 q2.2.2.2.2.2.2.2.2.2.2.2.2.2.2.2.2.2.2).flatten H := hP
  have hD : va_D A (l_Model Z.2.1 Am q2.1 q2.2.1 q2.2.2.1 q2.2.2.2.1 q2.2.2.2.2.1 q2.2.2.2.2.2.1 q2.2.2.2.2.2.2.1 q2.2.2.2.2.2.2.2.1 q2.2.2.2.2.2.2.2.2.1 q2.2.2.2.2.2.2.2.2.2.1 q2.2.2.2.2.2.2.2.2.2.2.1 q2.2.2.2.2.2.2.2.2.2.2.2.1 q2.2.2.2.2.2.2.2.2.2.2.2.2.1 q2.2.2.2.2.2.2.2.2.2.2.2.2.2.1 q2.2.2.2.2.2.2.2.2.2.2.2.2.2.2.1 q2.2.2.2.2.2.2.2.2.2.2.2.2.2.2.2.1 q2.2.2.2.2.2.2.2.2.2.2.2.2.2.2.2.2.1 q2.2.2.2.2.2.2.2.2.2.2.2.2.2.2.2.2.2.1 q2.2.2.2.2.2.2.2.2.2.2.2.2.2.2.2.2.2.2).flatten := hD
  refine W.eq (g2 := F0 m 15 ls []) rfl ?_
  refine lv_iconst (v := 0) hx hb (z_d hX7_used_0 9 rfl) (by decide) ?_
  refine lv_istore_n (lv' := [(1, .int 0), (0, .ref (Am 0))]) hx hb (z_d hX7_used_0 10 rfl) rfl hl (by decide) rfl (fun ls hl => ?_)
  refine lv_iconst (v := 0) hx hb (z_d hX7_used_0 11 rfl) (by decide) ?_
  refine lv_istore_n (lv' := [(2, .int 0), (1, .int 0), (0, .ref (Am 0))]) hx hb (z_d hX7_used_0 12 rfl) rfl hl (by decide) rfl (fun ls hl => ?_)
  refine z_bnd hF (fun q6 hq6 hF => ?_)
  refine L19 q2 _ _ _ hq6 _ _ ls hP hD hS (lv_sub hl [2, 1, 0] rfl) (fun H locs ls hP hD hS hl => ?_)
  refine lv_aload_n hx hb (z_d hX7_used_0 26 rfl) rfl (lv_at hl 0 rfl) ?_
  refine va_get (D := Z.1) (ci := 7) (v := .int q2.2.2.2.2.2.2.2.1) (C := RX7) (T := TX7) (N := 19) hx hb hts zinX7 hown hK.1 (zP_reg hP 0 rfl) 0 rfl rfl 7 (by decide) (hts _ k_f_X7_101) (fun _ h9 => h9) rfl (z_d hX7_used_0 27 rfl) ?_
  refine lv_if_ne (tgt := 53) hx hb (z_d hX7_used_0 28 rfl) (by decide) (fun hc46 => ?_) (fun hc46 => ?_)
  · have hF := z_neg hc46 hF
    refine lv_iload_n hx hb (z_d hX7_used_0 31 rfl) rfl (lv_at hl 1 rfl) ?_
    refine lv_i2d hx hb (z_d hX7_used_0 32 rfl) ?_
    refine lv_aload_n hx hb (z_d hX7_used_0 33 rfl) rfl (lv_at hl 0 rfl) ?_
    refine va_get (D := Z.1) (ci := 7) (v := .ref (Am 1)) (C := RX7) (T := TX7) (N := 19) hx hb hts zinX7 hown hK.1 (zP_reg hP 0 rfl) 0 rfl rfl 0 (by decide) (hts _ k_f_X7_7) (fun _ h9 => h9) rfl (z_d hX7_used_0 34 rfl) ?_
    refine lv_iconst (v := 0) hx hb (z_d hX7_used_0 35 rfl) (by decide) ?_
    refine z_ix hF (fun hin hF => ?_)
    refine va_iald (D := Z.1) (f := q2.1) hx hb hK.1 (zP_reg hP 1 rfl) 0 0 rfl rfl hin (z_d hX7_used_0 36 rfl) ?_
    refine z_let hF (fun u7 hu7 hF => ?_)
    refine lv_topE hu7 ?_
    refine lv_aload_n hx hb (z_d hX7_used_0 37 rfl) rfl (lv_at hl 0 rfl) ?_
    refine va_get (D := Z.1) (ci := 7) (v := .int q2.2.2.2.2.2.2.2.1) (C := RX7) (T := TX7) (N := 19) hx hb hts zinX7 hown hK.1 (zP_reg hP 0 rfl) 0 rfl rfl 7 (by decide) (hts _ k_f_X7_101) (fun _ h9 => h9) rfl (z_d hX7_used_0 38 rfl) ?_
    refine lv_imul hx hb (z_d hX7_used_0 39 rfl) ?_
    refine z_let hF (fun u8 hu8 hF => ?_)
    refine lv_topE hu8 ?_
    refine lv_i2d hx hb (z_d hX7_used_0 40 rfl) ?_
    have hP9 := hP
    subst e0
    refine lv_ddiv_any (Drawn.sameBut.refl s0.drawn lw_cs) lw_bits hx hb (z_d hX7_used_0 41 rfl) (fun rr d1 hal hd1 => ?_)
    obtain rfl := Option.some.inj hF
    subst hQ
    subst hA
    refine W.endD hd1 ?_
    exact W.dret hx hb hr (fun t ht hW => ⟨⟨rr, (), rfl, hal, by dsimp only; rw [ht]; exact hP9⟩, hS.F ht⟩) hS.2.2 (z_d hX7_used_0 42 rfl)
  · have hF := z_pos hc46 hF
    refine lv_dconst0 hx hb (z_d hX7_used_0 29 rfl) ?_
    refine lv_goto (tgt := 68) hx hb (z_d hX7_used_0 30 rfl) (by decide) ?_
    obtain rfl := Option.some.inj hF
    have hP9 := hP
    subst e0
    subst hQ
    subst hA
    refine W.endD (Drawn.sameBut.refl s0.drawn lw_cs) ?_
    exact W.dret hx hb hr (fun t ht hW => ⟨⟨FP.dconst0, (), rfl, alike_rfl _, by dsimp only; rw [ht]; exact hP9⟩, hS.F ht⟩) hS.2.2 (z_d hX7_used_0 42 rfl)

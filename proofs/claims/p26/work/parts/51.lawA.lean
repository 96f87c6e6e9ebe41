theorem vs_L_heads : zSt yL_heads cL_heads 2 (some .boolean) 2 := ⟨zG_at 282 (by decide +kernel) (by decide +kernel), zG_at 25 (by decide +kernel) (by decide +kernel), zG_at 283 (by decide +kernel) (by decide +kernel), by decide +kernel⟩
theorem vs_L_lines : zSt yL_lines cL_lines 5 (some .int) 3 := ⟨zG_at 633 (by decide +kernel) (by decide +kernel), zG_at 25 (by decide +kernel) (by decide +kernel), zG_at 634 (by decide +kernel) (by decide +kernel), by decide +kernel⟩
theorem k_i_L_8 : Cond.constant RL 8 (2147483647) ∈ zG := zG_at 277 (by decide +kernel) (by decide +kernel)
theorem k_m_L_9 : Cond.methodLink RL 9 yL_heads ∈ zG := zG_at 281 (by decide +kernel) (by decide +kernel)
theorem k_m_L_23 : Cond.methodLink RL 23 yL_lines ∈ zG := zG_at 632 (by decide +kernel) (by decide +kernel)
def rm_L_low : Room := { frames := 0, cells := 0, slots := 0, locals := 0 }
set_option maxRecDepth 100000 in
set_option maxHeartbeats 4000000 in
theorem c_L_low (l : Launch) (Z : zZ) (p0 : Int32) (p1 : Int32) (R : Int32) (hF : L_low p0 p1 = some R) : zRO l yL_low (zw yL_low cL_low 2 (some .int)) rm_L_low Z [.int p0, .int p1] ([] : va_W) (some (.int R)) := by
  refine zRO_of (by decide) (Nat.le_of_ble_eq_true rfl) (fun p e s m below meth c hx hb hr hml hown hts hlocks hK Q hQ ls hl hP hS => ?_)
  unfold L_low at hF
  have hl : lv_has ls 2 [(0, .int p0), (1, .int p1)] := hl
  have hown : s.vm.findClass RL = some m.cls := hown
  refine lv_iload_n hx hb (z_d hL_low_0 0 rfl) rfl (lv_at hl 0 rfl) ?_
  refine lv_ldc (v := 2147483647) hx hb hown (hts _ k_i_L_8) (z_d hL_low_0 1 rfl) ?_
  refine lv_iand hx hb (z_d hL_low_0 2 rfl) ?_
  refine z_let hF (fun u1 hu1 hF => ?_)
  refine lv_topE hu1 ?_
  refine lv_iload_n hx hb (z_d hL_low_0 3 rfl) rfl (lv_at hl 1 rfl) ?_
  refine z_dv hF (fun hne hF => ?_)
  refine lv_irem hx hb (z_d hL_low_0 4 rfl) hne ?_
  refine z_let hF (fun u2 hu2 hF => ?_)
  refine lv_topE hu2 ?_
  obtain rfl := Option.some.inj hF
  subst hQ
  exact W.iret hx hb hr (fun t ht hW => zq_ro (hS.F ht)) hS.2.2 (z_d hL_low_0 5 rfl) hlocks
def rm_L_heads : Room := { frames := 0, cells := 0, slots := 0, locals := 0 }
set_option maxRecDepth 100000 in
set_option maxHeartbeats 4000000 in
theorem c_L_heads (l : Launch) (Z : zZ) (ak : Nat) (k : Rw) (p1 : Int32) (R : Int32) (hF : L_heads k p1 = some R) : zRO l yL_heads (zw yL_heads cL_heads 2 (some .boolean)) rm_L_heads Z [.ref ak, .int p1] (List.flatten [w_Arr Z.2.1 41 ak k]) (some (.int R)) := by
  refine zRO_of (by decide) (Nat.le_of_ble_eq_true rfl) (fun p e s m below meth c hx hb hr hml hown hts hlocks hK Q hQ ls hl hP hS => ?_)
  unfold L_heads at hF
  have hl : lv_has ls 2 [(0, .ref ak), (1, .int p1)] := hl
  have hown : s.vm.findClass RL = some m.cls := hown
  refine lv_aload_n hx hb (z_d hL_heads_0 0 rfl) rfl (lv_at hl 0 rfl) ?_
  refine lv_iload_n hx hb (z_d hL_heads_0 1 rfl) rfl (lv_at hl 1 rfl) ?_
  refine z_ix hF (fun hin hF => ?_)
  refine va_iald (D := Z.1) (f := k) hx hb hK.1 (zP_reg hP 0 rfl) 0 0 rfl rfl hin (z_d hL_heads_0 2 rfl) ?_
  refine z_let hF (fun u1 hu1 hF => ?_)
  refine lv_topE hu1 ?_
  refine lv_iconst (v := 5) hx hb (z_d hL_heads_0 3 rfl) (by decide) ?_
  refine lv_irem hx hb (z_d hL_heads_0 4 rfl) (by decide) ?_
  refine z_let hF (fun u2 hu2 hF => ?_)
  refine lv_topE hu2 ?_
  refine lv_if_ne (tgt := 12) hx hb (z_d hL_heads_0 5 rfl) (by decide) (fun hc5 => ?_) (fun hc5 => ?_)
  · have hF := z_neg hc5 hF
    refine lv_iconst (v := 0) hx hb (z_d hL_heads_0 8 rfl) (by decide) ?_
    have hz9 : narrow .boolean (.int 0) = .int 0 := rfl
    obtain rfl := Option.some.inj hF
    subst hQ
    exact W.zret hx hb hr hz9 (fun t ht hW => zq_ro (hS.F ht)) hS.2.2 (z_d hL_heads_0 9 rfl) hlocks
  · have hF := z_pos hc5 hF
    refine lv_iconst (v := 1) hx hb (z_d hL_heads_0 6 rfl) (by decide) ?_
    refine lv_goto (tgt := 13) hx hb (z_d hL_heads_0 7 rfl) (by decide) ?_
    have hz9 : narrow .boolean (.int 1) = .int 1 := rfl
    obtain rfl := Option.some.inj hF
    subst hQ
    exact W.zret hx hb hr hz9 (fun t ht hW => zq_ro (hS.F ht)) hS.2.2 (z_d hL_heads_0 9 rfl) hlocks
def rm_L_lines : Room := { frames := 0, cells := 0, slots := 0, locals := 0 }
set_option maxRecDepth 100000 in
set_option maxHeartbeats 4000000 in
theorem c_L_lines (l : Launch) (Z : zZ) (ak : Nat) (al : Nat) (k : Rw) (ln : Rw) (p2 : Int32) (R : Int32) (hF : L_lines k ln p2 = some R) : zRO l yL_lines (zw yL_lines cL_lines 5 (some .int)) rm_L_lines Z [.ref ak, .ref al, .int p2] (List.flatten [w_Arr Z.2.1 41 ak k, w_Arr Z.2.1 41 al ln]) (some (.int R)) := by
  refine zRO_of (by decide) (Nat.le_of_ble_eq_true rfl) (fun p e s m below meth c hx hb hr hml hown hts hlocks hK Q hQ ls hl hP hS => ?_)
  unfold L_lines at hF
  have hl : lv_has ls 5 [(0, .ref ak), (1, .ref al), (2, .int p2)] := hl
  have hown : s.vm.findClass RL = some m.cls := hown
  have L46 : ∀  (x3 : Int32) (n : Nat) (v : Int32) (X : Int32) (hF : zloop (b_L_lines_46 k ln p2 x3) n v = some X) (H : Heap) (locs : List Loc) (ls : Array Slot) (hP : va_P Z.1 vwCl (List.flatten [w_Arr Z.2.1 41 ak k, w_Arr Z.2.1 41 al ln]) H) (hS : va_S (fun _ => False) s.heap H locs) (hl : lv_has ls 5 [(0, .ref ak), (1, .ref al), (2, .int p2), (3, .int x3), (4, .int v)]) (K1 : ∀ (H : Heap) (locs : List Loc) (ls : Array Slot) (hP : va_P Z.1 vwCl (List.flatten [w_Arr Z.2.1 41 ak k, w_Arr Z.2.1 41 al ln]) H) (hS : va_S (fun _ => False) s.heap H locs) (hl : lv_has ls 5 [(0, .ref ak), (1, .ref al), (2, .int p2), (4, .int X)]), W p l e rm_L_lines s m ([.ref ak, .ref al, .int p2] : List Value).toArray below meth c H locs 0 0 Q (F0 m 62 ls [])), W p l e rm_L_lines s m ([.ref ak, .ref al, .int p2] : List Value).toArray below meth c H locs 0 0 Q (F0 m 46 ls []) := by
    intro x3
    refine z_loopE (fun rec ih v X hF H locs ls hP hS hl K1 => ?_)
    unfold b_L_lines_46 at hF
    refine lv_iload hx hb (z_d hL_lines_0 30 rfl) (lv_at hl 4 rfl) ?_
    refine lv_iload_n hx hb (z_d hL_lines_0 31 rfl) rfl (lv_at hl 3 rfl) ?_
    refine lv_imul hx hb (z_d hL_lines_0 32 rfl) ?_
    refine z_let hF (fun u5 hu5 hF => ?_)
    refine lv_topE hu5 ?_
    refine lv_aload_n hx hb (z_d hL_lines_0 33 rfl) rfl (lv_at hl 1 rfl) ?_
    refine lv_iload_n hx hb (z_d hL_lines_0 34 rfl) rfl (lv_at hl 2 rfl) ?_
    refine z_ix hF (fun hin hF => ?_)
    refine va_iald (D := Z.1) (f := ln) hx hb hK.1 (zP_reg hP 1 rfl) 0 0 rfl rfl hin (z_d hL_lines_0 35 rfl) ?_
    refine z_let hF (fun u6 hu6 hF => ?_)
    refine lv_topE hu6 ?_
    refine lv_icmp_ge (tgt := 62) hx hb (z_d hL_lines_0 36 rfl) (by decide) (fun hc53 => ?_) (fun hc53 => ?_)
    · have hF := z_pos hc53 hF
      obtain rfl := Option.some.inj hF
      exact K1 _ _ ls hP hS (lv_sub hl [0, 1, 2, 4] rfl)
    · have hF := z_neg hc53 hF
      refine z_let hF (fun u7 hu7 hF => ?_)
      refine lv_iinc (v := u7) (lv' := [(4, .int u7), (0, .ref ak), (1, .ref al), (2, .int p2), (3, .int x3)]) hx hb (z_d hL_lines_0 37 rfl) hl (k := 4) rfl (z_inc1 hu7) (by decide) rfl (fun ls hl => ?_)
      refine lv_goto (tgt := 46) hx hb (z_d hL_lines_0 38 rfl) (by decide) ?_
      exact ih _ _ hF _ _ ls hP hS (lv_sub hl [1, 2, 3, 4, 0] rfl) K1
  have J42 : ∀  (z0 : Int32) (hF : j_L_lines_42 k ln p2 z0 = some R) (H : Heap) (locs : List Loc) (ls : Array Slot) (hP : va_P Z.1 vwCl (List.flatten [w_Arr Z.2.1 41 ak k, w_Arr Z.2.1 41 al ln]) H) (hS : va_S (fun _ => False) s.heap H locs) (hl : lv_has ls 5 [(0, .ref ak), (1, .ref al), (2, .int p2)]), W p l e rm_L_lines s m ([.ref ak, .ref al, .int p2] : List Value).toArray below meth c H locs 0 0 Q (F0 m 42 ls [.int z0]) := by
    intro z0 hF H locs ls hP hS hl
    unfold j_L_lines_42 at hF
    refine lv_istore_n (lv' := [(3, .int z0), (0, .ref ak), (1, .ref al), (2, .int p2)]) hx hb (z_d hL_lines_0 27 rfl) rfl hl (by decide) rfl (fun ls hl => ?_)
    refine lv_iconst (v := 0) hx hb (z_d hL_lines_0 28 rfl) (by decide) ?_
    refine lv_istore (lv' := [(4, .int 0), (3, .int z0), (0, .ref ak), (1, .ref al), (2, .int p2)]) hx hb (z_d hL_lines_0 29 rfl) hl (by decide) rfl (fun ls hl => ?_)
    refine z_bnd hF (fun q8 hq8 hF => ?_)
    refine L46 z0 _ _ _ hq8 _ _ ls hP hS (lv_sub hl [2, 3, 4, 1, 0] rfl) (fun H locs ls hP hS hl => ?_)
    refine lv_iload hx hb (z_d hL_lines_0 39 rfl) (lv_at hl 3 rfl) ?_
    obtain rfl := Option.some.inj hF
    subst hQ
    exact W.iret hx hb hr (fun t ht hW => zq_ro (hS.F ht)) hS.2.2 (z_d hL_lines_0 40 rfl) hlocks
  refine lv_aload_n hx hb (z_d hL_lines_0 0 rfl) rfl (lv_at hl 0 rfl) ?_
  refine lv_iload_n hx hb (z_d hL_lines_0 1 rfl) rfl (lv_at hl 2 rfl) ?_
  refine z_ix hF (fun hin hF => ?_)
  refine va_iald (D := Z.1) (f := k) hx hb hK.1 (zP_reg hP 0 rfl) 0 0 rfl rfl hin (z_d hL_lines_0 2 rfl) ?_
  refine z_let hF (fun u1 hu1 hF => ?_)
  refine lv_topE hu1 ?_
  refine lv_iconst (v := 2) hx hb (z_d hL_lines_0 3 rfl) (by decide) ?_
  refine lv_icmp_eq (tgt := 14) hx hb (z_d hL_lines_0 4 rfl) (by decide) (fun hc4 => ?_) (fun hc4 => ?_)
  · have hF := z_pos hc4 hF
    refine lv_iconst (v := 1) hx hb (z_d hL_lines_0 10 rfl) (by decide) ?_
    obtain rfl := Option.some.inj hF
    subst hQ
    exact W.iret hx hb hr (fun t ht hW => zq_ro (hS.F ht)) hS.2.2 (z_d hL_lines_0 11 rfl) hlocks
  · have hF := z_neg hc4 hF
    refine lv_aload_n hx hb (z_d hL_lines_0 5 rfl) rfl (lv_at hl 0 rfl) ?_
    refine lv_iload_n hx hb (z_d hL_lines_0 6 rfl) rfl (lv_at hl 2 rfl) ?_
    refine z_ix hF (fun hin hF => ?_)
    refine va_iald (D := Z.1) (f := k) hx hb hK.1 (zP_reg hP 0 rfl) 0 0 rfl rfl hin (z_d hL_lines_0 7 rfl) ?_
    refine z_let hF (fun u2 hu2 hF => ?_)
    refine lv_topE hu2 ?_
    refine lv_iconst (v := 5) hx hb (z_d hL_lines_0 8 rfl) (by decide) ?_
    refine lv_icmp_ne (tgt := 16) hx hb (z_d hL_lines_0 9 rfl) (by decide) (fun hc11 => ?_) (fun hc11 => ?_)
    · have hF := z_neg hc11 hF
      refine lv_aload_n hx hb (z_d hL_lines_0 12 rfl) rfl (lv_at hl 0 rfl) ?_
      refine lv_iload_n hx hb (z_d hL_lines_0 13 rfl) rfl (lv_at hl 2 rfl) ?_
      refine z_ix hF (fun hin hF => ?_)
      refine va_iald (D := Z.1) (f := k) hx hb hK.1 (zP_reg hP 0 rfl) 0 0 rfl rfl hin (z_d hL_lines_0 14 rfl) ?_
      refine z_let hF (fun u3 hu3 hF => ?_)
      refine lv_topE hu3 ?_
      refine lv_iconst (v := 3) hx hb (z_d hL_lines_0 15 rfl) (by decide) ?_
      refine lv_icmp_ne (tgt := 28) hx hb (z_d hL_lines_0 16 rfl) (by decide) (fun hc20 => ?_) (fun hc20 => ?_)
      · have hF := z_neg hc20 hF
        refine lv_aload_n hx hb (z_d hL_lines_0 19 rfl) rfl (lv_at hl 0 rfl) ?_
        refine lv_iload_n hx hb (z_d hL_lines_0 20 rfl) rfl (lv_at hl 2 rfl) ?_
        refine z_ix hF (fun hin hF => ?_)
        refine va_iald (D := Z.1) (f := k) hx hb hK.1 (zP_reg hP 0 rfl) 0 0 rfl rfl hin (z_d hL_lines_0 21 rfl) ?_
        refine z_let hF (fun u4 hu4 hF => ?_)
        refine lv_topE hu4 ?_
        refine lv_iconst (v := 4) hx hb (z_d hL_lines_0 22 rfl) (by decide) ?_
        refine lv_icmp_ne (tgt := 40) hx hb (z_d hL_lines_0 23 rfl) (by decide) (fun hc32 => ?_) (fun hc32 => ?_)
        · have hF := z_neg hc32 hF
          refine lv_bipush (v := 60) hx hb (z_d hL_lines_0 26 rfl) (by decide) ?_
          exact J42 60 hF _ _ ls hP hS (lv_sub hl [0, 1, 2] rfl)
        · have hF := z_pos hc32 hF
          refine lv_bipush (v := 25) hx hb (z_d hL_lines_0 24 rfl) (by decide) ?_
          refine lv_goto (tgt := 42) hx hb (z_d hL_lines_0 25 rfl) (by decide) ?_
          exact J42 25 hF _ _ ls hP hS (lv_sub hl [0, 1, 2] rfl)
      · have hF := z_pos hc20 hF
        refine lv_bipush (v := 35) hx hb (z_d hL_lines_0 17 rfl) (by decide) ?_
        refine lv_goto (tgt := 42) hx hb (z_d hL_lines_0 18 rfl) (by decide) ?_
        exact J42 35 hF _ _ ls hP hS (lv_sub hl [0, 1, 2] rfl)
    · have hF := z_pos hc11 hF
      refine lv_iconst (v := 1) hx hb (z_d hL_lines_0 10 rfl) (by decide) ?_
      obtain rfl := Option.some.inj hF
      subst hQ
      exact W.iret hx hb hr (fun t ht hW => zq_ro (hS.F ht)) hS.2.2 (z_d hL_lines_0 11 rfl) hlocks
def rm_L_scenes : Room := { frames := 1, cells := 0, slots := 0, locals := 21 }
set_option maxRecDepth 100000 in
set_option maxHeartbeats 4000000 in
theorem c_L_scenes (l : Launch) (Z : zZ) (ag : Nat) (ak : Nat) (g : Rw) (k : Rw) (R : Int32) (hF : L_scenes g k = some R) : zRO l yL_scenes (zw yL_scenes cL_scenes 4 (some .int)) rm_L_scenes Z [.ref ag, .ref ak] (List.flatten [w_Arr Z.2.1 2 ag g, w_Arr Z.2.1 41 ak k]) (some (.int R)) := by
  refine zRO_of (by decide) (Nat.le_of_ble_eq_true rfl) (fun p e s m below meth c hx hb hr hml hown hts hlocks hK Q hQ ls hl hP hS => ?_)
  unfold L_scenes at hF
  have hl : lv_has ls 4 [(0, .ref ag), (1, .ref ak)] := hl
  have hown : s.vm.findClass RL = some m.cls := hown
  have L4 : ∀   (n : Nat) (v : Int32 × Int32) (X : Int32) (hF : zloop (b_L_scenes_4 g k ) n v = some X) (H : Heap) (locs : List Loc) (ls : Array Slot) (hP : va_P Z.1 vwCl (List.flatten [w_Arr Z.2.1 2 ag g, w_Arr Z.2.1 41 ak k]) H) (hS : va_S (fun _ => False) s.heap H locs) (hl : lv_has ls 4 [(0, .ref ag), (1, .ref ak), (2, .int v.1), (3, .int v.2)]) (K1 : ∀ (H : Heap) (locs : List Loc) (ls : Array Slot) (hP : va_P Z.1 vwCl (List.flatten [w_Arr Z.2.1 2 ag g, w_Arr Z.2.1 41 ak k]) H) (hS : va_S (fun _ => False) s.heap H locs) (hl : lv_has ls 4 [(0, .ref ag), (1, .ref ak), (2, .int X)]), W p l e rm_L_scenes s m ([.ref ag, .ref ak] : List Value).toArray below meth c H locs 0 0 Q (F0 m 33 ls [])), W p l e rm_L_scenes s m ([.ref ag, .ref ak] : List Value).toArray below meth c H locs 0 0 Q (F0 m 4 ls []) := by
    skip
    refine z_loopE (fun rec ih v X hF H locs ls hP hS hl K1 => ?_)
    unfold b_L_scenes_4 at hF
    refine lv_iload_n hx hb (z_d hL_scenes_0 4 rfl) rfl (lv_at hl 3 rfl) ?_
    refine lv_aload_n hx hb (z_d hL_scenes_0 5 rfl) rfl (lv_at hl 0 rfl) ?_
    refine lv_iconst (v := 0) hx hb (z_d hL_scenes_0 6 rfl) (by decide) ?_
    refine z_ix hF (fun hin hF => ?_)
    refine va_iald (D := Z.1) (f := g) hx hb hK.1 (zP_reg hP 0 rfl) 0 0 rfl rfl hin (z_d hL_scenes_0 7 rfl) ?_
    refine z_let hF (fun u1 hu1 hF => ?_)
    refine lv_topE hu1 ?_
    refine lv_icmp_ge (tgt := 33) hx hb (z_d hL_scenes_0 8 rfl) (by decide) (fun hc8 => ?_) (fun hc8 => ?_)
    · have hF := z_pos hc8 hF
      obtain rfl := Option.some.inj hF
      exact K1 _ _ ls hP hS (lv_sub hl [0, 1, 2] rfl)
    · have hF := z_neg hc8 hF
      refine lv_iload_n hx hb (z_d hL_scenes_0 9 rfl) rfl (lv_at hl 2 rfl) ?_
      refine lv_aload_n hx hb (z_d hL_scenes_0 10 rfl) rfl (lv_at hl 1 rfl) ?_
      refine lv_iload_n hx hb (z_d hL_scenes_0 11 rfl) rfl (lv_at hl 3 rfl) ?_
      refine z_bnd hF (fun q2 hq2 hF => ?_)
      refine z_ro_i (z_rS (As := [.ref ak, .int v.2]) (rest := [.int v.1]) hx hb hml hown hts vs_L_heads (c_L_heads l Z ak k v.2 _ hq2) rfl rfl ⟨Nat.le_of_ble_eq_true rfl, Nat.le_of_ble_eq_true rfl⟩ k_m_L_9 zPro_blind (z_prec hK (zP_c (zP_reg hP 1 rfl) zP_n)) rfl hl.1 (Nat.le_of_ble_eq_true rfl) (z_d hL_scenes_0 12 rfl) ⟨Nat.le_of_ble_eq_true rfl, Nat.le_of_ble_eq_true rfl⟩) hS hP (fun H locs hP hS => ?_)
      refine lv_if_eq (tgt := 24) hx hb (z_d hL_scenes_0 13 rfl) (by decide) (fun hc17 => ?_) (fun hc17 => ?_)
      · have hF := z_pos hc17 hF
        refine lv_iconst (v := 0) hx hb (z_d hL_scenes_0 16 rfl) (by decide) ?_
        refine lv_iadd hx hb (z_d hL_scenes_0 17 rfl) ?_
        refine z_let hF (fun u3 hu3 hF => ?_)
        refine lv_topE hu3 ?_
        refine lv_istore_n (lv' := [(2, .int u3), (0, .ref ag), (1, .ref ak), (3, .int v.2)]) hx hb (z_d hL_scenes_0 18 rfl) rfl hl (by decide) rfl (fun ls hl => ?_)
        refine z_let hF (fun u4 hu4 hF => ?_)
        refine lv_iinc (v := u4) (lv' := [(3, .int u4), (2, .int u3), (0, .ref ag), (1, .ref ak)]) hx hb (z_d hL_scenes_0 19 rfl) hl (k := 3) rfl (z_inc1 hu4) (by decide) rfl (fun ls hl => ?_)
        refine lv_goto (tgt := 4) hx hb (z_d hL_scenes_0 20 rfl) (by decide) ?_
        exact ih _ _ hF _ _ ls hP hS (lv_sub hl [2, 3, 1, 0] rfl) K1
      · have hF := z_neg hc17 hF
        refine lv_iconst (v := 1) hx hb (z_d hL_scenes_0 14 rfl) (by decide) ?_
        refine lv_goto (tgt := 25) hx hb (z_d hL_scenes_0 15 rfl) (by decide) ?_
        refine lv_iadd hx hb (z_d hL_scenes_0 17 rfl) ?_
        refine z_let hF (fun u5 hu5 hF => ?_)
        refine lv_topE hu5 ?_
        refine lv_istore_n (lv' := [(2, .int u5), (0, .ref ag), (1, .ref ak), (3, .int v.2)]) hx hb (z_d hL_scenes_0 18 rfl) rfl hl (by decide) rfl (fun ls hl => ?_)
        refine z_let hF (fun u6 hu6 hF => ?_)
        refine lv_iinc (v := u6) (lv' := [(3, .int u6), (2, .int u5), (0, .ref ag), (1, .ref ak)]) hx hb (z_d hL_scenes_0 19 rfl) hl (k := 3) rfl (z_inc1 hu6) (by decide) rfl (fun ls hl => ?_)
        refine lv_goto (tgt := 4) hx hb (z_d hL_scenes_0 20 rfl) (by decide) ?_
        exact ih _ _ hF _ _ ls hP hS (lv_sub hl [2, 3, 1, 0] rfl) K1
  refine lv_iconst (v := 0) hx hb (z_d hL_scenes_0 0 rfl) (by decide) ?_
  refine lv_istore_n (lv' := [(2, .int 0), (0, .ref ag), (1, .ref ak)]) hx hb (z_d hL_scenes_0 1 rfl) rfl hl (by decide) rfl (fun ls hl => ?_)
  refine lv_iconst (v := 0) hx hb (z_d hL_scenes_0 2 rfl) (by decide) ?_
  refine lv_istore_n (lv' := [(3, .int 0), (2, .int 0), (0, .ref ag), (1, .ref ak)]) hx hb (z_d hL_scenes_0 3 rfl) rfl hl (by decide) rfl (fun ls hl => ?_)
  refine z_bnd hF (fun q7 hq7 hF => ?_)
  refine L4  _ _ _ hq7 _ _ ls hP hS (lv_sub hl [2, 3, 1, 0] rfl) (fun H locs ls hP hS hl => ?_)
  refine lv_iload_n hx hb (z_d hL_scenes_0 21 rfl) rfl (lv_at hl 2 rfl) ?_
  obtain rfl := Option.some.inj hF
  subst hQ
  exact W.iret hx hb hr (fun t ht hW => zq_ro (hS.F ht)) hS.2.2 (z_d hL_scenes_0 22 rfl) hlocks
def rm_L_labels : Room := { frames := 1, cells := 0, slots := 0, locals := 21 }
set_option maxRecDepth 100000 in
set_option maxHeartbeats 4000000 in
theorem c_L_labels (l : Launch) (Z : zZ) (ag : Nat) (ak : Nat) (ab : Nat) (ao : Nat) (g : Rw) (k : Rw) (lb : Rw) (to : Rw) (R : Rw) (hF : L_labels g k lb to = some R) : zMU l yL_labels (zw yL_labels cL_labels 10 none) rm_L_labels Z [.ref ag, .ref ak, .ref ab, .ref ao] (List.flatten [w_Arr Z.2.1 2 ag g, w_Arr Z.2.1 41 ak k, w_Arr Z.2.1 41 ab lb, w_Arr Z.2.1 41 ao to]) (List.flatten [w_Arr Z.2.1 2 ag g, w_Arr Z.2.1 41 ak k, w_Arr Z.2.1 41 ab lb, w_Arr Z.2.1 41 ao R]) none := by
  refine zMU_of (by decide) (Nat.le_of_ble_eq_true rfl) (fun p e s m below meth c hx hb hr hml hown hts hlocks hK A hA Q hQ ls hl hP hD hS => ?_)
  unfold L_labels at hF
  have hl : lv_has ls 10 [(0, .ref ag), (1, .ref ak), (2, .ref ab), (3, .ref ao)] := hl
  have hown : s.vm.findClass RL = some m.cls := hown
  have L6 : ∀  (to : Rw) (n : Nat) (v : Int32 × Int32) (X : Int32) (hF : zloop (b_L_labels_6 g k lb to) n v = some X) (H : Heap) (locs : List Loc) (ls : Array Slot) (hP : va_P Z.1 vwCl (List.flatten [w_Arr Z.2.1 2 ag g, w_Arr Z.2.1 41 ak k, w_Arr Z.2.1 41 ab lb, w_Arr Z.2.1 41 ao to]) H) (hD : va_D A (List.flatten [w_Arr Z.2.1 2 ag g, w_Arr Z.2.1 41 ak k, w_Arr Z.2.1 41 ab lb, w_Arr Z.2.1 41 ao to])) (hS : va_S A s.heap H locs) (hl : lv_has ls 10 [(0, .ref ag), (1, .ref ak), (2, .ref ab), (3, .ref ao), (4, .int v.1), (5, .int v.2)]) (K1 : ∀ (H : Heap) (locs : List Loc) (ls : Array Slot) (hP : va_P Z.1 vwCl (List.flatten [w_Arr Z.2.1 2 ag g, w_Arr Z.2.1 41 ak k, w_Arr Z.2.1 41 ab lb, w_Arr Z.2.1 41 ao to]) H) (hD : va_D A (List.flatten [w_Arr Z.2.1 2 ag g, w_Arr Z.2.1 41 ak k, w_Arr Z.2.1 41 ab lb, w_Arr Z.2.1 41 ao to])) (hS : va_S A s.heap H locs) (hl : lv_has ls 10 [(0, .ref ag), (1, .ref ak), (2, .ref ab), (3, .ref ao), (4, .int X)]), W p l e rm_L_labels s m ([.ref ag, .ref ak, .ref ab, .ref ao] : List Value).toArray below meth c H locs 0 0 Q (F0 m 48 ls [])), W p l e rm_L_labels s m ([.ref ag, .ref ak, .ref ab, .ref ao] : List Value).toArray below meth c H locs 0 0 Q (F0 m 6 ls []) := by
    intro to
    refine z_loopE (fun rec ih v X hF H locs ls hP hD hS hl K1 => ?_)
    unfold b_L_labels_6 at hF
    refine lv_iload hx hb (z_d hL_labels_0 4 rfl) (lv_at hl 5 rfl) ?_
    refine lv_aload_n hx hb (z_d hL_labels_0 5 rfl) rfl (lv_at hl 0 rfl) ?_
    refine lv_iconst (v := 0) hx hb (z_d hL_labels_0 6 rfl) (by decide) ?_
    refine z_ix hF (fun hin hF => ?_)
    refine va_iald (D := Z.1) (f := g) hx hb hK.1 (zP_reg hP 0 rfl) 0 0 rfl rfl hin (z_d hL_labels_0 7 rfl) ?_
    refine z_let hF (fun u1 hu1 hF => ?_)
    refine lv_topE hu1 ?_
    refine lv_icmp_ge (tgt := 48) hx hb (z_d hL_labels_0 8 rfl) (by decide) (fun hc11 => ?_) (fun hc11 => ?_)
    · have hF := z_pos hc11 hF
      obtain rfl := Option.some.inj hF
      exact K1 _ _ ls hP hD hS (lv_sub hl [0, 1, 2, 3, 4] rfl)
    · have hF := z_neg hc11 hF
      refine lv_iload hx hb (z_d hL_labels_0 9 rfl) (lv_at hl 4 rfl) ?_
      refine lv_if_ne (tgt := 35) hx hb (z_d hL_labels_0 10 rfl) (by decide) (fun hc16 => ?_) (fun hc16 => ?_)
      · have hF := z_neg hc16 hF
        refine lv_iconst (v := 1) hx hb (z_d hL_labels_0 19 rfl) (by decide) ?_
        refine lv_goto (tgt := 40) hx hb (z_d hL_labels_0 20 rfl) (by decide) ?_
        refine lv_istore (lv' := [(4, .int 1), (0, .ref ag), (1, .ref ak), (2, .ref ab), (3, .ref ao), (5, .int v.2)]) hx hb (z_d hL_labels_0 22 rfl) hl (by decide) rfl (fun ls hl => ?_)
        refine z_let hF (fun u2 hu2 hF => ?_)
        refine lv_iinc (v := u2) (lv' := [(5, .int u2), (4, .int 1), (0, .ref ag), (1, .ref ak), (2, .ref ab), (3, .ref ao)]) hx hb (z_d hL_labels_0 23 rfl) hl (k := 5) rfl (z_inc1 hu2) (by decide) rfl (fun ls hl => ?_)
        refine lv_goto (tgt := 6) hx hb (z_d hL_labels_0 24 rfl) (by decide) ?_
        exact ih _ _ hF _ _ ls hP hD hS (lv_sub hl [2, 3, 4, 5, 1, 0] rfl) K1
      · have hF := z_pos hc16 hF
        refine lv_aload_n hx hb (z_d hL_labels_0 11 rfl) rfl (lv_at hl 1 rfl) ?_
        refine lv_iload hx hb (z_d hL_labels_0 12 rfl) (lv_at hl 5 rfl) ?_
        refine z_bnd hF (fun q3 hq3 hF => ?_)
        refine z_ro_i (z_rS (As := [.ref ak, .int v.2]) (rest := []) hx hb hml hown hts vs_L_heads (c_L_heads l Z ak k v.2 _ hq3) rfl rfl ⟨Nat.le_of_ble_eq_true rfl, Nat.le_of_ble_eq_true rfl⟩ k_m_L_9 zPro_blind (z_prec hK (zP_c (zP_reg hP 1 rfl) zP_n)) rfl hl.1 (Nat.le_of_ble_eq_true rfl) (z_d hL_labels_0 13 rfl) ⟨Nat.le_of_ble_eq_true rfl, Nat.le_of_ble_eq_true rfl⟩) hS hP (fun H locs hP hS => ?_)
        refine lv_if_eq (tgt := 39) hx hb (z_d hL_labels_0 14 rfl) (by decide) (fun hc25 => ?_) (fun hc25 => ?_)
        · have hF := z_pos hc25 hF
          refine lv_iconst (v := 0) hx hb (z_d hL_labels_0 21 rfl) (by decide) ?_
          refine lv_istore (lv' := [(4, .int 0), (0, .ref ag), (1, .ref ak), (2, .ref ab), (3, .ref ao), (5, .int v.2)]) hx hb (z_d hL_labels_0 22 rfl) hl (by decide) rfl (fun ls hl => ?_)
          refine z_let hF (fun u4 hu4 hF => ?_)
          refine lv_iinc (v := u4) (lv' := [(5, .int u4), (4, .int 0), (0, .ref ag), (1, .ref ak), (2, .ref ab), (3, .ref ao)]) hx hb (z_d hL_labels_0 23 rfl) hl (k := 5) rfl (z_inc1 hu4) (by decide) rfl (fun ls hl => ?_)
          refine lv_goto (tgt := 6) hx hb (z_d hL_labels_0 24 rfl) (by decide) ?_
          exact ih _ _ hF _ _ ls hP hD hS (lv_sub hl [2, 3, 4, 5, 1, 0] rfl) K1
        · have hF := z_neg hc25 hF
          refine lv_aload_n hx hb (z_d hL_labels_0 15 rfl) rfl (lv_at hl 2 rfl) ?_
          refine lv_iload hx hb (z_d hL_labels_0 16 rfl) (lv_at hl 5 rfl) ?_
          refine z_ix hF (fun hin hF => ?_)
          refine va_iald (D := Z.1) (f := lb) hx hb hK.1 (zP_reg hP 2 rfl) 0 0 rfl rfl hin (z_d hL_labels_0 17 rfl) ?_
          refine z_let hF (fun u5 hu5 hF => ?_)
          refine lv_topE hu5 ?_
          refine lv_if_lt (tgt := 39) hx hb (z_d hL_labels_0 18 rfl) (by decide) (fun hc32 => ?_) (fun hc32 => ?_)
          · have hF := z_pos hc32 hF
            refine lv_iconst (v := 0) hx hb (z_d hL_labels_0 21 rfl) (by decide) ?_
            refine lv_istore (lv' := [(4, .int 0), (0, .ref ag), (1, .ref ak), (2, .ref ab), (3, .ref ao), (5, .int v.2)]) hx hb (z_d hL_labels_0 22 rfl) hl (by decide) rfl (fun ls hl => ?_)
            refine z_let hF (fun u6 hu6 hF => ?_)
            refine lv_iinc (v := u6) (lv' := [(5, .int u6), (4, .int 0), (0, .ref ag), (1, .ref ak), (2, .ref ab), (3, .ref ao)]) hx hb (z_d hL_labels_0 23 rfl) hl (k := 5) rfl (z_inc1 hu6) (by decide) rfl (fun ls hl => ?_)
            refine lv_goto (tgt := 6) hx hb (z_d hL_labels_0 24 rfl) (by decide) ?_
            exact ih _ _ hF _ _ ls hP hD hS (lv_sub hl [2, 3, 4, 5, 1, 0] rfl) K1
          · have hF := z_neg hc32 hF
            refine lv_iconst (v := 1) hx hb (z_d hL_labels_0 19 rfl) (by decide) ?_
            refine lv_goto (tgt := 40) hx hb (z_d hL_labels_0 20 rfl) (by decide) ?_
            refine lv_istore (lv' := [(4, .int 1), (0, .ref ag), (1, .ref ak), (2, .ref ab), (3, .ref ao), (5, .int v.2)]) hx hb (z_d hL_labels_0 22 rfl) hl (by decide) rfl (fun ls hl => ?_)
            refine z_let hF (fun u7 hu7 hF => ?_)
            refine lv_iinc (v := u7) (lv' := [(5, .int u7), (4, .int 1), (0, .ref ag), (1, .ref ak), (2, .ref ab), (3, .ref ao)]) hx hb (z_d hL_labels_0 23 rfl) hl (k := 5) rfl (z_inc1 hu7) (by decide) rfl (fun ls hl => ?_)
            refine lv_goto (tgt := 6) hx hb (z_d hL_labels_0 24 rfl) (by decide) ?_
            exact ih _ _ hF _ _ ls hP hD hS (lv_sub hl [2, 3, 4, 5, 1, 0] rfl) K1
  have L57 : ∀  (x4 : Int32) (n : Nat) (v : Rw × Int32 × Int32 × Int32) (X : Rw) (hF : zloop (b_L_labels_57 g k lb x4) n v = some X) (H : Heap) (locs : List Loc) (ls : Array Slot) (hP : va_P Z.1 vwCl (List.flatten [w_Arr Z.2.1 2 ag g, w_Arr Z.2.1 41 ak k, w_Arr Z.2.1 41 ab lb, w_Arr Z.2.1 41 ao v.1]) H) (hD : va_D A (List.flatten [w_Arr Z.2.1 2 ag g, w_Arr Z.2.1 41 ak k, w_Arr Z.2.1 41 ab lb, w_Arr Z.2.1 41 ao v.1])) (hS : va_S A s.heap H locs) (hl : lv_has ls 10 [(0, .ref ag), (1, .ref ak), (2, .ref ab), (3, .ref ao), (4, .int x4), (5, .int v.2.1), (6, .int v.2.2.1), (7, .int v.2.2.2)]) (K1 : ∀ (H : Heap) (locs : List Loc) (ls : Array Slot) (hP : va_P Z.1 vwCl (List.flatten [w_Arr Z.2.1 2 ag g, w_Arr Z.2.1 41 ak k, w_Arr Z.2.1 41 ab lb, w_Arr Z.2.1 41 ao X]) H) (hD : va_D A (List.flatten [w_Arr Z.2.1 2 ag g, w_Arr Z.2.1 41 ak k, w_Arr Z.2.1 41 ab lb, w_Arr Z.2.1 41 ao X])) (hS : va_S A s.heap H locs) (hl : lv_has ls 10 [(0, .ref ag), (1, .ref ak), (2, .ref ab), (3, .ref ao)]), W p l e rm_L_labels s m ([.ref ag, .ref ak, .ref ab, .ref ao] : List Value).toArray below meth c H locs 0 0 Q (F0 m 227 ls [])), W p l e rm_L_labels s m ([.ref ag, .ref ak, .ref ab, .ref ao] : List Value).toArray below meth c H locs 0 0 Q (F0 m 57 ls []) := by
    intro x4
    refine z_loopE (fun rec ih v X hF H locs ls hP hD hS hl K1 => ?_)
    unfold b_L_labels_57 at hF
    have L118 : ∀  (to : Rw) (x4 : Int32) (x5 : Int32) (x6 : Int32) (x7 : Int32) (n : Nat) (v : Int32 × Int32) (X : Int32) (hF : zloop (b_L_labels_118 g k lb to x4 x5 x6 x7) n v = some X) (H : Heap) (locs : List Loc) (ls : Array Slot) (hP : va_P Z.1 vwCl (List.flatten [w_Arr Z.2.1 2 ag g, w_Arr Z.2.1 41 ak k, w_Arr Z.2.1 41 ab lb, w_Arr Z.2.1 41 ao to]) H) (hD : va_D A (List.flatten [w_Arr Z.2.1 2 ag g, w_Arr Z.2.1 41 ak k, w_Arr Z.2.1 41 ab lb, w_Arr Z.2.1 41 ao to])) (hS : va_S A s.heap H locs) (hl : lv_has ls 10 [(0, .ref ag), (1, .ref ak), (2, .ref ab), (3, .ref ao), (4, .int x4), (5, .int x5), (6, .int x6), (7, .int x7), (8, .int v.1), (9, .int v.2)]) (K1 : ∀ (H : Heap) (locs : List Loc) (ls : Array Slot) (hP : va_P Z.1 vwCl (List.flatten [w_Arr Z.2.1 2 ag g, w_Arr Z.2.1 41 ak k, w_Arr Z.2.1 41 ab lb, w_Arr Z.2.1 41 ao to]) H) (hD : va_D A (List.flatten [w_Arr Z.2.1 2 ag g, w_Arr Z.2.1 41 ak k, w_Arr Z.2.1 41 ab lb, w_Arr Z.2.1 41 ao to])) (hS : va_S A s.heap H locs) (hl : lv_has ls 10 [(0, .ref ag), (1, .ref ak), (2, .ref ab), (3, .ref ao), (4, .int x4), (5, .int x5), (6, .int x6), (7, .int x7), (8, .int X)]), W p l e rm_L_labels s m ([.ref ag, .ref ak, .ref ab, .ref ao] : List Value).toArray below meth c H locs 0 0 Q (F0 m 158 ls [])), W p l e rm_L_labels s m ([.ref ag, .ref ak, .ref ab, .ref ao] : List Value).toArray below meth c H locs 0 0 Q (F0 m 118 ls []) := by
      intro to x4 x5 x6 x7
      refine z_loopE (fun rec ih v X hF H locs ls hP hD hS hl K1 => ?_)
      unfold b_L_labels_118 at hF
      refine lv_iload hx hb (z_d hL_labels_1 7 rfl) (lv_at hl 9 rfl) ?_
      refine lv_iload hx hb (z_d hL_labels_1 8 rfl) (lv_at hl 7 rfl) ?_
      refine lv_icmp_le (tgt := 158) hx hb (z_d hL_labels_1 9 rfl) (by decide) (fun hc122 => ?_) (fun hc122 => ?_)
      · have hF := z_pos hc122 hF
        obtain rfl := Option.some.inj hF
        exact K1 _ _ ls hP hD hS (lv_sub hl [0, 1, 2, 3, 4, 5, 6, 7, 8] rfl)
      · have hF := z_neg hc122 hF
        refine lv_aload_n hx hb (z_d hL_labels_1 10 rfl) rfl (lv_at hl 1 rfl) ?_
        refine lv_iload hx hb (z_d hL_labels_1 11 rfl) (lv_at hl 9 rfl) ?_
        refine z_bnd hF (fun q15 hq15 hF => ?_)
        refine z_ro_i (z_rS (As := [.ref ak, .int v.2]) (rest := []) hx hb hml hown hts vs_L_heads (c_L_heads l Z ak k v.2 _ hq15) rfl rfl ⟨Nat.le_of_ble_eq_true rfl, Nat.le_of_ble_eq_true rfl⟩ k_m_L_9 zPro_blind (z_prec hK (zP_c (zP_reg hP 1 rfl) zP_n)) rfl hl.1 (Nat.le_of_ble_eq_true rfl) (z_d hL_labels_1 12 rfl) ⟨Nat.le_of_ble_eq_true rfl, Nat.le_of_ble_eq_true rfl⟩) hS hP (fun H locs hP hS => ?_)
        refine lv_if_eq (tgt := 148) hx hb (z_d hL_labels_1 13 rfl) (by decide) (fun hc131 => ?_) (fun hc131 => ?_)
        · have hF := z_pos hc131 hF
          refine lv_iload hx hb (z_d hL_labels_1 22 rfl) (lv_at hl 8 rfl) ?_
          refine lv_istore (lv' := [(8, .int v.1), (0, .ref ag), (1, .ref ak), (2, .ref ab), (3, .ref ao), (4, .int x4), (5, .int x5), (6, .int x6), (7, .int x7), (9, .int v.2)]) hx hb (z_d hL_labels_1 23 rfl) hl (by decide) rfl (fun ls hl => ?_)
          refine z_let hF (fun u16 hu16 hF => ?_)
          refine lv_iinc (v := u16) (lv' := [(9, .int u16), (8, .int v.1), (0, .ref ag), (1, .ref ak), (2, .ref ab), (3, .ref ao), (4, .int x4), (5, .int x5), (6, .int x6), (7, .int x7)]) hx hb (z_d hL_labels_1 24 rfl) hl (k := 9) rfl (z_incm1 hu16) (by decide) rfl (fun ls hl => ?_)
          refine lv_goto (tgt := 118) hx hb (z_d hL_labels_1 25 rfl) (by decide) ?_
          exact ih _ _ hF _ _ ls hP hD hS (lv_sub hl [2, 3, 4, 5, 6, 7, 8, 9, 1, 0] rfl) K1
        · have hF := z_neg hc131 hF
          refine lv_aload_n hx hb (z_d hL_labels_1 14 rfl) rfl (lv_at hl 2 rfl) ?_
          refine lv_iload hx hb (z_d hL_labels_1 15 rfl) (lv_at hl 9 rfl) ?_
          refine z_ix hF (fun hin hF => ?_)
          refine va_iald (D := Z.1) (f := lb) hx hb hK.1 (zP_reg hP 2 rfl) 0 0 rfl rfl hin (z_d hL_labels_1 16 rfl) ?_
          refine z_let hF (fun u17 hu17 hF => ?_)
          refine lv_topE hu17 ?_
          refine lv_if_lt (tgt := 148) hx hb (z_d hL_labels_1 17 rfl) (by decide) (fun hc138 => ?_) (fun hc138 => ?_)
          · have hF := z_pos hc138 hF
            refine lv_iload hx hb (z_d hL_labels_1 22 rfl) (lv_at hl 8 rfl) ?_
            refine lv_istore (lv' := [(8, .int v.1), (0, .ref ag), (1, .ref ak), (2, .ref ab), (3, .ref ao), (4, .int x4), (5, .int x5), (6, .int x6), (7, .int x7), (9, .int v.2)]) hx hb (z_d hL_labels_1 23 rfl) hl (by decide) rfl (fun ls hl => ?_)
            refine z_let hF (fun u18 hu18 hF => ?_)
            refine lv_iinc (v := u18) (lv' := [(9, .int u18), (8, .int v.1), (0, .ref ag), (1, .ref ak), (2, .ref ab), (3, .ref ao), (4, .int x4), (5, .int x5), (6, .int x6), (7, .int x7)]) hx hb (z_d hL_labels_1 24 rfl) hl (k := 9) rfl (z_incm1 hu18) (by decide) rfl (fun ls hl => ?_)
            refine lv_goto (tgt := 118) hx hb (z_d hL_labels_1 25 rfl) (by decide) ?_
            exact ih _ _ hF _ _ ls hP hD hS (lv_sub hl [2, 3, 4, 5, 6, 7, 8, 9, 1, 0] rfl) K1
          · have hF := z_neg hc138 hF
            refine lv_aload_n hx hb (z_d hL_labels_1 18 rfl) rfl (lv_at hl 2 rfl) ?_
            refine lv_iload hx hb (z_d hL_labels_1 19 rfl) (lv_at hl 9 rfl) ?_
            refine z_ix hF (fun hin hF => ?_)
            refine va_iald (D := Z.1) (f := lb) hx hb hK.1 (zP_reg hP 2 rfl) 0 0 rfl rfl hin (z_d hL_labels_1 20 rfl) ?_
            refine z_let hF (fun u19 hu19 hF => ?_)
            refine lv_topE hu19 ?_
            refine lv_goto (tgt := 150) hx hb (z_d hL_labels_1 21 rfl) (by decide) ?_
            refine lv_istore (lv' := [(8, .int u19), (0, .ref ag), (1, .ref ak), (2, .ref ab), (3, .ref ao), (4, .int x4), (5, .int x5), (6, .int x6), (7, .int x7), (9, .int v.2)]) hx hb (z_d hL_labels_1 23 rfl) hl (by decide) rfl (fun ls hl => ?_)
            refine z_let hF (fun u20 hu20 hF => ?_)
            refine lv_iinc (v := u20) (lv' := [(9, .int u20), (8, .int u19), (0, .ref ag), (1, .ref ak), (2, .ref ab), (3, .ref ao), (4, .int x4), (5, .int x5), (6, .int x6), (7, .int x7)]) hx hb (z_d hL_labels_1 24 rfl) hl (k := 9) rfl (z_incm1 hu20) (by decide) rfl (fun ls hl => ?_)
            refine lv_goto (tgt := 118) hx hb (z_d hL_labels_1 25 rfl) (by decide) ?_
            exact ih _ _ hF _ _ ls hP hD hS (lv_sub hl [2, 3, 4, 5, 6, 7, 8, 9, 1, 0] rfl) K1
    have J206 : ∀  (to : Rw) (x5 : Int32) (x6 : Int32) (x7 : Int32) (z0 : Int32) (hF : j_L_labels_206 g k lb x4 rec to x5 x6 x7 z0 = some X) (H : Heap) (locs : List Loc) (ls : Array Slot) (hP : va_P Z.1 vwCl (List.flatten [w_Arr Z.2.1 2 ag g, w_Arr Z.2.1 41 ak k, w_Arr Z.2.1 41 ab lb, w_Arr Z.2.1 41 ao to]) H) (hD : va_D A (List.flatten [w_Arr Z.2.1 2 ag g, w_Arr Z.2.1 41 ak k, w_Arr Z.2.1 41 ab lb, w_Arr Z.2.1 41 ao to])) (hS : va_S A s.heap H locs) (hl : lv_has ls 10 [(0, .ref ag), (1, .ref ak), (2, .ref ab), (3, .ref ao), (4, .int x4), (5, .int x5), (6, .int x6), (7, .int x7)]), W p l e rm_L_labels s m ([.ref ag, .ref ak, .ref ab, .ref ao] : List Value).toArray below meth c H locs 0 0 Q (F0 m 206 ls [.int z0, .ref ao]) := by
      intro to x5 x6 x7 z0 hF H locs ls hP hD hS hl
      unfold j_L_labels_206 at hF
      refine lv_iload hx hb (z_d hL_labels_1 48 rfl) (lv_at hl 5 rfl) ?_
      refine lv_bipush (v := 100) hx hb (z_d hL_labels_1 49 rfl) (by decide) ?_
      refine lv_idiv hx hb (z_d hL_labels_1 50 rfl) (by decide) ?_
      refine z_let hF (fun u23 hu23 hF => ?_)
      refine lv_topE hu23 ?_
      refine lv_bipush (v := 100) hx hb (z_d hL_labels_1 51 rfl) (by decide) ?_
      refine lv_imul hx hb (z_d hL_labels_1 52 rfl) ?_
      refine z_let hF (fun u24 hu24 hF => ?_)
      refine lv_topE hu24 ?_
      refine lv_bipush (v := 100) hx hb (z_d hL_labels_1 53 rfl) (by decide) ?_
      refine lv_iload hx hb (z_d hL_labels_1 54 rfl) (lv_at hl 6 rfl) ?_
      refine lv_imul hx hb (z_d hL_labels_1 55 rfl) ?_
      refine z_let hF (fun u25 hu25 hF => ?_)
      refine lv_topE hu25 ?_
      refine lv_iadd hx hb (z_d hL_labels_1 56 rfl) ?_
      refine z_let hF (fun u26 hu26 hF => ?_)
      refine lv_topE hu26 ?_
      refine z_ix hF (fun hin hF => ?_)
      refine z_let hF (fun g27 hg27 hF => ?_)
      refine z_iast (Z := Z) (L := [w_Arr Z.2.1 2 ag g, w_Arr Z.2.1 41 ak k, w_Arr Z.2.1 41 ab lb, w_Arr Z.2.1 41 ao to]) (L' := [w_Arr Z.2.1 2 ag g, w_Arr Z.2.1 41 ak k, w_Arr Z.2.1 41 ab lb, w_Arr Z.2.1 41 ao g27]) (f := to) hx hb hK hP hD hS 3 rfl hin hg27 rfl (z_d hL_labels_1 57 rfl) (fun H locs hP hD hS => ?_)
      refine z_let hF (fun u28 hu28 hF => ?_)
      refine lv_iinc (v := u28) (lv' := [(7, .int u28), (0, .ref ag), (1, .ref ak), (2, .ref ab), (3, .ref ao), (4, .int x4), (5, .int x5), (6, .int x6)]) hx hb (z_d hL_labels_1 58 rfl) hl (k := 7) rfl (z_inc1 hu28) (by decide) rfl (fun ls hl => ?_)
      refine lv_goto (tgt := 57) hx hb (z_d hL_labels_1 59 rfl) (by decide) ?_
      exact ih _ _ hF _ _ ls hP hD hS (lv_sub hl [1, 2, 3, 4, 5, 6, 7, 0] rfl) K1
    have J99 : ∀  (to : Rw) (x5 : Int32) (x6 : Int32) (x7 : Int32) (hF : j_L_labels_99 g k lb x4 rec to x5 x6 x7 = some X) (H : Heap) (locs : List Loc) (ls : Array Slot) (hP : va_P Z.1 vwCl (List.flatten [w_Arr Z.2.1 2 ag g, w_Arr Z.2.1 41 ak k, w_Arr Z.2.1 41 ab lb, w_Arr Z.2.1 41 ao to]) H) (hD : va_D A (List.flatten [w_Arr Z.2.1 2 ag g, w_Arr Z.2.1 41 ak k, w_Arr Z.2.1 41 ab lb, w_Arr Z.2.1 41 ao to])) (hS : va_S A s.heap H locs) (hl : lv_has ls 10 [(0, .ref ag), (1, .ref ak), (2, .ref ab), (3, .ref ao), (4, .int x4), (5, .int x5), (6, .int x6), (7, .int x7)]), W p l e rm_L_labels s m ([.ref ag, .ref ak, .ref ab, .ref ao] : List Value).toArray below meth c H locs 0 0 Q (F0 m 99 ls []) := by
      intro to x5 x6 x7 hF H locs ls hP hD hS hl
      unfold j_L_labels_99 at hF
      refine lv_aload_n hx hb (z_d hL_labels_0 55 rfl) rfl (lv_at hl 1 rfl) ?_
      refine lv_iload hx hb (z_d hL_labels_0 56 rfl) (lv_at hl 7 rfl) ?_
      refine z_bnd hF (fun q11 hq11 hF => ?_)
      refine z_ro_i (z_rS (As := [.ref ak, .int x7]) (rest := []) hx hb hml hown hts vs_L_heads (c_L_heads l Z ak k x7 _ hq11) rfl rfl ⟨Nat.le_of_ble_eq_true rfl, Nat.le_of_ble_eq_true rfl⟩ k_m_L_9 zPro_blind (z_prec hK (zP_c (zP_reg hP 1 rfl) zP_n)) rfl hl.1 (Nat.le_of_ble_eq_true rfl) (z_d hL_labels_0 57 rfl) ⟨Nat.le_of_ble_eq_true rfl, Nat.le_of_ble_eq_true rfl⟩) hS hP (fun H locs hP hS => ?_)
      refine lv_if_eq (tgt := 221) hx hb (z_d hL_labels_0 58 rfl) (by decide) (fun hc105 => ?_) (fun hc105 => ?_)
      · have hF := z_pos hc105 hF
        refine z_let hF (fun u12 hu12 hF => ?_)
        refine lv_iinc (v := u12) (lv' := [(7, .int u12), (0, .ref ag), (1, .ref ak), (2, .ref ab), (3, .ref ao), (4, .int x4), (5, .int x5), (6, .int x6)]) hx hb (z_d hL_labels_1 58 rfl) hl (k := 7) rfl (z_inc1 hu12) (by decide) rfl (fun ls hl => ?_)
        refine lv_goto (tgt := 57) hx hb (z_d hL_labels_1 59 rfl) (by decide) ?_
        exact ih _ _ hF _ _ ls hP hD hS (lv_sub hl [1, 2, 3, 4, 5, 6, 7, 0] rfl) K1
      · have hF := z_neg hc105 hF
        refine lv_iconst (v := (-1)) hx hb (z_d hL_labels_0 59 rfl) (by decide) ?_
        refine lv_istore (lv' := [(8, .int (-1)), (0, .ref ag), (1, .ref ak), (2, .ref ab), (3, .ref ao), (4, .int x4), (5, .int x5), (6, .int x6), (7, .int x7)]) hx hb (z_d hL_labels_1 0 rfl) hl (by decide) rfl (fun ls hl => ?_)
        refine lv_aload_n hx hb (z_d hL_labels_1 1 rfl) rfl (lv_at hl 1 rfl) ?_
        refine lv_iconst (v := 0) hx hb (z_d hL_labels_1 2 rfl) (by decide) ?_
        refine z_ix hF (fun hin hF => ?_)
        refine va_iald (D := Z.1) (f := g) hx hb hK.1 (zP_reg hP 0 rfl) 0 0 rfl rfl hin (z_d hL_labels_1 3 rfl) ?_
        refine z_let hF (fun u13 hu13 hF => ?_)
        refine lv_topE hu13 ?_
        refine lv_iconst (v := 1) hx hb (z_d hL_labels_1 4 rfl) (by decide) ?_
        refine lv_isub hx hb (z_d hL_labels_1 5 rfl) ?_
        refine z_let hF (fun u14 hu14 hF => ?_)
        refine lv_topE hu14 ?_
        refine lv_istore (lv' := [(9, .int u14), (8, .int (-1)), (0, .ref ag), (1, .ref ak), (2, .ref ab), (3, .ref ao), (4, .int x4), (5, .int x5), (6, .int x6), (7, .int x7)]) hx hb (z_d hL_labels_1 6 rfl) hl (by decide) rfl (fun ls hl => ?_)
        refine z_bnd hF (fun q21 hq21 hF => ?_)
        refine L118 to x4 x5 x6 x7 _ _ _ hq21 _ _ ls hP hD hS (lv_sub hl [2, 3, 4, 5, 6, 7, 8, 9, 1, 0] rfl) (fun H locs ls hP hD hS hl => ?_)
        refine z_let hF (fun u22 hu22 hF => ?_)
        refine lv_iinc (v := u22) (lv' := [(6, .int u22), (0, .ref ag), (1, .ref ak), (2, .ref ab), (3, .ref ao), (4, .int x4), (5, .int x5), (7, .int x7), (8, .int q21)]) hx hb (z_d hL_labels_1 26 rfl) hl (k := 6) rfl (z_inc1 hu22) (by decide) rfl (fun ls hl => ?_)
        refine lv_aload_n hx hb (z_d hL_labels_1 27 rfl) rfl (lv_at hl 4 rfl) ?_
        refine lv_iload hx hb (z_d hL_labels_1 28 rfl) (lv_at hl 7 rfl) ?_
        refine lv_iload hx hb (z_d hL_labels_1 29 rfl) (lv_at hl 5 rfl) ?_
        refine lv_if_ne (tgt := 178) hx hb (z_d hL_labels_1 30 rfl) (by decide) (fun hc166 => ?_) (fun hc166 => ?_)
        · have hF := z_neg hc166 hF
          refine lv_iload hx hb (z_d hL_labels_1 35 rfl) (lv_at hl 8 rfl) ?_
          refine lv_if_lt (tgt := 206) hx hb (z_d hL_labels_1 36 rfl) (by decide) (fun hc180 => ?_) (fun hc180 => ?_)
          · have hF := z_pos hc180 hF
            exact J206 to x5 u22 x7 x7 hF _ _ ls hP hD hS (lv_sub hl [1, 2, 3, 4, 5, 6, 0, 7] rfl)
          · have hF := z_neg hc180 hF
            refine lv_iload hx hb (z_d hL_labels_1 37 rfl) (lv_at hl 8 rfl) ?_
            refine lv_sipush (v := 10000) hx hb (z_d hL_labels_1 38 rfl) (by decide) ?_
            refine lv_idiv hx hb (z_d hL_labels_1 39 rfl) (by decide) ?_
            refine z_let hF (fun u29 hu29 hF => ?_)
            refine lv_topE hu29 ?_
            refine lv_iload hx hb (z_d hL_labels_1 40 rfl) (lv_at hl 6 rfl) ?_
            refine lv_sipush (v := 10000) hx hb (z_d hL_labels_1 41 rfl) (by decide) ?_
            refine lv_idiv hx hb (z_d hL_labels_1 42 rfl) (by decide) ?_
            refine z_let hF (fun u30 hu30 hF => ?_)
            refine lv_topE hu30 ?_
            refine lv_icmp_ne (tgt := 206) hx hb (z_d hL_labels_1 43 rfl) (by decide) (fun hc195 => ?_) (fun hc195 => ?_)
            · have hF := z_neg hc195 hF
              exact J206 to x5 u22 x7 x7 hF _ _ ls hP hD hS (lv_sub hl [1, 2, 3, 4, 5, 6, 0, 7] rfl)
            · have hF := z_pos hc195 hF
              refine lv_iload hx hb (z_d hL_labels_1 44 rfl) (lv_at hl 6 rfl) ?_
              refine lv_iload hx hb (z_d hL_labels_1 45 rfl) (lv_at hl 0 rfl) ?_
              refine lv_iadd hx hb (z_d hL_labels_1 46 rfl) ?_
              refine z_let hF (fun u31 hu31 hF => ?_)
              refine lv_topE hu31 ?_
              refine lv_goto (tgt := 220) hx hb (z_d hL_labels_1 47 rfl) (by decide) ?_
              refine z_ix hF (fun hin hF => ?_)
              refine z_let hF (fun g32 hg32 hF => ?_)
              refine z_iast (Z := Z) (L := [w_Arr Z.2.1 2 ag g, w_Arr Z.2.1 41 ak k, w_Arr Z.2.1 41 ab lb, w_Arr Z.2.1 41 ao to]) (L' := [w_Arr Z.2.1 2 ag g, w_Arr Z.2.1 41 ak k, w_Arr Z.2.1 41 ab lb, w_Arr Z.2.1 41 ao g32]) (f := to) hx hb hK hP hD hS 3 rfl hin hg32 rfl (z_d hL_labels_1 57 rfl) (fun H locs hP hD hS => ?_)
              refine z_let hF (fun u33 hu33 hF => ?_)
              refine lv_iinc (v := u33) (lv' := [(7, .int u33), (6, .int u22), (0, .ref ag), (1, .ref ak), (2, .ref ab), (3, .ref ao), (4, .int x4), (5, .int x5), (8, .int q21)]) hx hb (z_d hL_labels_1 58 rfl) hl (k := 7) rfl (z_inc1 hu33) (by decide) rfl (fun ls hl => ?_)
              refine lv_goto (tgt := 57) hx hb (z_d hL_labels_1 59 rfl) (by decide) ?_
              exact ih _ _ hF _ _ ls hP hD hS (lv_sub hl [2, 3, 4, 5, 6, 7, 1, 0] rfl) K1
        · have hF := z_pos hc166 hF
          refine lv_sipush (v := 10000) hx hb (z_d hL_labels_1 31 rfl) (by decide) ?_
          refine lv_iload hx hb (z_d hL_labels_1 32 rfl) (lv_at hl 0 rfl) ?_
          refine lv_imul hx hb (z_d hL_labels_1 33 rfl) ?_
          refine z_let hF (fun u34 hu34 hF => ?_)
          refine lv_topE hu34 ?_
          refine lv_goto (tgt := 220) hx hb (z_d hL_labels_1 34 rfl) (by decide) ?_
          refine z_ix hF (fun hin hF => ?_)
          refine z_let hF (fun g35 hg35 hF => ?_)
          refine z_iast (Z := Z) (L := [w_Arr Z.2.1 2 ag g, w_Arr Z.2.1 41 ak k, w_Arr Z.2.1 41 ab lb, w_Arr Z.2.1 41 ao to]) (L' := [w_Arr Z.2.1 2 ag g, w_Arr Z.2.1 41 ak k, w_Arr Z.2.1 41 ab lb, w_Arr Z.2.1 41 ao g35]) (f := to) hx hb hK hP hD hS 3 rfl hin hg35 rfl (z_d hL_labels_1 57 rfl) (fun H locs hP hD hS => ?_)
          refine z_let hF (fun u36 hu36 hF => ?_)
          refine lv_iinc (v := u36) (lv' := [(7, .int u36), (6, .int u22), (0, .ref ag), (1, .ref ak), (2, .ref ab), (3, .ref ao), (4, .int x4), (5, .int x5), (8, .int q21)]) hx hb (z_d hL_labels_1 58 rfl) hl (k := 7) rfl (z_inc1 hu36) (by decide) rfl (fun ls hl => ?_)
          refine lv_goto (tgt := 57) hx hb (z_d hL_labels_1 59 rfl) (by decide) ?_
          exact ih _ _ hF _ _ ls hP hD hS (lv_sub hl [2, 3, 4, 5, 6, 7, 1, 0] rfl) K1
    refine lv_iload hx hb (z_d hL_labels_0 31 rfl) (lv_at hl 7 rfl) ?_
    refine lv_aload_n hx hb (z_d hL_labels_0 32 rfl) rfl (lv_at hl 0 rfl) ?_
    refine lv_iconst (v := 0) hx hb (z_d hL_labels_0 33 rfl) (by decide) ?_
    refine z_ix hF (fun hin hF => ?_)
    refine va_iald (D := Z.1) (f := g) hx hb hK.1 (zP_reg hP 0 rfl) 0 0 rfl rfl hin (z_d hL_labels_0 34 rfl) ?_
    refine z_let hF (fun u9 hu9 hF => ?_)
    refine lv_topE hu9 ?_
    refine lv_icmp_ge (tgt := 227) hx hb (z_d hL_labels_0 35 rfl) (by decide) (fun hc62 => ?_) (fun hc62 => ?_)
    · have hF := z_pos hc62 hF
      obtain rfl := Option.some.inj hF
      exact K1 _ _ ls hP hD hS (lv_sub hl [0, 1, 2, 3] rfl)
    · have hF := z_neg hc62 hF
      refine lv_aload_n hx hb (z_d hL_labels_0 36 rfl) rfl (lv_at hl 1 rfl) ?_
      refine lv_iload hx hb (z_d hL_labels_0 37 rfl) (lv_at hl 7 rfl) ?_
      refine z_bnd hF (fun q10 hq10 hF => ?_)
      refine z_ro_i (z_rS (As := [.ref ak, .int v.2.2.2]) (rest := []) hx hb hml hown hts vs_L_heads (c_L_heads l Z ak k v.2.2.2 _ hq10) rfl rfl ⟨Nat.le_of_ble_eq_true rfl, Nat.le_of_ble_eq_true rfl⟩ k_m_L_9 zPro_blind (z_prec hK (zP_c (zP_reg hP 1 rfl) zP_n)) rfl hl.1 (Nat.le_of_ble_eq_true rfl) (z_d hL_labels_0 38 rfl) ⟨Nat.le_of_ble_eq_true rfl, Nat.le_of_ble_eq_true rfl⟩) hS hP (fun H locs hP hS => ?_)
      refine lv_if_eq (tgt := 99) hx hb (z_d hL_labels_0 39 rfl) (by decide) (fun hc71 => ?_) (fun hc71 => ?_)
      · have hF := z_pos hc71 hF
        exact J99 v.1 v.2.1 v.2.2.1 v.2.2.2 hF _ _ ls hP hD hS (lv_sub hl [0, 1, 2, 3, 4, 5, 6, 7] rfl)
      · have hF := z_neg hc71 hF
        refine lv_aload_n hx hb (z_d hL_labels_0 40 rfl) rfl (lv_at hl 2 rfl) ?_
        refine lv_iload hx hb (z_d hL_labels_0 41 rfl) (lv_at hl 7 rfl) ?_
        refine z_ix hF (fun hin hF => ?_)
        refine va_iald (D := Z.1) (f := lb) hx hb hK.1 (zP_reg hP 2 rfl) 0 0 rfl rfl hin (z_d hL_labels_0 42 rfl) ?_
        refine z_let hF (fun u37 hu37 hF => ?_)
        refine lv_topE hu37 ?_
        refine lv_if_lt (tgt := 99) hx hb (z_d hL_labels_0 43 rfl) (by decide) (fun hc78 => ?_) (fun hc78 => ?_)
        · have hF := z_pos hc78 hF
          exact J99 v.1 v.2.1 v.2.2.1 v.2.2.2 hF _ _ ls hP hD hS (lv_sub hl [0, 1, 2, 3, 4, 5, 6, 7] rfl)
        · have hF := z_neg hc78 hF
          refine lv_aload_n hx hb (z_d hL_labels_0 44 rfl) rfl (lv_at hl 2 rfl) ?_
          refine lv_iload hx hb (z_d hL_labels_0 45 rfl) (lv_at hl 7 rfl) ?_
          refine z_ix hF (fun hin hF => ?_)
          refine va_iald (D := Z.1) (f := lb) hx hb hK.1 (zP_reg hP 2 rfl) 0 0 rfl rfl hin (z_d hL_labels_0 46 rfl) ?_
          refine z_let hF (fun u38 hu38 hF => ?_)
          refine lv_topE hu38 ?_
          refine lv_istore (lv' := [(5, .int u38), (0, .ref ag), (1, .ref ak), (2, .ref ab), (3, .ref ao), (4, .int x4), (6, .int v.2.2.1), (7, .int v.2.2.2)]) hx hb (z_d hL_labels_0 47 rfl) hl (by decide) rfl (fun ls hl => ?_)
          refine lv_iconst (v := 0) hx hb (z_d hL_labels_0 48 rfl) (by decide) ?_
          refine lv_istore (lv' := [(6, .int 0), (5, .int u38), (0, .ref ag), (1, .ref ak), (2, .ref ab), (3, .ref ao), (4, .int x4), (7, .int v.2.2.2)]) hx hb (z_d hL_labels_0 49 rfl) hl (by decide) rfl (fun ls hl => ?_)
          refine lv_aload_n hx hb (z_d hL_labels_0 50 rfl) rfl (lv_at hl 5 rfl) ?_
          refine lv_iload hx hb (z_d hL_labels_0 51 rfl) (lv_at hl 7 rfl) ?_
          refine lv_iload hx hb (z_d hL_labels_0 52 rfl) (lv_at hl 1 rfl) ?_
          refine z_ix hF (fun hin hF => ?_)
          refine z_let hF (fun g39 hg39 hF => ?_)
          refine z_iast (Z := Z) (L := [w_Arr Z.2.1 2 ag g, w_Arr Z.2.1 41 ak k, w_Arr Z.2.1 41 ab lb, w_Arr Z.2.1 41 ao v.1]) (L' := [w_Arr Z.2.1 2 ag g, w_Arr Z.2.1 41 ak k, w_Arr Z.2.1 41 ab lb, w_Arr Z.2.1 41 ao g39]) (f := v.1) hx hb hK hP hD hS 3 rfl hin hg39 rfl (z_d hL_labels_0 53 rfl) (fun H locs hP hD hS => ?_)
          refine lv_goto (tgt := 221) hx hb (z_d hL_labels_0 54 rfl) (by decide) ?_
          refine z_let hF (fun u40 hu40 hF => ?_)
          refine lv_iinc (v := u40) (lv' := [(7, .int u40), (6, .int 0), (5, .int u38), (0, .ref ag), (1, .ref ak), (2, .ref ab), (3, .ref ao), (4, .int x4)]) hx hb (z_d hL_labels_1 58 rfl) hl (k := 7) rfl (z_inc1 hu40) (by decide) rfl (fun ls hl => ?_)
          refine lv_goto (tgt := 57) hx hb (z_d hL_labels_1 59 rfl) (by decide) ?_
          exact ih _ _ hF _ _ ls hP hD hS (lv_sub hl [3, 4, 5, 6, 7, 2, 1, 0] rfl) K1
  refine lv_iconst (v := 0) hx hb (z_d hL_labels_0 0 rfl) (by decide) ?_
  refine lv_istore (lv' := [(4, .int 0), (0, .ref ag), (1, .ref ak), (2, .ref ab), (3, .ref ao)]) hx hb (z_d hL_labels_0 1 rfl) hl (by decide) rfl (fun ls hl => ?_)
  refine lv_iconst (v := 0) hx hb (z_d hL_labels_0 2 rfl) (by decide) ?_
  refine lv_istore (lv' := [(5, .int 0), (4, .int 0), (0, .ref ag), (1, .ref ak), (2, .ref ab), (3, .ref ao)]) hx hb (z_d hL_labels_0 3 rfl) hl (by decide) rfl (fun ls hl => ?_)
  refine z_bnd hF (fun q8 hq8 hF => ?_)
  refine L6 to _ _ _ hq8 _ _ ls hP hD hS (lv_sub hl [2, 3, 4, 5, 1, 0] rfl) (fun H locs ls hP hD hS hl => ?_)
  refine lv_iconst (v := 0) hx hb (z_d hL_labels_0 25 rfl) (by decide) ?_
  refine lv_istore (lv' := [(5, .int 0), (0, .ref ag), (1, .ref ak), (2, .ref ab), (3, .ref ao), (4, .int q8)]) hx hb (z_d hL_labels_0 26 rfl) hl (by decide) rfl (fun ls hl => ?_)
  refine lv_iconst (v := 0) hx hb (z_d hL_labels_0 27 rfl) (by decide) ?_
  refine lv_istore (lv' := [(6, .int 0), (5, .int 0), (0, .ref ag), (1, .ref ak), (2, .ref ab), (3, .ref ao), (4, .int q8)]) hx hb (z_d hL_labels_0 28 rfl) hl (by decide) rfl (fun ls hl => ?_)
  refine lv_iconst (v := 0) hx hb (z_d hL_labels_0 29 rfl) (by decide) ?_
  refine lv_istore (lv' := [(7, .int 0), (6, .int 0), (5, .int 0), (0, .ref ag), (1, .ref ak), (2, .ref ab), (3, .ref ao), (4, .int q8)]) hx hb (z_d hL_labels_0 30 rfl) hl (by decide) rfl (fun ls hl => ?_)
  refine z_bnd hF (fun q41 hq41 hF => ?_)
  refine L57 q8 _ _ _ hq41 _ _ ls hP hD hS (lv_sub hl [3, 4, 5, 6, 7, 2, 1, 0] rfl) (fun H locs ls hP hD hS hl => ?_)
  obtain rfl := Option.some.inj hF
  subst hQ
  subst hA
  exact W.vret hx hb hr (fun t ht hW => zq_mu (by rw [ht]; exact hP) (hS.F ht)) hS.2.2 (z_d hL_labels_2 0 rfl) hlocks
def rm_L_opens : Room := { frames := 0, cells := 0, slots := 0, locals := 0 }
set_option maxRecDepth 100000 in
set_option maxHeartbeats 4000000 in
theorem c_L_opens (l : Launch) (Z : zZ) (ao : Nat) (to : Rw) (p1 : Int32) (p2 : Int32) (p3 : Int32) (R : Rw) (hF : L_opens to p1 p2 p3 = some R) : zMU l yL_opens (zw yL_opens cL_opens 5 none) rm_L_opens Z [.ref ao, .int p1, .int p2, .int p3] (List.flatten [w_Arr Z.2.1 41 ao to]) (List.flatten [w_Arr Z.2.1 41 ao R]) none := by
  refine zMU_of (by decide) (Nat.le_of_ble_eq_true rfl) (fun p e s m below meth c hx hb hr hml hown hts hlocks hK A hA Q hQ ls hl hP hD hS => ?_)
  unfold L_opens at hF
  have hl : lv_has ls 5 [(0, .ref ao), (1, .int p1), (2, .int p2), (3, .int p3)] := hl
  have hown : s.vm.findClass RL = some m.cls := hown
  have L3 : ∀   (n : Nat) (v : Rw × Int32) (X : Rw) (hF : zloop (b_L_opens_3 p1 p2 p3 ) n v = some X) (H : Heap) (locs : List Loc) (ls : Array Slot) (hP : va_P Z.1 vwCl (List.flatten [w_Arr Z.2.1 41 ao v.1]) H) (hD : va_D A (List.flatten [w_Arr Z.2.1 41 ao v.1])) (hS : va_S A s.heap H locs) (hl : lv_has ls 5 [(0, .ref ao), (1, .int p1), (2, .int p2), (3, .int p3), (4, .int v.2)]) (K1 : ∀ (H : Heap) (locs : List Loc) (ls : Array Slot) (hP : va_P Z.1 vwCl (List.flatten [w_Arr Z.2.1 41 ao X]) H) (hD : va_D A (List.flatten [w_Arr Z.2.1 41 ao X])) (hS : va_S A s.heap H locs) (hl : lv_has ls 5 [(0, .ref ao), (1, .int p1), (2, .int p2), (3, .int p3)]), W p l e rm_L_opens s m ([.ref ao, .int p1, .int p2, .int p3] : List Value).toArray below meth c H locs 0 0 Q (F0 m 25 ls [])), W p l e rm_L_opens s m ([.ref ao, .int p1, .int p2, .int p3] : List Value).toArray below meth c H locs 0 0 Q (F0 m 3 ls []) := by
    skip
    refine z_loopE (fun rec ih v X hF H locs ls hP hD hS hl K1 => ?_)
    unfold b_L_opens_3 at hF
    refine lv_iload hx hb (z_d hL_opens_0 2 rfl) (lv_at hl 4 rfl) ?_
    refine lv_iload_n hx hb (z_d hL_opens_0 3 rfl) rfl (lv_at hl 2 rfl) ?_
    refine lv_icmp_le (tgt := 25) hx hb (z_d hL_opens_0 4 rfl) (by decide) (fun hc6 => ?_) (fun hc6 => ?_)
    · have hF := z_pos hc6 hF
      obtain rfl := Option.some.inj hF
      exact K1 _ _ ls hP hD hS (lv_sub hl [0, 1, 2, 3] rfl)
    · have hF := z_neg hc6 hF
      refine lv_aload_n hx hb (z_d hL_opens_0 5 rfl) rfl (lv_at hl 0 rfl) ?_
      refine lv_iload hx hb (z_d hL_opens_0 6 rfl) (lv_at hl 4 rfl) ?_
      refine lv_aload_n hx hb (z_d hL_opens_0 7 rfl) rfl (lv_at hl 0 rfl) ?_
      refine lv_iload hx hb (z_d hL_opens_0 8 rfl) (lv_at hl 4 rfl) ?_
      refine lv_iconst (v := 1) hx hb (z_d hL_opens_0 9 rfl) (by decide) ?_
      refine lv_isub hx hb (z_d hL_opens_0 10 rfl) ?_
      refine z_let hF (fun u1 hu1 hF => ?_)
      refine lv_topE hu1 ?_
      refine z_ix hF (fun hin hF => ?_)
      refine va_iald (D := Z.1) (f := v.1) hx hb hK.1 (zP_reg hP 0 rfl) 0 0 rfl rfl hin (z_d hL_opens_0 11 rfl) ?_
      refine z_let hF (fun u2 hu2 hF => ?_)
      refine lv_topE hu2 ?_
      refine z_ix hF (fun hin hF => ?_)
      refine z_let hF (fun g3 hg3 hF => ?_)
      refine z_iast (Z := Z) (L := [w_Arr Z.2.1 41 ao v.1]) (L' := [w_Arr Z.2.1 41 ao g3]) (f := v.1) hx hb hK hP hD hS 0 rfl hin hg3 rfl (z_d hL_opens_0 12 rfl) (fun H locs hP hD hS => ?_)
      refine z_let hF (fun u4 hu4 hF => ?_)
      refine lv_iinc (v := u4) (lv' := [(4, .int u4), (0, .ref ao), (1, .int p1), (2, .int p2), (3, .int p3)]) hx hb (z_d hL_opens_0 13 rfl) hl (k := 4) rfl (z_incm1 hu4) (by decide) rfl (fun ls hl => ?_)
      refine lv_goto (tgt := 3) hx hb (z_d hL_opens_0 14 rfl) (by decide) ?_
      exact ih _ _ hF _ _ ls hP hD hS (lv_sub hl [1, 2, 3, 4, 0] rfl) K1
  refine lv_iload_n hx hb (z_d hL_opens_0 0 rfl) rfl (lv_at hl 1 rfl) ?_
  refine lv_istore (lv' := [(4, .int p1), (0, .ref ao), (1, .int p1), (2, .int p2), (3, .int p3)]) hx hb (z_d hL_opens_0 1 rfl) hl (by decide) rfl (fun ls hl => ?_)
  refine z_bnd hF (fun q5 hq5 hF => ?_)
  refine L3  _ _ _ hq5 _ _ ls hP hD hS (lv_sub hl [1, 2, 3, 4, 0] rfl) (fun H locs ls hP hD hS hl => ?_)
  refine lv_aload_n hx hb (z_d hL_opens_0 15 rfl) rfl (lv_at hl 0 rfl) ?_
  refine lv_iload_n hx hb (z_d hL_opens_0 16 rfl) rfl (lv_at hl 2 rfl) ?_
  refine lv_iload_n hx hb (z_d hL_opens_0 17 rfl) rfl (lv_at hl 3 rfl) ?_
  refine z_ix hF (fun hin hF => ?_)
  refine z_let hF (fun g6 hg6 hF => ?_)
  refine z_iast (Z := Z) (L := [w_Arr Z.2.1 41 ao q5]) (L' := [w_Arr Z.2.1 41 ao g6]) (f := q5) hx hb hK hP hD hS 0 rfl hin hg6 rfl (z_d hL_opens_0 18 rfl) (fun H locs hP hD hS => ?_)
  obtain rfl := Option.some.inj hF
  subst hQ
  subst hA
  exact W.vret hx hb hr (fun t ht hW => zq_mu (by rw [ht]; exact hP) (hS.F ht)) hS.2.2 (z_d hL_opens_0 19 rfl) hlocks
def rm_L_closes : Room := { frames := 0, cells := 0, slots := 0, locals := 0 }
set_option maxRecDepth 100000 in
set_option maxHeartbeats 4000000 in
theorem c_L_closes (l : Launch) (Z : zZ) (ao : Nat) (to : Rw) (p1 : Int32) (p2 : Int32) (R : Rw) (hF : L_closes to p1 p2 = some R) : zMU l yL_closes (zw yL_closes cL_closes 4 none) rm_L_closes Z [.ref ao, .int p1, .int p2] (List.flatten [w_Arr Z.2.1 41 ao to]) (List.flatten [w_Arr Z.2.1 41 ao R]) none := by
  refine zMU_of (by decide) (Nat.le_of_ble_eq_true rfl) (fun p e s m below meth c hx hb hr hml hown hts hlocks hK A hA Q hQ ls hl hP hD hS => ?_)
  unfold L_closes at hF
  have hl : lv_has ls 4 [(0, .ref ao), (1, .int p1), (2, .int p2)] := hl
  have hown : s.vm.findClass RL = some m.cls := hown
  have L2 : ∀   (n : Nat) (v : Rw × Int32) (X : Rw) (hF : zloop (b_L_closes_2 p1 p2 ) n v = some X) (H : Heap) (locs : List Loc) (ls : Array Slot) (hP : va_P Z.1 vwCl (List.flatten [w_Arr Z.2.1 41 ao v.1]) H) (hD : va_D A (List.flatten [w_Arr Z.2.1 41 ao v.1])) (hS : va_S A s.heap H locs) (hl : lv_has ls 4 [(0, .ref ao), (1, .int p1), (2, .int p2), (3, .int v.2)]) (K1 : ∀ (H : Heap) (locs : List Loc) (ls : Array Slot) (hP : va_P Z.1 vwCl (List.flatten [w_Arr Z.2.1 41 ao X]) H) (hD : va_D A (List.flatten [w_Arr Z.2.1 41 ao X])) (hS : va_S A s.heap H locs) (hl : lv_has ls 4 [(0, .ref ao), (1, .int p1), (2, .int p2)]), W p l e rm_L_closes s m ([.ref ao, .int p1, .int p2] : List Value).toArray below meth c H locs 0 0 Q (F0 m 23 ls [])), W p l e rm_L_closes s m ([.ref ao, .int p1, .int p2] : List Value).toArray below meth c H locs 0 0 Q (F0 m 2 ls []) := by
    skip
    refine z_loopE (fun rec ih v X hF H locs ls hP hD hS hl K1 => ?_)
    unfold b_L_closes_2 at hF
    refine lv_iload_n hx hb (z_d hL_closes_0 2 rfl) rfl (lv_at hl 3 rfl) ?_
    refine lv_iconst (v := 1) hx hb (z_d hL_closes_0 3 rfl) (by decide) ?_
    refine lv_iadd hx hb (z_d hL_closes_0 4 rfl) ?_
    refine z_let hF (fun u1 hu1 hF => ?_)
    refine lv_topE hu1 ?_
    refine lv_iload_n hx hb (z_d hL_closes_0 5 rfl) rfl (lv_at hl 1 rfl) ?_
    refine lv_icmp_ge (tgt := 23) hx hb (z_d hL_closes_0 6 rfl) (by decide) (fun hc6 => ?_) (fun hc6 => ?_)
    · have hF := z_pos hc6 hF
      obtain rfl := Option.some.inj hF
      exact K1 _ _ ls hP hD hS (lv_sub hl [0, 1, 2] rfl)
    · have hF := z_neg hc6 hF
      refine lv_aload_n hx hb (z_d hL_closes_0 7 rfl) rfl (lv_at hl 0 rfl) ?_
      refine lv_iload_n hx hb (z_d hL_closes_0 8 rfl) rfl (lv_at hl 3 rfl) ?_
      refine lv_aload_n hx hb (z_d hL_closes_0 9 rfl) rfl (lv_at hl 0 rfl) ?_
      refine lv_iload_n hx hb (z_d hL_closes_0 10 rfl) rfl (lv_at hl 3 rfl) ?_
      refine lv_iconst (v := 1) hx hb (z_d hL_closes_0 11 rfl) (by decide) ?_
      refine lv_iadd hx hb (z_d hL_closes_0 12 rfl) ?_
      refine z_let hF (fun u2 hu2 hF => ?_)
      refine lv_topE hu2 ?_
      refine z_ix hF (fun hin hF => ?_)
      refine va_iald (D := Z.1) (f := v.1) hx hb hK.1 (zP_reg hP 0 rfl) 0 0 rfl rfl hin (z_d hL_closes_0 13 rfl) ?_
      refine z_let hF (fun u3 hu3 hF => ?_)
      refine lv_topE hu3 ?_
      refine z_ix hF (fun hin hF => ?_)
      refine z_let hF (fun g4 hg4 hF => ?_)
      refine z_iast (Z := Z) (L := [w_Arr Z.2.1 41 ao v.1]) (L' := [w_Arr Z.2.1 41 ao g4]) (f := v.1) hx hb hK hP hD hS 0 rfl hin hg4 rfl (z_d hL_closes_0 14 rfl) (fun H locs hP hD hS => ?_)
      refine z_let hF (fun u5 hu5 hF => ?_)
      refine lv_iinc (v := u5) (lv' := [(3, .int u5), (0, .ref ao), (1, .int p1), (2, .int p2)]) hx hb (z_d hL_closes_0 15 rfl) hl (k := 3) rfl (z_inc1 hu5) (by decide) rfl (fun ls hl => ?_)
      refine lv_goto (tgt := 2) hx hb (z_d hL_closes_0 16 rfl) (by decide) ?_
      exact ih _ _ hF _ _ ls hP hD hS (lv_sub hl [1, 2, 3, 0] rfl) K1
  refine lv_iload_n hx hb (z_d hL_closes_0 0 rfl) rfl (lv_at hl 2 rfl) ?_
  refine lv_istore_n (lv' := [(3, .int p2), (0, .ref ao), (1, .int p1), (2, .int p2)]) hx hb (z_d hL_closes_0 1 rfl) rfl hl (by decide) rfl (fun ls hl => ?_)
  refine z_bnd hF (fun q6 hq6 hF => ?_)
  refine L2  _ _ _ hq6 _ _ ls hP hD hS (lv_sub hl [1, 2, 3, 0] rfl) (fun H locs ls hP hD hS hl => ?_)
  obtain rfl := Option.some.inj hF
  subst hQ
  subst hA
  exact W.vret hx hb hr (fun t ht hW => zq_mu (by rw [ht]; exact hP) (hS.F ht)) hS.2.2 (z_d hL_closes_0 17 rfl) hlocks
def rm_L_blanks : Room := { frames := 0, cells := 0, slots := 0, locals := 0 }
set_option maxRecDepth 100000 in
set_option maxHeartbeats 4000000 in
theorem c_L_blanks (l : Launch) (Z : zZ) (ak : Nat) (k : Rw) (p1 : Int32) (R : Int32) (hF : L_blanks k p1 = some R) : zRO l yL_blanks (zw yL_blanks cL_blanks 2 (some .int)) rm_L_blanks Z [.ref ak, .int p1] (List.flatten [w_Arr Z.2.1 41 ak k]) (some (.int R)) := by
  refine zRO_of (by decide) (Nat.le_of_ble_eq_true rfl) (fun p e s m below meth c hx hb hr hml hown hts hlocks hK Q hQ ls hl hP hS => ?_)
  unfold L_blanks at hF
  have hl : lv_has ls 2 [(0, .ref ak), (1, .int p1)] := hl
  have hown : s.vm.findClass RL = some m.cls := hown
  refine lv_aload_n hx hb (z_d hL_blanks_0 0 rfl) rfl (lv_at hl 0 rfl) ?_
  refine lv_iload_n hx hb (z_d hL_blanks_0 1 rfl) rfl (lv_at hl 1 rfl) ?_
  refine z_ix hF (fun hin hF => ?_)
  refine va_iald (D := Z.1) (f := k) hx hb hK.1 (zP_reg hP 0 rfl) 0 0 rfl rfl hin (z_d hL_blanks_0 2 rfl) ?_
  refine z_let hF (fun u1 hu1 hF => ?_)
  refine lv_topE hu1 ?_
  refine lv_iconst (v := 5) hx hb (z_d hL_blanks_0 3 rfl) (by decide) ?_
  refine lv_irem hx hb (z_d hL_blanks_0 4 rfl) (by decide) ?_
  refine z_let hF (fun u2 hu2 hF => ?_)
  refine lv_topE hu2 ?_
  refine lv_if_ne (tgt := 12) hx hb (z_d hL_blanks_0 5 rfl) (by decide) (fun hc5 => ?_) (fun hc5 => ?_)
  · have hF := z_neg hc5 hF
    refine lv_aload_n hx hb (z_d hL_blanks_0 8 rfl) rfl (lv_at hl 0 rfl) ?_
    refine lv_iload_n hx hb (z_d hL_blanks_0 9 rfl) rfl (lv_at hl 1 rfl) ?_
    refine z_ix hF (fun hin hF => ?_)
    refine va_iald (D := Z.1) (f := k) hx hb hK.1 (zP_reg hP 0 rfl) 0 0 rfl rfl hin (z_d hL_blanks_0 10 rfl) ?_
    refine z_let hF (fun u3 hu3 hF => ?_)
    refine lv_topE hu3 ?_
    refine lv_iconst (v := 3) hx hb (z_d hL_blanks_0 11 rfl) (by decide) ?_
    refine lv_icmp_ge (tgt := 23) hx hb (z_d hL_blanks_0 12 rfl) (by decide) (fun hc16 => ?_) (fun hc16 => ?_)
    · have hF := z_pos hc16 hF
      refine lv_iconst (v := 0) hx hb (z_d hL_blanks_0 15 rfl) (by decide) ?_
      obtain rfl := Option.some.inj hF
      subst hQ
      exact W.iret hx hb hr (fun t ht hW => zq_ro (hS.F ht)) hS.2.2 (z_d hL_blanks_0 16 rfl) hlocks
    · have hF := z_neg hc16 hF
      refine lv_iconst (v := 1) hx hb (z_d hL_blanks_0 13 rfl) (by decide) ?_
      refine lv_goto (tgt := 24) hx hb (z_d hL_blanks_0 14 rfl) (by decide) ?_
      obtain rfl := Option.some.inj hF
      subst hQ
      exact W.iret hx hb hr (fun t ht hW => zq_ro (hS.F ht)) hS.2.2 (z_d hL_blanks_0 16 rfl) hlocks
  · have hF := z_pos hc5 hF
    refine lv_iconst (v := 2) hx hb (z_d hL_blanks_0 6 rfl) (by decide) ?_
    refine lv_goto (tgt := 24) hx hb (z_d hL_blanks_0 7 rfl) (by decide) ?_
    obtain rfl := Option.some.inj hF
    subst hQ
    exact W.iret hx hb hr (fun t ht hW => zq_ro (hS.F ht)) hS.2.2 (z_d hL_blanks_0 16 rfl) hlocks
def rm_L_splits : Room := { frames := 1, cells := 0, slots := 0, locals := 24 }
set_option maxRecDepth 100000 in
set_option maxHeartbeats 4000000 in
theorem c_L_splits (l : Launch) (Z : zZ) (ak : Nat) (al : Nat) (k : Rw) (ln : Rw) (p2 : Int32) (R : Int32) (hF : L_splits k ln p2 = some R) : zRO l yL_splits (zw yL_splits cL_splits 3 (some .boolean)) rm_L_splits Z [.ref ak, .ref al, .int p2] (List.flatten [w_Arr Z.2.1 41 ak k, w_Arr Z.2.1 41 al ln]) (some (.int R)) := by
  refine zRO_of (by decide) (Nat.le_of_ble_eq_true rfl) (fun p e s m below meth c hx hb hr hml hown hts hlocks hK Q hQ ls hl hP hS => ?_)
  unfold L_splits at hF
  have hl : lv_has ls 3 [(0, .ref ak), (1, .ref al), (2, .int p2)] := hl
  have hown : s.vm.findClass RL = some m.cls := hown
  have J14 : ∀ (hF : j_L_splits_14 k ln p2 = some R) (H : Heap) (locs : List Loc) (ls : Array Slot) (hP : va_P Z.1 vwCl (List.flatten [w_Arr Z.2.1 41 ak k, w_Arr Z.2.1 41 al ln]) H) (hS : va_S (fun _ => False) s.heap H locs) (hl : lv_has ls 3 [(0, .ref ak), (1, .ref al), (2, .int p2)]), W p l e rm_L_splits s m ([.ref ak, .ref al, .int p2] : List Value).toArray below meth c H locs 0 0 Q (F0 m 14 ls []) := by
    intro  hF H locs ls hP hS hl
    unfold j_L_splits_14 at hF
    refine lv_aload_n hx hb (z_d hL_splits_0 10 rfl) rfl (lv_at hl 0 rfl) ?_
    refine lv_aload_n hx hb (z_d hL_splits_0 11 rfl) rfl (lv_at hl 1 rfl) ?_
    refine lv_iload_n hx hb (z_d hL_splits_0 12 rfl) rfl (lv_at hl 2 rfl) ?_
    refine z_bnd hF (fun q2 hq2 hF => ?_)
    refine z_ro_i (z_rS (As := [.ref ak, .ref al, .int p2]) (rest := []) hx hb hml hown hts vs_L_lines (c_L_lines l Z ak al k ln p2 _ hq2) rfl rfl ⟨Nat.le_of_ble_eq_true rfl, Nat.le_of_ble_eq_true rfl⟩ k_m_L_23 zPro_blind (z_prec hK (zP_c (zP_reg hP 0 rfl) (zP_c (zP_reg hP 1 rfl) zP_n))) rfl hl.1 (Nat.le_of_ble_eq_true rfl) (z_d hL_splits_0 13 rfl) ⟨Nat.le_of_ble_eq_true rfl, Nat.le_of_ble_eq_true rfl⟩) hS hP (fun H locs hP hS => ?_)
    refine lv_iconst (v := 3) hx hb (z_d hL_splits_0 14 rfl) (by decide) ?_
    refine lv_icmp_le (tgt := 28) hx hb (z_d hL_splits_0 15 rfl) (by decide) (fun hc21 => ?_) (fun hc21 => ?_)
    · have hF := z_pos hc21 hF
      refine lv_iconst (v := 0) hx hb (z_d hL_splits_0 18 rfl) (by decide) ?_
      have hz9 : narrow .boolean (.int 0) = .int 0 := rfl
      obtain rfl := Option.some.inj hF
      subst hQ
      exact W.zret hx hb hr hz9 (fun t ht hW => zq_ro (hS.F ht)) hS.2.2 (z_d hL_splits_0 19 rfl) hlocks
    · have hF := z_neg hc21 hF
      refine lv_iconst (v := 1) hx hb (z_d hL_splits_0 16 rfl) (by decide) ?_
      refine lv_goto (tgt := 29) hx hb (z_d hL_splits_0 17 rfl) (by decide) ?_
      have hz9 : narrow .boolean (.int 1) = .int 1 := rfl
      obtain rfl := Option.some.inj hF
      subst hQ
      exact W.zret hx hb hr hz9 (fun t ht hW => zq_ro (hS.F ht)) hS.2.2 (z_d hL_splits_0 19 rfl) hlocks
  refine lv_aload_n hx hb (z_d hL_splits_0 0 rfl) rfl (lv_at hl 0 rfl) ?_
  refine lv_iload_n hx hb (z_d hL_splits_0 1 rfl) rfl (lv_at hl 2 rfl) ?_
  refine z_ix hF (fun hin hF => ?_)
  refine va_iald (D := Z.1) (f := k) hx hb hK.1 (zP_reg hP 0 rfl) 0 0 rfl rfl hin (z_d hL_splits_0 2 rfl) ?_
  refine z_let hF (fun u1 hu1 hF => ?_)
  refine lv_topE hu1 ?_
  refine lv_iconst (v := 1) hx hb (z_d hL_splits_0 3 rfl) (by decide) ?_
  refine lv_icmp_eq (tgt := 14) hx hb (z_d hL_splits_0 4 rfl) (by decide) (fun hc4 => ?_) (fun hc4 => ?_)
  · have hF := z_pos hc4 hF
    exact J14  hF _ _ ls hP hS (lv_sub hl [0, 1, 2] rfl)
  · have hF := z_neg hc4 hF
    refine lv_aload_n hx hb (z_d hL_splits_0 5 rfl) rfl (lv_at hl 0 rfl) ?_
    refine lv_iload_n hx hb (z_d hL_splits_0 6 rfl) rfl (lv_at hl 2 rfl) ?_
    refine z_ix hF (fun hin hF => ?_)
    refine va_iald (D := Z.1) (f := k) hx hb hK.1 (zP_reg hP 0 rfl) 0 0 rfl rfl hin (z_d hL_splits_0 7 rfl) ?_
    refine z_let hF (fun u3 hu3 hF => ?_)
    refine lv_topE hu3 ?_
    refine lv_iconst (v := 3) hx hb (z_d hL_splits_0 8 rfl) (by decide) ?_
    refine lv_icmp_ne (tgt := 28) hx hb (z_d hL_splits_0 9 rfl) (by decide) (fun hc11 => ?_) (fun hc11 => ?_)
    · have hF := z_neg hc11 hF
      refine lv_iconst (v := 0) hx hb (z_d hL_splits_0 18 rfl) (by decide) ?_
      have hz9 : narrow .boolean (.int 0) = .int 0 := rfl
      obtain rfl := Option.some.inj hF
      subst hQ
      exact W.zret hx hb hr hz9 (fun t ht hW => zq_ro (hS.F ht)) hS.2.2 (z_d hL_splits_0 19 rfl) hlocks
    · have hF := z_pos hc11 hF
      exact J14  hF _ _ ls hP hS (lv_sub hl [0, 1, 2] rfl)

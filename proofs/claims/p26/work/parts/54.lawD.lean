theorem vt_X6_find : zVt yX6_find cX6_find 5 (some .int) 3 := ⟨zG_at 744 (by decide +kernel) (by decide +kernel), zG_at 745 (by decide +kernel) (by decide +kernel), zG_at 26 (by decide +kernel) (by decide +kernel), zG_at 746 (by decide +kernel) (by decide +kernel), by decide +kernel⟩
theorem k_m_L_134 : Cond.methodLink RL 134 yL_valueOf ∈ zG := zG_at 732 (by decide +kernel) (by decide +kernel)
theorem k_m_L_137 : Cond.methodLink RL 137 yL_elementOf ∈ zG := zG_at 693 (by decide +kernel) (by decide +kernel)
theorem k_m_L_140 : Cond.methodLink RL 140 yL_sceneOf ∈ zG := zG_at 706 (by decide +kernel) (by decide +kernel)
theorem k_m_L_143 : Cond.methodLink RL 143 yX6_find ∈ zG := zG_at 743 (by decide +kernel) (by decide +kernel)
theorem k_m_L_147 : Cond.methodLink RL 147 yL_namesBy ∈ zG := zG_at 721 (by decide +kernel) (by decide +kernel)
theorem ht_L_valueOf : zHt yL_valueOf cL_valueOf 3 [(0, 5, 6, 103)] 2 := ⟨zG_at 733 (by decide +kernel) (by decide +kernel), zG_at 25 (by decide +kernel) (by decide +kernel), zG_at 734 (by decide +kernel) (by decide +kernel), by decide +kernel⟩
theorem ht_L_elementOf : zHt yL_elementOf cL_elementOf 4 [(0, 6, 7, 101), (0, 6, 11, 103)] 3 := ⟨zG_at 694 (by decide +kernel) (by decide +kernel), zG_at 25 (by decide +kernel) (by decide +kernel), zG_at 695 (by decide +kernel) (by decide +kernel), by decide +kernel⟩
theorem ht_L_sceneOf : zHt yL_sceneOf cL_sceneOf 4 [(0, 6, 7, 101), (0, 6, 11, 103)] 3 := ⟨zG_at 707 (by decide +kernel) (by decide +kernel), zG_at 25 (by decide +kernel) (by decide +kernel), zG_at 708 (by decide +kernel) (by decide +kernel), by decide +kernel⟩
theorem ht_L_namesBy : zHt yL_namesBy cL_namesBy 4 [(0, 6, 7, 103)] 3 := ⟨zG_at 722 (by decide +kernel) (by decide +kernel), zG_at 25 (by decide +kernel) (by decide +kernel), zG_at 723 (by decide +kernel) (by decide +kernel), by decide +kernel⟩
def rm_L_isSo : Room := { frames := 6, cells := 1, slots := 41, locals := 132 }
set_option maxRecDepth 100000 in
set_option maxHeartbeats 4000000 in
theorem c_L_isSo (l : Launch) (hlt : l.stackTraces = false) (Z : zZ) (sa : Nat → Nat) (sz : Nat) (mm : Nat) (u : t_SPa) (ag : Nat) (ak : Nat) (al : Nat) (ap : Nat) (ab : Nat) (am : Nat) (x : t_SP) (g : Rw) (k : Rw) (ln : Rw) (pr : Rw) (lb : Rw) (mk : Rw) (R : Int32) (hF : L_isSo x g k ln pr lb mk = some R) : zKM l yL_isSo (zw yL_isSo cL_isSo 20 (some .boolean)) rm_L_isSo Z sa sz [.ref mm, .ref ag, .ref ak, .ref al, .ref ap, .ref ab, .ref am] (List.flatten [w_SP Z mm u x, w_Arr Z.2.1 2 ag g, w_Arr Z.2.1 41 ak k, w_Arr Z.2.1 41 al ln, w_Arr Z.2.1 41 ap pr, w_Arr Z.2.1 41 ab lb, w_Arr Z.2.1 41 am mk]) (List.flatten [w_SP Z mm u x, w_Arr Z.2.1 2 ag g, w_Arr Z.2.1 41 ak k, w_Arr Z.2.1 41 al ln, w_Arr Z.2.1 41 ap pr, w_Arr Z.2.1 41 ab lb, w_Arr Z.2.1 41 am mk]) (some (.int R)) 1 41 := by
  refine zKM_of (by decide) (Nat.le_of_ble_eq_true rfl) (fun p e s m below meth c hx hb hr hml hown hts hlocks hK hT hN A hA hA0 Q hQ ls hl hP hD hS => ?_)
  rw [← hA] at hT
  unfold L_isSo at hF
  have hl : lv_has ls 20 [(0, .ref mm), (1, .ref ag), (2, .ref ak), (3, .ref al), (4, .ref ap), (5, .ref ab), (6, .ref am)] := hl
  have hown : s.vm.findClass RL = some m.cls := hown
  have L75 : ∀ (a91 : Nat) (ya91 : Rw) (n : Nat) (v : Int32 × Int32 × Int32 × Int32 × Int32 × Int32 × Int32) (X : Int32 × Int32 × Int32 × Int32) (hF : zloop (b_L_isSo_75 x g k ln pr lb mk ya91) n v = some X) (H : Heap) (locs : List Loc) (ls : Array Slot) (hP : va_P Z.1 vwCl (List.flatten [w_SP Z mm u x, w_Arr Z.2.1 2 ag g, w_Arr Z.2.1 41 ak k, w_Arr Z.2.1 41 al ln, w_Arr Z.2.1 41 ap pr, w_Arr Z.2.1 41 ab lb, w_Arr Z.2.1 41 am mk, w_Arr Z.2.1 41 a91 ya91]) H) (hD : va_D A (List.flatten [w_SP Z mm u x, w_Arr Z.2.1 2 ag g, w_Arr Z.2.1 41 ak k, w_Arr Z.2.1 41 al ln, w_Arr Z.2.1 41 ap pr, w_Arr Z.2.1 41 ab lb, w_Arr Z.2.1 41 am mk, w_Arr Z.2.1 41 a91 ya91])) (hS : va_S A s.heap H locs) (hl : lv_has ls 20 [(0, .ref mm), (1, .ref ag), (2, .ref ak), (3, .ref al), (4, .ref ap), (5, .ref ab), (6, .ref am), (7, .ref a91), (8, .int v.1), (9, .int v.2.1), (10, .int v.2.2.1), (11, .int v.2.2.2.1), (12, .int v.2.2.2.2.1), (13, .int v.2.2.2.2.2.1), (14, .int v.2.2.2.2.2.2)]) (K1 : ∀ (H : Heap) (locs : List Loc) (ls : Array Slot) (hP : va_P Z.1 vwCl (List.flatten [w_SP Z mm u x, w_Arr Z.2.1 2 ag g, w_Arr Z.2.1 41 ak k, w_Arr Z.2.1 41 al ln, w_Arr Z.2.1 41 ap pr, w_Arr Z.2.1 41 ab lb, w_Arr Z.2.1 41 am mk, w_Arr Z.2.1 41 a91 ya91]) H) (hD : va_D A (List.flatten [w_SP Z mm u x, w_Arr Z.2.1 2 ag g, w_Arr Z.2.1 41 ak k, w_Arr Z.2.1 41 al ln, w_Arr Z.2.1 41 ap pr, w_Arr Z.2.1 41 ab lb, w_Arr Z.2.1 41 am mk, w_Arr Z.2.1 41 a91 ya91])) (hS : va_S A s.heap H locs) (hl : lv_has ls 20 [(0, .ref mm), (1, .ref ag), (2, .ref ak), (3, .ref al), (4, .ref ap), (5, .ref ab), (6, .ref am), (8, .int X.1), (9, .int X.2.1), (10, .int X.2.2.1), (13, .int X.2.2.2)]), W p l e rm_L_isSo s m ([.ref mm, .ref ag, .ref ak, .ref al, .ref ap, .ref ab, .ref am] : List Value).toArray below meth c H locs 1 41 Q (F0 m 636 ls [])), W p l e rm_L_isSo s m ([.ref mm, .ref ag, .ref ak, .ref al, .ref ap, .ref ab, .ref am] : List Value).toArray below meth c H locs 1 41 Q (F0 m 75 ls []) := by
    intro a91 ya91
    refine z_loopE (fun rec ih v X hF H locs ls hP hD hS hl K1 => ?_)
    unfold b_L_isSo_75 at hF
    have L387 : ∀ (a91 : Nat) (ya91 : Rw) (x8 : Int32) (x9 : Int32) (x10 : Int32) (x11 : Int32) (x12 : Int32) (x14 : Int32) (n : Nat) (v : Int32 × Int32 × Int32) (X : Int32 × Int32) (hF : zloop (b_L_isSo_387 x g k ln pr lb mk ya91 x8 x9 x10 x11 x12 x14) n v = some X) (H : Heap) (locs : List Loc) (ls : Array Slot) (hP : va_P Z.1 vwCl (List.flatten [w_SP Z mm u x, w_Arr Z.2.1 2 ag g, w_Arr Z.2.1 41 ak k, w_Arr Z.2.1 41 al ln, w_Arr Z.2.1 41 ap pr, w_Arr Z.2.1 41 ab lb, w_Arr Z.2.1 41 am mk, w_Arr Z.2.1 41 a91 ya91]) H) (hD : va_D A (List.flatten [w_SP Z mm u x, w_Arr Z.2.1 2 ag g, w_Arr Z.2.1 41 ak k, w_Arr Z.2.1 41 al ln, w_Arr Z.2.1 41 ap pr, w_Arr Z.2.1 41 ab lb, w_Arr Z.2.1 41 am mk, w_Arr Z.2.1 41 a91 ya91])) (hS : va_S A s.heap H locs) (hl : lv_has ls 20 [(0, .ref mm), (1, .ref ag), (2, .ref ak), (3, .ref al), (4, .ref ap), (5, .ref ab), (6, .ref am), (7, .ref a91), (8, .int x8), (9, .int x9), (10, .int x10), (11, .int x11), (12, .int x12), (14, .int x14), (17, .int v.1), (18, .int v.2.1), (19, .int v.2.2)]) (K1 : ∀ (H : Heap) (locs : List Loc) (ls : Array Slot) (hP : va_P Z.1 vwCl (List.flatten [w_SP Z mm u x, w_Arr Z.2.1 2 ag g, w_Arr Z.2.1 41 ak k, w_Arr Z.2.1 41 al ln, w_Arr Z.2.1 41 ap pr, w_Arr Z.2.1 41 ab lb, w_Arr Z.2.1 41 am mk, w_Arr Z.2.1 41 a91 ya91]) H) (hD : va_D A (List.flatten [w_SP Z mm u x, w_Arr Z.2.1 2 ag g, w_Arr Z.2.1 41 ak k, w_Arr Z.2.1 41 al ln, w_Arr Z.2.1 41 ap pr, w_Arr Z.2.1 41 ab lb, w_Arr Z.2.1 41 am mk, w_Arr Z.2.1 41 a91 ya91])) (hS : va_S A s.heap H locs) (hl : lv_has ls 20 [(0, .ref mm), (1, .ref ag), (2, .ref ak), (3, .ref al), (4, .ref ap), (5, .ref ab), (6, .ref am), (7, .ref a91), (8, .int x8), (9, .int x9), (10, .int x10), (11, .int x11), (12, .int x12), (14, .int x14), (17, .int X.1), (18, .int X.2)]), W p l e rm_L_isSo s m ([.ref mm, .ref ag, .ref ak, .ref al, .ref ap, .ref ab, .ref am] : List Value).toArray below meth c H locs 1 41 Q (F0 m 425 ls [])), W p l e rm_L_isSo s m ([.ref mm, .ref ag, .ref ak, .ref al, .ref ap, .ref ab, .ref am] : List Value).toArray below meth c H locs 1 41 Q (F0 m 387 ls []) := by
      intro a91 ya91 x8 x9 x10 x11 x12 x14
      refine z_loopE (fun rec ih v X hF H locs ls hP hD hS hl K1 => ?_)
      unfold b_L_isSo_387 at hF
      refine lv_iload hx hb (z_d hL_isSo_3 31 rfl) (lv_at hl 16 rfl) ?_
      refine lv_aload_n hx hb (z_d hL_isSo_3 32 rfl) rfl (lv_at hl 1 rfl) ?_
      refine lv_iconst (v := 0) hx hb (z_d hL_isSo_3 33 rfl) (by decide) ?_
      refine z_ix hF (fun hin hF => ?_)
      refine va_iald (D := Z.1) (f := g) hx hb hK.1 (zP_reg hP 1 rfl) 0 0 rfl rfl hin (z_d hL_isSo_3 34 rfl) ?_
      refine z_let hF (fun u20 hu20 hF => ?_)
      refine lv_topE hu20 ?_
      refine lv_icmp_ge (tgt := 425) hx hb (z_d hL_isSo_3 35 rfl) (by decide) (fun hc392 => ?_) (fun hc392 => ?_)
      · have hF := z_pos hc392 hF
        obtain rfl := Option.some.inj hF
        exact K1 _ _ ls hP hD hS (lv_sub hl [0, 1, 2, 3, 4, 5, 6, 7, 8, 9, 10, 11, 12, 13, 14, 15] rfl)
      · have hF := z_neg hc392 hF
        refine lv_aload_n hx hb (z_d hL_isSo_3 36 rfl) rfl (lv_at hl 2 rfl) ?_
        refine lv_iload hx hb (z_d hL_isSo_3 37 rfl) (lv_at hl 16 rfl) ?_
        refine z_bnd hF (fun q21 hq21 hF => ?_)
        refine z_ro_i (z_rS (As := [.ref ak, .int v.2.2]) (rest := []) hx hb hml hown hts vs_L_heads (c_L_heads l Z ak k v.2.2 _ hq21) rfl rfl ⟨Nat.le_of_ble_eq_true rfl, Nat.le_of_ble_eq_true rfl⟩ k_m_L_9 zPro_blind (z_prec hK (zP_c (zP_reg hP 2 rfl) zP_n)) rfl hl.1 (Nat.le_of_ble_eq_true rfl) (z_d hL_isSo_3 38 rfl) ⟨Nat.le_of_ble_eq_true rfl, Nat.le_of_ble_eq_true rfl⟩) hS hP (fun H locs hP hS => ?_)
        refine lv_if_ne (tgt := 425) hx hb (z_d hL_isSo_3 39 rfl) (by decide) (fun hc401 => ?_) (fun hc401 => ?_)
        · have hF := z_neg hc401 hF
          obtain rfl := Option.some.inj hF
          exact K1 _ _ ls hP hD hS (lv_sub hl [0, 1, 2, 3, 4, 5, 6, 7, 8, 9, 10, 11, 12, 13, 14, 15] rfl)
        · have hF := z_pos hc401 hF
          refine z_let hF (fun u22 hu22 hF => ?_)
          refine lv_iinc (v := u22) (lv' := [(17, .int u22), (0, .ref mm), (1, .ref ag), (2, .ref ak), (3, .ref al), (4, .ref ap), (5, .ref ab), (6, .ref am), (7, .ref a91), (8, .int x8), (9, .int x9), (10, .int x10), (11, .int x11), (12, .int x12), (14, .int x14), (18, .int v.2.1), (19, .int v.2.2)]) hx hb (z_d hL_isSo_3 40 rfl) hl (k := 14) rfl (z_inc1 hu22) (by decide) rfl (fun ls hl => ?_)
          refine lv_iload hx hb (z_d hL_isSo_3 41 rfl) (lv_at hl 15 rfl) ?_
          refine lv_aload_n hx hb (z_d hL_isSo_3 42 rfl) rfl (lv_at hl 3 rfl) ?_
          refine lv_aload_n hx hb (z_d hL_isSo_3 43 rfl) rfl (lv_at hl 4 rfl) ?_
          refine lv_iload hx hb (z_d hL_isSo_3 44 rfl) (lv_at hl 16 rfl) ?_
          refine z_bnd hF (fun q23 hq23 hF => ?_)
          refine z_ro_i (z_rS (As := [.ref ak, .ref al, .int v.2.2]) (rest := [.int v.2.1]) hx hb hml hown hts vs_L_lines (c_L_lines l Z ak al k ln v.2.2 _ hq23) rfl rfl ⟨Nat.le_of_ble_eq_true rfl, Nat.le_of_ble_eq_true rfl⟩ k_m_L_23 zPro_blind (z_prec hK (zP_c (zP_reg hP 2 rfl) (zP_c (zP_reg hP 3 rfl) zP_n))) rfl hl.1 (Nat.le_of_ble_eq_true rfl) (z_d hL_isSo_3 45 rfl) ⟨Nat.le_of_ble_eq_true rfl, Nat.le_of_ble_eq_true rfl⟩) hS hP (fun H locs hP hS => ?_)
          refine lv_iadd hx hb (z_d hL_isSo_3 46 rfl) ?_
          refine z_let hF (fun u24 hu24 hF => ?_)
          refine lv_topE hu24 ?_
          refine lv_istore (lv' := [(18, .int u24), (17, .int u22), (0, .ref mm), (1, .ref ag), (2, .ref ak), (3, .ref al), (4, .ref ap), (5, .ref ab), (6, .ref am), (7, .ref a91), (8, .int x8), (9, .int x9), (10, .int x10), (11, .int x11), (12, .int x12), (14, .int x14), (19, .int v.2.2)]) hx hb (z_d hL_isSo_3 47 rfl) hl (by decide) rfl (fun ls hl => ?_)
          refine z_let hF (fun u25 hu25 hF => ?_)
          refine lv_iinc (v := u25) (lv' := [(19, .int u25), (18, .int u24), (17, .int u22), (0, .ref mm), (1, .ref ag), (2, .ref ak), (3, .ref al), (4, .ref ap), (5, .ref ab), (6, .ref am), (7, .ref a91), (8, .int x8), (9, .int x9), (10, .int x10), (11, .int x11), (12, .int x12), (14, .int x14)]) hx hb (z_d hL_isSo_3 48 rfl) hl (k := 16) rfl (z_inc1 hu25) (by decide) rfl (fun ls hl => ?_)
          refine lv_goto (tgt := 387) hx hb (z_d hL_isSo_3 49 rfl) (by decide) ?_
          exact ih _ _ hF _ _ ls hP hD hS (lv_sub hl [3, 4, 5, 6, 7, 8, 9, 10, 11, 12, 13, 14, 15, 16, 2, 1, 0] rfl) K1
    have J503_a91 : ∀  (x8 : Int32) (x9 : Int32) (x10 : Int32) (x11 : Int32) (x12 : Int32) (x14 : Int32) (x17 : Int32) (x18 : Int32) (z0 : Int32) (z1 : Int32) (hF : j_L_isSo_503_a91 x g k ln pr lb mk ya91 rec x8 x9 x10 x11 x12 x14 x17 x18 z0 z1 = some X) (H : Heap) (locs : List Loc) (ls : Array Slot) (hP : va_P Z.1 vwCl (List.flatten [w_SP Z mm u x, w_Arr Z.2.1 2 ag g, w_Arr Z.2.1 41 ak k, w_Arr Z.2.1 41 al ln, w_Arr Z.2.1 41 ap pr, w_Arr Z.2.1 41 ab lb, w_Arr Z.2.1 41 am mk, w_Arr Z.2.1 41 a91 ya91]) H) (hD : va_D A (List.flatten [w_SP Z mm u x, w_Arr Z.2.1 2 ag g, w_Arr Z.2.1 41 ak k, w_Arr Z.2.1 41 al ln, w_Arr Z.2.1 41 ap pr, w_Arr Z.2.1 41 ab lb, w_Arr Z.2.1 41 am mk, w_Arr Z.2.1 41 a91 ya91])) (hS : va_S A s.heap H locs) (hl : lv_has ls 20 [(0, .ref mm), (1, .ref ag), (2, .ref ak), (3, .ref al), (4, .ref ap), (5, .ref ab), (6, .ref am), (7, .ref a91), (8, .int x8), (9, .int x9), (10, .int x10), (11, .int x11), (12, .int x12), (14, .int x14), (17, .int x17), (18, .int x18)]), W p l e rm_L_isSo s m ([.ref mm, .ref ag, .ref ak, .ref al, .ref ap, .ref ab, .ref am] : List Value).toArray below meth c H locs 1 41 Q (F0 m 503 ls [.int z0, .int z1]) := by
      intro x8 x9 x10 x11 x12 x14 x17 x18 z0 z1 hF H locs ls hP hD hS hl
      unfold j_L_isSo_503_a91 at hF
      refine lv_icmp_ne (tgt := 627) hx hb (z_d hL_isSo_4 33 rfl) (by decide) (fun hc503 => ?_) (fun hc503 => ?_)
      · have hF := z_neg hc503 hF
        refine lv_iconst (v := 0) hx hb (z_d hL_isSo_5 43 rfl) (by decide) ?_
        refine lv_istore (lv' := [(13, .int 0), (0, .ref mm), (1, .ref ag), (2, .ref ak), (3, .ref al), (4, .ref ap), (5, .ref ab), (6, .ref am), (7, .ref a91), (8, .int x8), (9, .int x9), (10, .int x10), (11, .int x11), (12, .int x12), (14, .int x14), (17, .int x17), (18, .int x18)]) hx hb (z_d hL_isSo_5 44 rfl) hl (by decide) rfl (fun ls hl => ?_)
        refine z_let hF (fun u42 hu42 hF => ?_)
        refine lv_iinc (v := u42) (lv' := [(14, .int u42), (13, .int 0), (0, .ref mm), (1, .ref ag), (2, .ref ak), (3, .ref al), (4, .ref ap), (5, .ref ab), (6, .ref am), (7, .ref a91), (8, .int x8), (9, .int x9), (10, .int x10), (11, .int x11), (12, .int x12), (17, .int x17), (18, .int x18)]) hx hb (z_d hL_isSo_5 45 rfl) hl (k := 14) rfl (z_inc1 hu42) (by decide) rfl (fun ls hl => ?_)
        refine lv_goto (tgt := 75) hx hb (z_d hL_isSo_5 46 rfl) (by decide) ?_
        exact ih _ _ hF _ _ ls hP hD hS (lv_sub hl [2, 3, 4, 5, 6, 7, 8, 9, 10, 11, 12, 13, 14, 1, 0] rfl) K1
      · have hF := z_pos hc503 hF
        refine lv_aload_n hx hb (z_d hL_isSo_4 34 rfl) rfl (lv_at hl 0 rfl) ?_
        refine lv_iload hx hb (z_d hL_isSo_4 35 rfl) (lv_at hl 11 rfl) ?_
        refine lv_iconst (v := 4) hx hb (z_d hL_isSo_4 36 rfl) (by decide) ?_
        refine z_bnd hF (fun q43 hq43 hF => ?_)
        refine z_ro_i (z_rLR (As := [.ref mm, .int x11, .int 4]) (rest := []) hx hb hml hown hts ht_L_sceneOf (c_N_sceneOf l Z mm u x x11 4 _ hq43) rfl rfl ⟨Nat.le_of_ble_eq_true rfl, Nat.le_of_ble_eq_true rfl⟩ k_m_L_140 hK (zP_c (zP_reg hP 0 rfl) zP_n) rfl hl.1 (Nat.le_of_ble_eq_true rfl) (z_d hL_isSo_4 37 rfl) ⟨Nat.le_of_ble_eq_true rfl, Nat.le_of_ble_eq_true rfl⟩) hS hP (fun H locs hP hS => ?_)
        refine lv_aload_n hx hb (z_d hL_isSo_4 38 rfl) rfl (lv_at hl 2 rfl) ?_
        refine lv_iload hx hb (z_d hL_isSo_4 39 rfl) (lv_at hl 13 rfl) ?_
        refine z_ix hF (fun hin hF => ?_)
        refine va_iald (D := Z.1) (f := k) hx hb hK.1 (zP_reg hP 2 rfl) 0 0 rfl rfl hin (z_d hL_isSo_4 40 rfl) ?_
        refine z_let hF (fun u44 hu44 hF => ?_)
        refine lv_topE hu44 ?_
        refine lv_iconst (v := 5) hx hb (z_d hL_isSo_4 41 rfl) (by decide) ?_
        refine lv_idiv hx hb (z_d hL_isSo_4 42 rfl) (by decide) ?_
        refine z_let hF (fun u45 hu45 hF => ?_)
        refine lv_topE hu45 ?_
        refine lv_icmp_ne (tgt := 627) hx hb (z_d hL_isSo_4 43 rfl) (by decide) (fun hc519 => ?_) (fun hc519 => ?_)
        · have hF := z_neg hc519 hF
          refine lv_iconst (v := 0) hx hb (z_d hL_isSo_5 43 rfl) (by decide) ?_
          refine lv_istore (lv' := [(13, .int 0), (0, .ref mm), (1, .ref ag), (2, .ref ak), (3, .ref al), (4, .ref ap), (5, .ref ab), (6, .ref am), (7, .ref a91), (8, .int x8), (9, .int x9), (10, .int x10), (11, .int x11), (12, .int x12), (14, .int x14), (17, .int x17), (18, .int x18)]) hx hb (z_d hL_isSo_5 44 rfl) hl (by decide) rfl (fun ls hl => ?_)
          refine z_let hF (fun u46 hu46 hF => ?_)
          refine lv_iinc (v := u46) (lv' := [(14, .int u46), (13, .int 0), (0, .ref mm), (1, .ref ag), (2, .ref ak), (3, .ref al), (4, .ref ap), (5, .ref ab), (6, .ref am), (7, .ref a91), (8, .int x8), (9, .int x9), (10, .int x10), (11, .int x11), (12, .int x12), (17, .int x17), (18, .int x18)]) hx hb (z_d hL_isSo_5 45 rfl) hl (k := 14) rfl (z_inc1 hu46) (by decide) rfl (fun ls hl => ?_)
          refine lv_goto (tgt := 75) hx hb (z_d hL_isSo_5 46 rfl) (by decide) ?_
          exact ih _ _ hF _ _ ls hP hD hS (lv_sub hl [2, 3, 4, 5, 6, 7, 8, 9, 10, 11, 12, 13, 14, 1, 0] rfl) K1
        · have hF := z_pos hc519 hF
          refine lv_aload_n hx hb (z_d hL_isSo_4 44 rfl) rfl (lv_at hl 0 rfl) ?_
          refine lv_iload hx hb (z_d hL_isSo_4 45 rfl) (lv_at hl 11 rfl) ?_
          refine lv_iconst (v := 5) hx hb (z_d hL_isSo_4 46 rfl) (by decide) ?_
          refine z_bnd hF (fun q47 hq47 hF => ?_)
          refine z_ro_i (z_rLR (As := [.ref mm, .int x11, .int 5]) (rest := []) hx hb hml hown hts ht_L_sceneOf (c_N_sceneOf l Z mm u x x11 5 _ hq47) rfl rfl ⟨Nat.le_of_ble_eq_true rfl, Nat.le_of_ble_eq_true rfl⟩ k_m_L_140 hK (zP_c (zP_reg hP 0 rfl) zP_n) rfl hl.1 (Nat.le_of_ble_eq_true rfl) (z_d hL_isSo_4 47 rfl) ⟨Nat.le_of_ble_eq_true rfl, Nat.le_of_ble_eq_true rfl⟩) hS hP (fun H locs hP hS => ?_)
          refine lv_iload hx hb (z_d hL_isSo_4 48 rfl) (lv_at hl 13 rfl) ?_
          refine lv_icmp_ne (tgt := 627) hx hb (z_d hL_isSo_4 49 rfl) (by decide) (fun hc531 => ?_) (fun hc531 => ?_)
          · have hF := z_neg hc531 hF
            refine lv_iconst (v := 0) hx hb (z_d hL_isSo_5 43 rfl) (by decide) ?_
            refine lv_istore (lv' := [(13, .int 0), (0, .ref mm), (1, .ref ag), (2, .ref ak), (3, .ref al), (4, .ref ap), (5, .ref ab), (6, .ref am), (7, .ref a91), (8, .int x8), (9, .int x9), (10, .int x10), (11, .int x11), (12, .int x12), (14, .int x14), (17, .int x17), (18, .int x18)]) hx hb (z_d hL_isSo_5 44 rfl) hl (by decide) rfl (fun ls hl => ?_)
            refine z_let hF (fun u48 hu48 hF => ?_)
            refine lv_iinc (v := u48) (lv' := [(14, .int u48), (13, .int 0), (0, .ref mm), (1, .ref ag), (2, .ref ak), (3, .ref al), (4, .ref ap), (5, .ref ab), (6, .ref am), (7, .ref a91), (8, .int x8), (9, .int x9), (10, .int x10), (11, .int x11), (12, .int x12), (17, .int x17), (18, .int x18)]) hx hb (z_d hL_isSo_5 45 rfl) hl (k := 14) rfl (z_inc1 hu48) (by decide) rfl (fun ls hl => ?_)
            refine lv_goto (tgt := 75) hx hb (z_d hL_isSo_5 46 rfl) (by decide) ?_
            exact ih _ _ hF _ _ ls hP hD hS (lv_sub hl [2, 3, 4, 5, 6, 7, 8, 9, 10, 11, 12, 13, 14, 1, 0] rfl) K1
          · have hF := z_pos hc531 hF
            refine lv_aload_n hx hb (z_d hL_isSo_4 50 rfl) rfl (lv_at hl 0 rfl) ?_
            refine lv_iload hx hb (z_d hL_isSo_4 51 rfl) (lv_at hl 11 rfl) ?_
            refine lv_bipush (v := 6) hx hb (z_d hL_isSo_4 52 rfl) (by decide) ?_
            refine z_bnd hF (fun q49 hq49 hF => ?_)
            refine z_ro_i (z_rLR (As := [.ref mm, .int x11, .int 6]) (rest := []) hx hb hml hown hts ht_L_sceneOf (c_N_sceneOf l Z mm u x x11 6 _ hq49) rfl rfl ⟨Nat.le_of_ble_eq_true rfl, Nat.le_of_ble_eq_true rfl⟩ k_m_L_140 hK (zP_c (zP_reg hP 0 rfl) zP_n) rfl hl.1 (Nat.le_of_ble_eq_true rfl) (z_d hL_isSo_4 53 rfl) ⟨Nat.le_of_ble_eq_true rfl, Nat.le_of_ble_eq_true rfl⟩) hS hP (fun H locs hP hS => ?_)
            refine lv_iload hx hb (z_d hL_isSo_4 54 rfl) (lv_at hl 14 rfl) ?_
            refine lv_icmp_ne (tgt := 627) hx hb (z_d hL_isSo_4 55 rfl) (by decide) (fun hc544 => ?_) (fun hc544 => ?_)
            · have hF := z_neg hc544 hF
              refine lv_iconst (v := 0) hx hb (z_d hL_isSo_5 43 rfl) (by decide) ?_
              refine lv_istore (lv' := [(13, .int 0), (0, .ref mm), (1, .ref ag), (2, .ref ak), (3, .ref al), (4, .ref ap), (5, .ref ab), (6, .ref am), (7, .ref a91), (8, .int x8), (9, .int x9), (10, .int x10), (11, .int x11), (12, .int x12), (14, .int x14), (17, .int x17), (18, .int x18)]) hx hb (z_d hL_isSo_5 44 rfl) hl (by decide) rfl (fun ls hl => ?_)
              refine z_let hF (fun u50 hu50 hF => ?_)
              refine lv_iinc (v := u50) (lv' := [(14, .int u50), (13, .int 0), (0, .ref mm), (1, .ref ag), (2, .ref ak), (3, .ref al), (4, .ref ap), (5, .ref ab), (6, .ref am), (7, .ref a91), (8, .int x8), (9, .int x9), (10, .int x10), (11, .int x11), (12, .int x12), (17, .int x17), (18, .int x18)]) hx hb (z_d hL_isSo_5 45 rfl) hl (k := 14) rfl (z_inc1 hu50) (by decide) rfl (fun ls hl => ?_)
              refine lv_goto (tgt := 75) hx hb (z_d hL_isSo_5 46 rfl) (by decide) ?_
              exact ih _ _ hF _ _ ls hP hD hS (lv_sub hl [2, 3, 4, 5, 6, 7, 8, 9, 10, 11, 12, 13, 14, 1, 0] rfl) K1
            · have hF := z_pos hc544 hF
              refine lv_aload_n hx hb (z_d hL_isSo_4 56 rfl) rfl (lv_at hl 0 rfl) ?_
              refine lv_iload hx hb (z_d hL_isSo_4 57 rfl) (lv_at hl 11 rfl) ?_
              refine lv_bipush (v := 7) hx hb (z_d hL_isSo_4 58 rfl) (by decide) ?_
              refine z_bnd hF (fun q51 hq51 hF => ?_)
              refine z_ro_i (z_rLR (As := [.ref mm, .int x11, .int 7]) (rest := []) hx hb hml hown hts ht_L_sceneOf (c_N_sceneOf l Z mm u x x11 7 _ hq51) rfl rfl ⟨Nat.le_of_ble_eq_true rfl, Nat.le_of_ble_eq_true rfl⟩ k_m_L_140 hK (zP_c (zP_reg hP 0 rfl) zP_n) rfl hl.1 (Nat.le_of_ble_eq_true rfl) (z_d hL_isSo_4 59 rfl) ⟨Nat.le_of_ble_eq_true rfl, Nat.le_of_ble_eq_true rfl⟩) hS hP (fun H locs hP hS => ?_)
              refine lv_iload hx hb (z_d hL_isSo_5 0 rfl) (lv_at hl 15 rfl) ?_
              refine lv_icmp_ne (tgt := 627) hx hb (z_d hL_isSo_5 1 rfl) (by decide) (fun hc557 => ?_) (fun hc557 => ?_)
              · have hF := z_neg hc557 hF
                refine lv_iconst (v := 0) hx hb (z_d hL_isSo_5 43 rfl) (by decide) ?_
                refine lv_istore (lv' := [(13, .int 0), (0, .ref mm), (1, .ref ag), (2, .ref ak), (3, .ref al), (4, .ref ap), (5, .ref ab), (6, .ref am), (7, .ref a91), (8, .int x8), (9, .int x9), (10, .int x10), (11, .int x11), (12, .int x12), (14, .int x14), (17, .int x17), (18, .int x18)]) hx hb (z_d hL_isSo_5 44 rfl) hl (by decide) rfl (fun ls hl => ?_)
                refine z_let hF (fun u52 hu52 hF => ?_)
                refine lv_iinc (v := u52) (lv' := [(14, .int u52), (13, .int 0), (0, .ref mm), (1, .ref ag), (2, .ref ak), (3, .ref al), (4, .ref ap), (5, .ref ab), (6, .ref am), (7, .ref a91), (8, .int x8), (9, .int x9), (10, .int x10), (11, .int x11), (12, .int x12), (17, .int x17), (18, .int x18)]) hx hb (z_d hL_isSo_5 45 rfl) hl (k := 14) rfl (z_inc1 hu52) (by decide) rfl (fun ls hl => ?_)
                refine lv_goto (tgt := 75) hx hb (z_d hL_isSo_5 46 rfl) (by decide) ?_
                exact ih _ _ hF _ _ ls hP hD hS (lv_sub hl [2, 3, 4, 5, 6, 7, 8, 9, 10, 11, 12, 13, 14, 1, 0] rfl) K1
              · have hF := z_pos hc557 hF
                refine lv_aload_n hx hb (z_d hL_isSo_5 2 rfl) rfl (lv_at hl 0 rfl) ?_
                refine lv_iload hx hb (z_d hL_isSo_5 3 rfl) (lv_at hl 11 rfl) ?_
                refine lv_bipush (v := 8) hx hb (z_d hL_isSo_5 4 rfl) (by decide) ?_
                refine z_bnd hF (fun q53 hq53 hF => ?_)
                refine z_ro_i (z_rLR (As := [.ref mm, .int x11, .int 8]) (rest := []) hx hb hml hown hts ht_L_sceneOf (c_N_sceneOf l Z mm u x x11 8 _ hq53) rfl rfl ⟨Nat.le_of_ble_eq_true rfl, Nat.le_of_ble_eq_true rfl⟩ k_m_L_140 hK (zP_c (zP_reg hP 0 rfl) zP_n) rfl hl.1 (Nat.le_of_ble_eq_true rfl) (z_d hL_isSo_5 5 rfl) ⟨Nat.le_of_ble_eq_true rfl, Nat.le_of_ble_eq_true rfl⟩) hS hP (fun H locs hP hS => ?_)
                refine lv_bipush (v := 8) hx hb (z_d hL_isSo_5 6 rfl) (by decide) ?_
                refine lv_iload hx hb (z_d hL_isSo_5 7 rfl) (lv_at hl 15 rfl) ?_
                refine lv_imul hx hb (z_d hL_isSo_5 8 rfl) ?_
                refine z_let hF (fun u54 hu54 hF => ?_)
                refine lv_topE hu54 ?_
                refine lv_aload_n hx hb (z_d hL_isSo_5 9 rfl) rfl (lv_at hl 1 rfl) ?_
                refine lv_iconst (v := 1) hx hb (z_d hL_isSo_5 10 rfl) (by decide) ?_
                refine z_ix hF (fun hin hF => ?_)
                refine va_iald (D := Z.1) (f := g) hx hb hK.1 (zP_reg hP 1 rfl) 0 0 rfl rfl hin (z_d hL_isSo_5 11 rfl) ?_
                refine z_let hF (fun u55 hu55 hF => ?_)
                refine lv_topE hu55 ?_
                refine lv_iadd hx hb (z_d hL_isSo_5 12 rfl) ?_
                refine z_let hF (fun u56 hu56 hF => ?_)
                refine lv_topE hu56 ?_
                refine lv_iconst (v := 1) hx hb (z_d hL_isSo_5 13 rfl) (by decide) ?_
                refine lv_isub hx hb (z_d hL_isSo_5 14 rfl) ?_
                refine z_let hF (fun u57 hu57 hF => ?_)
                refine lv_topE hu57 ?_
                refine lv_aload_n hx hb (z_d hL_isSo_5 15 rfl) rfl (lv_at hl 1 rfl) ?_
                refine lv_iconst (v := 1) hx hb (z_d hL_isSo_5 16 rfl) (by decide) ?_
                refine z_ix hF (fun hin hF => ?_)
                refine va_iald (D := Z.1) (f := g) hx hb hK.1 (zP_reg hP 1 rfl) 0 0 rfl rfl hin (z_d hL_isSo_5 17 rfl) ?_
                refine z_let hF (fun u58 hu58 hF => ?_)
                refine lv_topE hu58 ?_
                refine z_dv hF (fun hne hF => ?_)
                refine lv_idiv hx hb (z_d hL_isSo_5 18 rfl) hne ?_
                refine z_let hF (fun u59 hu59 hF => ?_)
                refine lv_topE hu59 ?_
                refine lv_icmp_ne (tgt := 627) hx hb (z_d hL_isSo_5 19 rfl) (by decide) (fun hc583 => ?_) (fun hc583 => ?_)
                · have hF := z_neg hc583 hF
                  refine lv_iconst (v := 0) hx hb (z_d hL_isSo_5 43 rfl) (by decide) ?_
                  refine lv_istore (lv' := [(13, .int 0), (0, .ref mm), (1, .ref ag), (2, .ref ak), (3, .ref al), (4, .ref ap), (5, .ref ab), (6, .ref am), (7, .ref a91), (8, .int x8), (9, .int x9), (10, .int x10), (11, .int x11), (12, .int x12), (14, .int x14), (17, .int x17), (18, .int x18)]) hx hb (z_d hL_isSo_5 44 rfl) hl (by decide) rfl (fun ls hl => ?_)
                  refine z_let hF (fun u60 hu60 hF => ?_)
                  refine lv_iinc (v := u60) (lv' := [(14, .int u60), (13, .int 0), (0, .ref mm), (1, .ref ag), (2, .ref ak), (3, .ref al), (4, .ref ap), (5, .ref ab), (6, .ref am), (7, .ref a91), (8, .int x8), (9, .int x9), (10, .int x10), (11, .int x11), (12, .int x12), (17, .int x17), (18, .int x18)]) hx hb (z_d hL_isSo_5 45 rfl) hl (k := 14) rfl (z_inc1 hu60) (by decide) rfl (fun ls hl => ?_)
                  refine lv_goto (tgt := 75) hx hb (z_d hL_isSo_5 46 rfl) (by decide) ?_
                  exact ih _ _ hF _ _ ls hP hD hS (lv_sub hl [2, 3, 4, 5, 6, 7, 8, 9, 10, 11, 12, 13, 14, 1, 0] rfl) K1
                · have hF := z_pos hc583 hF
                  refine lv_aload_n hx hb (z_d hL_isSo_5 20 rfl) rfl (lv_at hl 0 rfl) ?_
                  refine lv_aload hx hb (z_d hL_isSo_5 21 rfl) (lv_at hl 7 rfl) ?_
                  refine lv_iload hx hb (z_d hL_isSo_5 22 rfl) (lv_at hl 13 rfl) ?_
                  refine z_ix hF (fun hin hF => ?_)
                  refine va_iald (D := Z.1) (f := ya91) hx hb hK.1 (zP_reg hP 7 rfl) 0 0 rfl rfl hin (z_d hL_isSo_5 23 rfl) ?_
                  refine z_let hF (fun u61 hu61 hF => ?_)
                  refine lv_topE hu61 ?_
                  refine lv_sipush (v := 10000) hx hb (z_d hL_isSo_5 24 rfl) (by decide) ?_
                  refine lv_idiv hx hb (z_d hL_isSo_5 25 rfl) (by decide) ?_
                  refine z_let hF (fun u62 hu62 hF => ?_)
                  refine lv_topE hu62 ?_
                  refine lv_aload hx hb (z_d hL_isSo_5 26 rfl) (lv_at hl 7 rfl) ?_
                  refine lv_iload hx hb (z_d hL_isSo_5 27 rfl) (lv_at hl 13 rfl) ?_
                  refine z_ix hF (fun hin hF => ?_)
                  refine va_iald (D := Z.1) (f := ya91) hx hb hK.1 (zP_reg hP 7 rfl) 0 0 rfl rfl hin (z_d hL_isSo_5 28 rfl) ?_
                  refine z_let hF (fun u63 hu63 hF => ?_)
                  refine lv_topE hu63 ?_
                  refine lv_bipush (v := 100) hx hb (z_d hL_isSo_5 29 rfl) (by decide) ?_
                  refine lv_idiv hx hb (z_d hL_isSo_5 30 rfl) (by decide) ?_
                  refine z_let hF (fun u64 hu64 hF => ?_)
                  refine lv_topE hu64 ?_
                  refine lv_bipush (v := 100) hx hb (z_d hL_isSo_5 31 rfl) (by decide) ?_
                  refine lv_irem hx hb (z_d hL_isSo_5 32 rfl) (by decide) ?_
                  refine z_let hF (fun u65 hu65 hF => ?_)
                  refine lv_topE hu65 ?_
                  refine lv_aload hx hb (z_d hL_isSo_5 33 rfl) (lv_at hl 7 rfl) ?_
                  refine lv_iload hx hb (z_d hL_isSo_5 34 rfl) (lv_at hl 13 rfl) ?_
                  refine z_ix hF (fun hin hF => ?_)
                  refine va_iald (D := Z.1) (f := ya91) hx hb hK.1 (zP_reg hP 7 rfl) 0 0 rfl rfl hin (z_d hL_isSo_5 35 rfl) ?_
                  refine z_let hF (fun u66 hu66 hF => ?_)
                  refine lv_topE hu66 ?_
                  refine lv_bipush (v := 100) hx hb (z_d hL_isSo_5 36 rfl) (by decide) ?_
                  refine lv_irem hx hb (z_d hL_isSo_5 37 rfl) (by decide) ?_
                  refine z_let hF (fun u67 hu67 hF => ?_)
                  refine lv_topE hu67 ?_
                  refine z_bnd hF (fun q68 hq68 hF => ?_)
                  refine z_ro_i (z_rV (As := [.int u62, .int u65, .int u67]) (rest := []) hx hb hml hown hts vt_X6_find (c_P_find l Z mm u x u62 u65 u67 _ hq68) rfl rfl ⟨Nat.le_of_ble_eq_true rfl, Nat.le_of_ble_eq_true rfl⟩ k_m_L_143 zPro_blind (z_recv (q := (RX6, TX6, 9)) (ci := 6) (q0 := 0) hK (zP_reg hP 0 rfl) rfl rfl) (z_prec hK (zP_c (zP_reg hP 0 rfl) zP_n)) rfl hl.1 (Nat.le_of_ble_eq_true rfl) (z_d hL_isSo_5 38 rfl) ⟨Nat.le_of_ble_eq_true rfl, Nat.le_of_ble_eq_true rfl⟩) hS hP (fun H locs hP hS => ?_)
                  refine lv_iload hx hb (z_d hL_isSo_5 39 rfl) (lv_at hl 11 rfl) ?_
                  refine lv_icmp_ne (tgt := 627) hx hb (z_d hL_isSo_5 40 rfl) (by decide) (fun hc620 => ?_) (fun hc620 => ?_)
                  · have hF := z_neg hc620 hF
                    refine lv_iconst (v := 0) hx hb (z_d hL_isSo_5 43 rfl) (by decide) ?_
                    refine lv_istore (lv' := [(13, .int 0), (0, .ref mm), (1, .ref ag), (2, .ref ak), (3, .ref al), (4, .ref ap), (5, .ref ab), (6, .ref am), (7, .ref a91), (8, .int x8), (9, .int x9), (10, .int x10), (11, .int x11), (12, .int x12), (14, .int x14), (17, .int x17), (18, .int x18)]) hx hb (z_d hL_isSo_5 44 rfl) hl (by decide) rfl (fun ls hl => ?_)
                    refine z_let hF (fun u69 hu69 hF => ?_)
                    refine lv_iinc (v := u69) (lv' := [(14, .int u69), (13, .int 0), (0, .ref mm), (1, .ref ag), (2, .ref ak), (3, .ref al), (4, .ref ap), (5, .ref ab), (6, .ref am), (7, .ref a91), (8, .int x8), (9, .int x9), (10, .int x10), (11, .int x11), (12, .int x12), (17, .int x17), (18, .int x18)]) hx hb (z_d hL_isSo_5 45 rfl) hl (k := 14) rfl (z_inc1 hu69) (by decide) rfl (fun ls hl => ?_)
                    refine lv_goto (tgt := 75) hx hb (z_d hL_isSo_5 46 rfl) (by decide) ?_
                    exact ih _ _ hF _ _ ls hP hD hS (lv_sub hl [2, 3, 4, 5, 6, 7, 8, 9, 10, 11, 12, 13, 14, 1, 0] rfl) K1
                  · have hF := z_pos hc620 hF
                    refine lv_iconst (v := 1) hx hb (z_d hL_isSo_5 41 rfl) (by decide) ?_
                    refine lv_goto (tgt := 628) hx hb (z_d hL_isSo_5 42 rfl) (by decide) ?_
                    refine lv_istore (lv' := [(13, .int 1), (0, .ref mm), (1, .ref ag), (2, .ref ak), (3, .ref al), (4, .ref ap), (5, .ref ab), (6, .ref am), (7, .ref a91), (8, .int x8), (9, .int x9), (10, .int x10), (11, .int x11), (12, .int x12), (14, .int x14), (17, .int x17), (18, .int x18)]) hx hb (z_d hL_isSo_5 44 rfl) hl (by decide) rfl (fun ls hl => ?_)
                    refine z_let hF (fun u70 hu70 hF => ?_)
                    refine lv_iinc (v := u70) (lv' := [(14, .int u70), (13, .int 1), (0, .ref mm), (1, .ref ag), (2, .ref ak), (3, .ref al), (4, .ref ap), (5, .ref ab), (6, .ref am), (7, .ref a91), (8, .int x8), (9, .int x9), (10, .int x10), (11, .int x11), (12, .int x12), (17, .int x17), (18, .int x18)]) hx hb (z_d hL_isSo_5 45 rfl) hl (k := 14) rfl (z_inc1 hu70) (by decide) rfl (fun ls hl => ?_)
                    refine lv_goto (tgt := 75) hx hb (z_d hL_isSo_5 46 rfl) (by decide) ?_
                    exact ih _ _ hF _ _ ls hP hD hS (lv_sub hl [2, 3, 4, 5, 6, 7, 8, 9, 10, 11, 12, 13, 14, 1, 0] rfl) K1
    have J425_a91 : ∀  (x8 : Int32) (x9 : Int32) (x10 : Int32) (x11 : Int32) (x12 : Int32) (x14 : Int32) (x17 : Int32) (x18 : Int32) (hF : j_L_isSo_425_a91 x g k ln pr lb mk ya91 rec x8 x9 x10 x11 x12 x14 x17 x18 = some X) (H : Heap) (locs : List Loc) (ls : Array Slot) (hP : va_P Z.1 vwCl (List.flatten [w_SP Z mm u x, w_Arr Z.2.1 2 ag g, w_Arr Z.2.1 41 ak k, w_Arr Z.2.1 41 al ln, w_Arr Z.2.1 41 ap pr, w_Arr Z.2.1 41 ab lb, w_Arr Z.2.1 41 am mk, w_Arr Z.2.1 41 a91 ya91]) H) (hD : va_D A (List.flatten [w_SP Z mm u x, w_Arr Z.2.1 2 ag g, w_Arr Z.2.1 41 ak k, w_Arr Z.2.1 41 al ln, w_Arr Z.2.1 41 ap pr, w_Arr Z.2.1 41 ab lb, w_Arr Z.2.1 41 am mk, w_Arr Z.2.1 41 a91 ya91])) (hS : va_S A s.heap H locs) (hl : lv_has ls 20 [(0, .ref mm), (1, .ref ag), (2, .ref ak), (3, .ref al), (4, .ref ap), (5, .ref ab), (6, .ref am), (7, .ref a91), (8, .int x8), (9, .int x9), (10, .int x10), (11, .int x11), (12, .int x12), (14, .int x14), (17, .int x17), (18, .int x18)]), W p l e rm_L_isSo s m ([.ref mm, .ref ag, .ref ak, .ref al, .ref ap, .ref ab, .ref am] : List Value).toArray below meth c H locs 1 41 Q (F0 m 425 ls []) := by
      intro x8 x9 x10 x11 x12 x14 x17 x18 hF H locs ls hP hD hS hl
      unfold j_L_isSo_425_a91 at hF
      refine lv_aload_n hx hb (z_d hL_isSo_3 50 rfl) rfl (lv_at hl 0 rfl) ?_
      refine lv_iload hx hb (z_d hL_isSo_3 51 rfl) (lv_at hl 11 rfl) ?_
      refine lv_iconst (v := 0) hx hb (z_d hL_isSo_3 52 rfl) (by decide) ?_
      refine z_bnd hF (fun q27 hq27 hF => ?_)
      refine z_ro_i (z_rLR (As := [.ref mm, .int x11, .int 0]) (rest := []) hx hb hml hown hts ht_L_sceneOf (c_N_sceneOf l Z mm u x x11 0 _ hq27) rfl rfl ⟨Nat.le_of_ble_eq_true rfl, Nat.le_of_ble_eq_true rfl⟩ k_m_L_140 hK (zP_c (zP_reg hP 0 rfl) zP_n) rfl hl.1 (Nat.le_of_ble_eq_true rfl) (z_d hL_isSo_3 53 rfl) ⟨Nat.le_of_ble_eq_true rfl, Nat.le_of_ble_eq_true rfl⟩) hS hP (fun H locs hP hS => ?_)
      refine lv_aload hx hb (z_d hL_isSo_3 54 rfl) (lv_at hl 7 rfl) ?_
      refine lv_iload hx hb (z_d hL_isSo_3 55 rfl) (lv_at hl 13 rfl) ?_
      refine z_ix hF (fun hin hF => ?_)
      refine va_iald (D := Z.1) (f := ya91) hx hb hK.1 (zP_reg hP 7 rfl) 0 0 rfl rfl hin (z_d hL_isSo_3 56 rfl) ?_
      refine z_let hF (fun u28 hu28 hF => ?_)
      refine lv_topE hu28 ?_
      refine lv_sipush (v := 10000) hx hb (z_d hL_isSo_3 57 rfl) (by decide) ?_
      refine lv_idiv hx hb (z_d hL_isSo_3 58 rfl) (by decide) ?_
      refine z_let hF (fun u29 hu29 hF => ?_)
      refine lv_topE hu29 ?_
      refine lv_icmp_ne (tgt := 627) hx hb (z_d hL_isSo_3 59 rfl) (by decide) (fun hc441 => ?_) (fun hc441 => ?_)
      · have hF := z_neg hc441 hF
        refine lv_iconst (v := 0) hx hb (z_d hL_isSo_5 43 rfl) (by decide) ?_
        refine lv_istore (lv' := [(13, .int 0), (0, .ref mm), (1, .ref ag), (2, .ref ak), (3, .ref al), (4, .ref ap), (5, .ref ab), (6, .ref am), (7, .ref a91), (8, .int x8), (9, .int x9), (10, .int x10), (11, .int x11), (12, .int x12), (14, .int x14), (17, .int x17), (18, .int x18)]) hx hb (z_d hL_isSo_5 44 rfl) hl (by decide) rfl (fun ls hl => ?_)
        refine z_let hF (fun u30 hu30 hF => ?_)
        refine lv_iinc (v := u30) (lv' := [(14, .int u30), (13, .int 0), (0, .ref mm), (1, .ref ag), (2, .ref ak), (3, .ref al), (4, .ref ap), (5, .ref ab), (6, .ref am), (7, .ref a91), (8, .int x8), (9, .int x9), (10, .int x10), (11, .int x11), (12, .int x12), (17, .int x17), (18, .int x18)]) hx hb (z_d hL_isSo_5 45 rfl) hl (k := 14) rfl (z_inc1 hu30) (by decide) rfl (fun ls hl => ?_)
        refine lv_goto (tgt := 75) hx hb (z_d hL_isSo_5 46 rfl) (by decide) ?_
        exact ih _ _ hF _ _ ls hP hD hS (lv_sub hl [2, 3, 4, 5, 6, 7, 8, 9, 10, 11, 12, 13, 14, 1, 0] rfl) K1
      · have hF := z_pos hc441 hF
        refine lv_aload_n hx hb (z_d hL_isSo_4 0 rfl) rfl (lv_at hl 0 rfl) ?_
        refine lv_iload hx hb (z_d hL_isSo_4 1 rfl) (lv_at hl 11 rfl) ?_
        refine lv_iconst (v := 1) hx hb (z_d hL_isSo_4 2 rfl) (by decide) ?_
        refine z_bnd hF (fun q31 hq31 hF => ?_)
        refine z_ro_i (z_rLR (As := [.ref mm, .int x11, .int 1]) (rest := []) hx hb hml hown hts ht_L_sceneOf (c_N_sceneOf l Z mm u x x11 1 _ hq31) rfl rfl ⟨Nat.le_of_ble_eq_true rfl, Nat.le_of_ble_eq_true rfl⟩ k_m_L_140 hK (zP_c (zP_reg hP 0 rfl) zP_n) rfl hl.1 (Nat.le_of_ble_eq_true rfl) (z_d hL_isSo_4 3 rfl) ⟨Nat.le_of_ble_eq_true rfl, Nat.le_of_ble_eq_true rfl⟩) hS hP (fun H locs hP hS => ?_)
        refine lv_aload hx hb (z_d hL_isSo_4 4 rfl) (lv_at hl 7 rfl) ?_
        refine lv_iload hx hb (z_d hL_isSo_4 5 rfl) (lv_at hl 13 rfl) ?_
        refine z_ix hF (fun hin hF => ?_)
        refine va_iald (D := Z.1) (f := ya91) hx hb hK.1 (zP_reg hP 7 rfl) 0 0 rfl rfl hin (z_d hL_isSo_4 6 rfl) ?_
        refine z_let hF (fun u32 hu32 hF => ?_)
        refine lv_topE hu32 ?_
        refine lv_bipush (v := 100) hx hb (z_d hL_isSo_4 7 rfl) (by decide) ?_
        refine lv_idiv hx hb (z_d hL_isSo_4 8 rfl) (by decide) ?_
        refine z_let hF (fun u33 hu33 hF => ?_)
        refine lv_topE hu33 ?_
        refine lv_bipush (v := 100) hx hb (z_d hL_isSo_4 9 rfl) (by decide) ?_
        refine lv_irem hx hb (z_d hL_isSo_4 10 rfl) (by decide) ?_
        refine z_let hF (fun u34 hu34 hF => ?_)
        refine lv_topE hu34 ?_
        refine lv_icmp_ne (tgt := 627) hx hb (z_d hL_isSo_4 11 rfl) (by decide) (fun hc462 => ?_) (fun hc462 => ?_)
        · have hF := z_neg hc462 hF
          refine lv_iconst (v := 0) hx hb (z_d hL_isSo_5 43 rfl) (by decide) ?_
          refine lv_istore (lv' := [(13, .int 0), (0, .ref mm), (1, .ref ag), (2, .ref ak), (3, .ref al), (4, .ref ap), (5, .ref ab), (6, .ref am), (7, .ref a91), (8, .int x8), (9, .int x9), (10, .int x10), (11, .int x11), (12, .int x12), (14, .int x14), (17, .int x17), (18, .int x18)]) hx hb (z_d hL_isSo_5 44 rfl) hl (by decide) rfl (fun ls hl => ?_)
          refine z_let hF (fun u35 hu35 hF => ?_)
          refine lv_iinc (v := u35) (lv' := [(14, .int u35), (13, .int 0), (0, .ref mm), (1, .ref ag), (2, .ref ak), (3, .ref al), (4, .ref ap), (5, .ref ab), (6, .ref am), (7, .ref a91), (8, .int x8), (9, .int x9), (10, .int x10), (11, .int x11), (12, .int x12), (17, .int x17), (18, .int x18)]) hx hb (z_d hL_isSo_5 45 rfl) hl (k := 14) rfl (z_inc1 hu35) (by decide) rfl (fun ls hl => ?_)
          refine lv_goto (tgt := 75) hx hb (z_d hL_isSo_5 46 rfl) (by decide) ?_
          exact ih _ _ hF _ _ ls hP hD hS (lv_sub hl [2, 3, 4, 5, 6, 7, 8, 9, 10, 11, 12, 13, 14, 1, 0] rfl) K1
        · have hF := z_pos hc462 hF
          refine lv_aload_n hx hb (z_d hL_isSo_4 12 rfl) rfl (lv_at hl 0 rfl) ?_
          refine lv_iload hx hb (z_d hL_isSo_4 13 rfl) (lv_at hl 11 rfl) ?_
          refine lv_iconst (v := 2) hx hb (z_d hL_isSo_4 14 rfl) (by decide) ?_
          refine z_bnd hF (fun q36 hq36 hF => ?_)
          refine z_ro_i (z_rLR (As := [.ref mm, .int x11, .int 2]) (rest := []) hx hb hml hown hts ht_L_sceneOf (c_N_sceneOf l Z mm u x x11 2 _ hq36) rfl rfl ⟨Nat.le_of_ble_eq_true rfl, Nat.le_of_ble_eq_true rfl⟩ k_m_L_140 hK (zP_c (zP_reg hP 0 rfl) zP_n) rfl hl.1 (Nat.le_of_ble_eq_true rfl) (z_d hL_isSo_4 15 rfl) ⟨Nat.le_of_ble_eq_true rfl, Nat.le_of_ble_eq_true rfl⟩) hS hP (fun H locs hP hS => ?_)
          refine lv_aload hx hb (z_d hL_isSo_4 16 rfl) (lv_at hl 7 rfl) ?_
          refine lv_iload hx hb (z_d hL_isSo_4 17 rfl) (lv_at hl 13 rfl) ?_
          refine z_ix hF (fun hin hF => ?_)
          refine va_iald (D := Z.1) (f := ya91) hx hb hK.1 (zP_reg hP 7 rfl) 0 0 rfl rfl hin (z_d hL_isSo_4 18 rfl) ?_
          refine z_let hF (fun u37 hu37 hF => ?_)
          refine lv_topE hu37 ?_
          refine lv_bipush (v := 100) hx hb (z_d hL_isSo_4 19 rfl) (by decide) ?_
          refine lv_irem hx hb (z_d hL_isSo_4 20 rfl) (by decide) ?_
          refine z_let hF (fun u38 hu38 hF => ?_)
          refine lv_topE hu38 ?_
          refine lv_icmp_ne (tgt := 627) hx hb (z_d hL_isSo_4 21 rfl) (by decide) (fun hc480 => ?_) (fun hc480 => ?_)
          · have hF := z_neg hc480 hF
            refine lv_iconst (v := 0) hx hb (z_d hL_isSo_5 43 rfl) (by decide) ?_
            refine lv_istore (lv' := [(13, .int 0), (0, .ref mm), (1, .ref ag), (2, .ref ak), (3, .ref al), (4, .ref ap), (5, .ref ab), (6, .ref am), (7, .ref a91), (8, .int x8), (9, .int x9), (10, .int x10), (11, .int x11), (12, .int x12), (14, .int x14), (17, .int x17), (18, .int x18)]) hx hb (z_d hL_isSo_5 44 rfl) hl (by decide) rfl (fun ls hl => ?_)
            refine z_let hF (fun u39 hu39 hF => ?_)
            refine lv_iinc (v := u39) (lv' := [(14, .int u39), (13, .int 0), (0, .ref mm), (1, .ref ag), (2, .ref ak), (3, .ref al), (4, .ref ap), (5, .ref ab), (6, .ref am), (7, .ref a91), (8, .int x8), (9, .int x9), (10, .int x10), (11, .int x11), (12, .int x12), (17, .int x17), (18, .int x18)]) hx hb (z_d hL_isSo_5 45 rfl) hl (k := 14) rfl (z_inc1 hu39) (by decide) rfl (fun ls hl => ?_)
            refine lv_goto (tgt := 75) hx hb (z_d hL_isSo_5 46 rfl) (by decide) ?_
            exact ih _ _ hF _ _ ls hP hD hS (lv_sub hl [2, 3, 4, 5, 6, 7, 8, 9, 10, 11, 12, 13, 14, 1, 0] rfl) K1
          · have hF := z_pos hc480 hF
            refine lv_aload_n hx hb (z_d hL_isSo_4 22 rfl) rfl (lv_at hl 0 rfl) ?_
            refine lv_iload hx hb (z_d hL_isSo_4 23 rfl) (lv_at hl 11 rfl) ?_
            refine lv_iconst (v := 3) hx hb (z_d hL_isSo_4 24 rfl) (by decide) ?_
            refine z_bnd hF (fun q40 hq40 hF => ?_)
            refine z_ro_i (z_rLR (As := [.ref mm, .int x11, .int 3]) (rest := []) hx hb hml hown hts ht_L_sceneOf (c_N_sceneOf l Z mm u x x11 3 _ hq40) rfl rfl ⟨Nat.le_of_ble_eq_true rfl, Nat.le_of_ble_eq_true rfl⟩ k_m_L_140 hK (zP_c (zP_reg hP 0 rfl) zP_n) rfl hl.1 (Nat.le_of_ble_eq_true rfl) (z_d hL_isSo_4 25 rfl) ⟨Nat.le_of_ble_eq_true rfl, Nat.le_of_ble_eq_true rfl⟩) hS hP (fun H locs hP hS => ?_)
            refine lv_aload hx hb (z_d hL_isSo_4 26 rfl) (lv_at hl 5 rfl) ?_
            refine lv_iload hx hb (z_d hL_isSo_4 27 rfl) (lv_at hl 13 rfl) ?_
            refine z_ix hF (fun hin hF => ?_)
            refine va_iald (D := Z.1) (f := lb) hx hb hK.1 (zP_reg hP 5 rfl) 0 0 rfl rfl hin (z_d hL_isSo_4 28 rfl) ?_
            refine z_let hF (fun u41 hu41 hF => ?_)
            refine lv_topE hu41 ?_
            refine lv_if_lt (tgt := 502) hx hb (z_d hL_isSo_4 29 rfl) (by decide) (fun hc495 => ?_) (fun hc495 => ?_)
            · have hF := z_pos hc495 hF
              refine lv_iconst (v := 0) hx hb (z_d hL_isSo_4 32 rfl) (by decide) ?_
              exact J503_a91 x8 x9 x10 x11 x12 x14 x17 x18 0 q40 hF _ _ ls hP hD hS (lv_sub hl [0, 1, 2, 3, 4, 5, 6, 7, 8, 9, 10, 11, 12, 13, 14, 15] rfl)
            · have hF := z_neg hc495 hF
              refine lv_iconst (v := 1) hx hb (z_d hL_isSo_4 30 rfl) (by decide) ?_
              refine lv_goto (tgt := 503) hx hb (z_d hL_isSo_4 31 rfl) (by decide) ?_
              exact J503_a91 x8 x9 x10 x11 x12 x14 x17 x18 1 q40 hF _ _ ls hP hD hS (lv_sub hl [0, 1, 2, 3, 4, 5, 6, 7, 8, 9, 10, 11, 12, 13, 14, 15] rfl)
    have J357_a91 : ∀  (x8 : Int32) (x9 : Int32) (x10 : Int32) (x11 : Int32) (x12 : Int32) (x14 : Int32) (x15 : Int32) (z0 : Int32) (hF : j_L_isSo_357_a91 x g k ln pr lb mk ya91 rec x8 x9 x10 x11 x12 x14 x15 z0 = some X) (H : Heap) (locs : List Loc) (ls : Array Slot) (hP : va_P Z.1 vwCl (List.flatten [w_SP Z mm u x, w_Arr Z.2.1 2 ag g, w_Arr Z.2.1 41 ak k, w_Arr Z.2.1 41 al ln, w_Arr Z.2.1 41 ap pr, w_Arr Z.2.1 41 ab lb, w_Arr Z.2.1 41 am mk, w_Arr Z.2.1 41 a91 ya91]) H) (hD : va_D A (List.flatten [w_SP Z mm u x, w_Arr Z.2.1 2 ag g, w_Arr Z.2.1 41 ak k, w_Arr Z.2.1 41 al ln, w_Arr Z.2.1 41 ap pr, w_Arr Z.2.1 41 ab lb, w_Arr Z.2.1 41 am mk, w_Arr Z.2.1 41 a91 ya91])) (hS : va_S A s.heap H locs) (hl : lv_has ls 20 [(0, .ref mm), (1, .ref ag), (2, .ref ak), (3, .ref al), (4, .ref ap), (5, .ref ab), (6, .ref am), (7, .ref a91), (8, .int x8), (9, .int x9), (10, .int x10), (11, .int x11), (12, .int x12), (14, .int x14), (15, .int x15)]), W p l e rm_L_isSo s m ([.ref mm, .ref ag, .ref ak, .ref al, .ref ap, .ref ab, .ref am] : List Value).toArray below meth c H locs 1 41 Q (F0 m 357 ls [.int z0]) := by
      intro x8 x9 x10 x11 x12 x14 x15 z0 hF H locs ls hP hD hS hl
      unfold j_L_isSo_357_a91 at hF
      refine lv_istore (lv' := [(13, .int z0), (0, .ref mm), (1, .ref ag), (2, .ref ak), (3, .ref al), (4, .ref ap), (5, .ref ab), (6, .ref am), (7, .ref a91), (8, .int x8), (9, .int x9), (10, .int x10), (11, .int x11), (12, .int x12), (14, .int x14), (15, .int x15)]) hx hb (z_d hL_isSo_3 15 rfl) hl (by decide) rfl (fun ls hl => ?_)
      refine lv_iload hx hb (z_d hL_isSo_3 16 rfl) (lv_at hl 15 rfl) ?_
      refine lv_if_eq (tgt := 630) hx hb (z_d hL_isSo_3 17 rfl) (by decide) (fun hc361 => ?_) (fun hc361 => ?_)
      · have hF := z_pos hc361 hF
        refine z_let hF (fun u16 hu16 hF => ?_)
        refine lv_iinc (v := u16) (lv' := [(14, .int u16), (13, .int z0), (0, .ref mm), (1, .ref ag), (2, .ref ak), (3, .ref al), (4, .ref ap), (5, .ref ab), (6, .ref am), (7, .ref a91), (8, .int x8), (9, .int x9), (10, .int x10), (11, .int x11), (12, .int x12), (15, .int x15)]) hx hb (z_d hL_isSo_5 45 rfl) hl (k := 14) rfl (z_inc1 hu16) (by decide) rfl (fun ls hl => ?_)
        refine lv_goto (tgt := 75) hx hb (z_d hL_isSo_5 46 rfl) (by decide) ?_
        exact ih _ _ hF _ _ ls hP hD hS (lv_sub hl [2, 3, 4, 5, 6, 7, 8, 9, 10, 11, 12, 13, 14, 1, 0] rfl) K1
      · have hF := z_neg hc361 hF
        refine lv_iload hx hb (z_d hL_isSo_3 18 rfl) (lv_at hl 0 rfl) ?_
        refine lv_if_eq (tgt := 630) hx hb (z_d hL_isSo_3 19 rfl) (by decide) (fun hc366 => ?_) (fun hc366 => ?_)
        · have hF := z_pos hc366 hF
          refine z_let hF (fun u17 hu17 hF => ?_)
          refine lv_iinc (v := u17) (lv' := [(14, .int u17), (13, .int z0), (0, .ref mm), (1, .ref ag), (2, .ref ak), (3, .ref al), (4, .ref ap), (5, .ref ab), (6, .ref am), (7, .ref a91), (8, .int x8), (9, .int x9), (10, .int x10), (11, .int x11), (12, .int x12), (15, .int x15)]) hx hb (z_d hL_isSo_5 45 rfl) hl (k := 14) rfl (z_inc1 hu17) (by decide) rfl (fun ls hl => ?_)
          refine lv_goto (tgt := 75) hx hb (z_d hL_isSo_5 46 rfl) (by decide) ?_
          exact ih _ _ hF _ _ ls hP hD hS (lv_sub hl [2, 3, 4, 5, 6, 7, 8, 9, 10, 11, 12, 13, 14, 1, 0] rfl) K1
        · have hF := z_neg hc366 hF
          refine lv_iconst (v := 1) hx hb (z_d hL_isSo_3 20 rfl) (by decide) ?_
          refine lv_istore (lv' := [(17, .int 1), (13, .int z0), (0, .ref mm), (1, .ref ag), (2, .ref ak), (3, .ref al), (4, .ref ap), (5, .ref ab), (6, .ref am), (7, .ref a91), (8, .int x8), (9, .int x9), (10, .int x10), (11, .int x11), (12, .int x12), (14, .int x14), (15, .int x15)]) hx hb (z_d hL_isSo_3 21 rfl) hl (by decide) rfl (fun ls hl => ?_)
          refine lv_aload_n hx hb (z_d hL_isSo_3 22 rfl) rfl (lv_at hl 4 rfl) ?_
          refine lv_aload_n hx hb (z_d hL_isSo_3 23 rfl) rfl (lv_at hl 5 rfl) ?_
          refine lv_iload hx hb (z_d hL_isSo_3 24 rfl) (lv_at hl 15 rfl) ?_
          refine z_bnd hF (fun q18 hq18 hF => ?_)
          refine z_ro_i (z_rS (As := [.ref ak, .ref al, .int x14]) (rest := []) hx hb hml hown hts vs_L_lines (c_L_lines l Z ak al k ln x14 _ hq18) rfl rfl ⟨Nat.le_of_ble_eq_true rfl, Nat.le_of_ble_eq_true rfl⟩ k_m_L_23 zPro_blind (z_prec hK (zP_c (zP_reg hP 2 rfl) (zP_c (zP_reg hP 3 rfl) zP_n))) rfl hl.1 (Nat.le_of_ble_eq_true rfl) (z_d hL_isSo_3 25 rfl) ⟨Nat.le_of_ble_eq_true rfl, Nat.le_of_ble_eq_true rfl⟩) hS hP (fun H locs hP hS => ?_)
          refine lv_istore (lv' := [(18, .int q18), (17, .int 1), (13, .int z0), (0, .ref mm), (1, .ref ag), (2, .ref ak), (3, .ref al), (4, .ref ap), (5, .ref ab), (6, .ref am), (7, .ref a91), (8, .int x8), (9, .int x9), (10, .int x10), (11, .int x11), (12, .int x12), (14, .int x14), (15, .int x15)]) hx hb (z_d hL_isSo_3 26 rfl) hl (by decide) rfl (fun ls hl => ?_)
          refine lv_iload hx hb (z_d hL_isSo_3 27 rfl) (lv_at hl 16 rfl) ?_
          refine lv_iconst (v := 1) hx hb (z_d hL_isSo_3 28 rfl) (by decide) ?_
          refine lv_iadd hx hb (z_d hL_isSo_3 29 rfl) ?_
          refine z_let hF (fun u19 hu19 hF => ?_)
          refine lv_topE hu19 ?_
          refine lv_istore (lv' := [(19, .int u19), (18, .int q18), (17, .int 1), (13, .int z0), (0, .ref mm), (1, .ref ag), (2, .ref ak), (3, .ref al), (4, .ref ap), (5, .ref ab), (6, .ref am), (7, .ref a91), (8, .int x8), (9, .int x9), (10, .int x10), (11, .int x11), (12, .int x12), (14, .int x14), (15, .int x15)]) hx hb (z_d hL_isSo_3 30 rfl) hl (by decide) rfl (fun ls hl => ?_)
          refine z_bnd hF (fun q26 hq26 hF => ?_)
          refine L387 a91 ya91 x8 x9 x10 x11 x12 x14 _ _ _ hq26 _ _ ls hP hD hS (lv_sub hl [4, 5, 6, 7, 8, 9, 10, 11, 12, 13, 14, 15, 16, 17, 2, 1, 0] rfl) (fun H locs ls hP hD hS hl => ?_)
          exact J425_a91 x8 x9 x10 x11 x12 x14 q26.1 q26.2 hF _ _ ls hP hD hS (lv_sub hl [0, 1, 2, 3, 4, 5, 6, 7, 8, 9, 10, 11, 12, 13, 14, 15] rfl)
    have J356_a91 : ∀  (x8 : Int32) (x9 : Int32) (x10 : Int32) (x11 : Int32) (x12 : Int32) (x14 : Int32) (x15 : Int32) (hF : j_L_isSo_356_a91 x g k ln pr lb mk ya91 rec x8 x9 x10 x11 x12 x14 x15 = some X) (H : Heap) (locs : List Loc) (ls : Array Slot) (hP : va_P Z.1 vwCl (List.flatten [w_SP Z mm u x, w_Arr Z.2.1 2 ag g, w_Arr Z.2.1 41 ak k, w_Arr Z.2.1 41 al ln, w_Arr Z.2.1 41 ap pr, w_Arr Z.2.1 41 ab lb, w_Arr Z.2.1 41 am mk, w_Arr Z.2.1 41 a91 ya91]) H) (hD : va_D A (List.flatten [w_SP Z mm u x, w_Arr Z.2.1 2 ag g, w_Arr Z.2.1 41 ak k, w_Arr Z.2.1 41 al ln, w_Arr Z.2.1 41 ap pr, w_Arr Z.2.1 41 ab lb, w_Arr Z.2.1 41 am mk, w_Arr Z.2.1 41 a91 ya91])) (hS : va_S A s.heap H locs) (hl : lv_has ls 20 [(0, .ref mm), (1, .ref ag), (2, .ref ak), (3, .ref al), (4, .ref ap), (5, .ref ab), (6, .ref am), (7, .ref a91), (8, .int x8), (9, .int x9), (10, .int x10), (11, .int x11), (12, .int x12), (14, .int x14), (15, .int x15)]), W p l e rm_L_isSo s m ([.ref mm, .ref ag, .ref ak, .ref al, .ref ap, .ref ab, .ref am] : List Value).toArray below meth c H locs 1 41 Q (F0 m 356 ls []) := by
      intro x8 x9 x10 x11 x12 x14 x15 hF H locs ls hP hD hS hl
      unfold j_L_isSo_356_a91 at hF
      refine lv_iconst (v := 0) hx hb (z_d hL_isSo_3 14 rfl) (by decide) ?_
      exact J357_a91 x8 x9 x10 x11 x12 x14 x15 0 hF _ _ ls hP hD hS (lv_sub hl [0, 1, 2, 3, 4, 5, 6, 7, 8, 9, 10, 11, 12, 13, 14] rfl)
    have J349_a91 : ∀  (x8 : Int32) (x9 : Int32) (x10 : Int32) (x11 : Int32) (x12 : Int32) (x14 : Int32) (x15 : Int32) (z0 : Int32) (z1 : Int32) (hF : j_L_isSo_349_a91 x g k ln pr lb mk ya91 rec x8 x9 x10 x11 x12 x14 x15 z0 z1 = some X) (H : Heap) (locs : List Loc) (ls : Array Slot) (hP : va_P Z.1 vwCl (List.flatten [w_SP Z mm u x, w_Arr Z.2.1 2 ag g, w_Arr Z.2.1 41 ak k, w_Arr Z.2.1 41 al ln, w_Arr Z.2.1 41 ap pr, w_Arr Z.2.1 41 ab lb, w_Arr Z.2.1 41 am mk, w_Arr Z.2.1 41 a91 ya91]) H) (hD : va_D A (List.flatten [w_SP Z mm u x, w_Arr Z.2.1 2 ag g, w_Arr Z.2.1 41 ak k, w_Arr Z.2.1 41 al ln, w_Arr Z.2.1 41 ap pr, w_Arr Z.2.1 41 ab lb, w_Arr Z.2.1 41 am mk, w_Arr Z.2.1 41 a91 ya91])) (hS : va_S A s.heap H locs) (hl : lv_has ls 20 [(0, .ref mm), (1, .ref ag), (2, .ref ak), (3, .ref al), (4, .ref ap), (5, .ref ab), (6, .ref am), (7, .ref a91), (8, .int x8), (9, .int x9), (10, .int x10), (11, .int x11), (12, .int x12), (14, .int x14), (15, .int x15)]), W p l e rm_L_isSo s m ([.ref mm, .ref ag, .ref ak, .ref al, .ref ap, .ref ab, .ref am] : List Value).toArray below meth c H locs 1 41 Q (F0 m 349 ls [.int z0, .int z1]) := by
      intro x8 x9 x10 x11 x12 x14 x15 z0 z1 hF H locs ls hP hD hS hl
      unfold j_L_isSo_349_a91 at hF
      refine lv_icmp_ne (tgt := 356) hx hb (z_d hL_isSo_3 11 rfl) (by decide) (fun hc349 => ?_) (fun hc349 => ?_)
      · have hF := z_neg hc349 hF
        exact J356_a91 x8 x9 x10 x11 x12 x14 x15 hF _ _ ls hP hD hS (lv_sub hl [0, 1, 2, 3, 4, 5, 6, 7, 8, 9, 10, 11, 12, 13, 14] rfl)
      · have hF := z_pos hc349 hF
        refine lv_iconst (v := 1) hx hb (z_d hL_isSo_3 12 rfl) (by decide) ?_
        refine lv_goto (tgt := 357) hx hb (z_d hL_isSo_3 13 rfl) (by decide) ?_
        exact J357_a91 x8 x9 x10 x11 x12 x14 x15 1 hF _ _ ls hP hD hS (lv_sub hl [0, 1, 2, 3, 4, 5, 6, 7, 8, 9, 10, 11, 12, 13, 14] rfl)
    have J328_a91 : ∀  (x8 : Int32) (x9 : Int32) (x10 : Int32) (x11 : Int32) (x12 : Int32) (x14 : Int32) (x15 : Int32) (x16 : Int32) (z0 : Int32) (z1 : Int32) (hF : j_L_isSo_328_a91 x g k ln pr lb mk ya91 rec x8 x9 x10 x11 x12 x14 x15 x16 z0 z1 = some X) (H : Heap) (locs : List Loc) (ls : Array Slot) (hP : va_P Z.1 vwCl (List.flatten [w_SP Z mm u x, w_Arr Z.2.1 2 ag g, w_Arr Z.2.1 41 ak k, w_Arr Z.2.1 41 al ln, w_Arr Z.2.1 41 ap pr, w_Arr Z.2.1 41 ab lb, w_Arr Z.2.1 41 am mk, w_Arr Z.2.1 41 a91 ya91]) H) (hD : va_D A (List.flatten [w_SP Z mm u x, w_Arr Z.2.1 2 ag g, w_Arr Z.2.1 41 ak k, w_Arr Z.2.1 41 al ln, w_Arr Z.2.1 41 ap pr, w_Arr Z.2.1 41 ab lb, w_Arr Z.2.1 41 am mk, w_Arr Z.2.1 41 a91 ya91])) (hS : va_S A s.heap H locs) (hl : lv_has ls 20 [(0, .ref mm), (1, .ref ag), (2, .ref ak), (3, .ref al), (4, .ref ap), (5, .ref ab), (6, .ref am), (7, .ref a91), (8, .int x8), (9, .int x9), (10, .int x10), (11, .int x11), (12, .int x12), (14, .int x14), (15, .int x15), (16, .int x16)]), W p l e rm_L_isSo s m ([.ref mm, .ref ag, .ref ak, .ref al, .ref ap, .ref ab, .ref am] : List Value).toArray below meth c H locs 1 41 Q (F0 m 328 ls [.int z0, .int z1]) := by
      intro x8 x9 x10 x11 x12 x14 x15 x16 z0 z1 hF H locs ls hP hD hS hl
      unfold j_L_isSo_328_a91 at hF
      refine lv_icmp_ne (tgt := 356) hx hb (z_d hL_isSo_3 1 rfl) (by decide) (fun hc328 => ?_) (fun hc328 => ?_)
      · have hF := z_neg hc328 hF
        exact J356_a91 x8 x9 x10 x11 x12 x14 x15 hF _ _ ls hP hD hS (lv_sub hl [0, 1, 2, 3, 4, 5, 6, 7, 8, 9, 10, 11, 12, 13, 14] rfl)
      · have hF := z_pos hc328 hF
        refine lv_aload_n hx hb (z_d hL_isSo_3 2 rfl) rfl (lv_at hl 0 rfl) ?_
        refine lv_iload hx hb (z_d hL_isSo_3 3 rfl) (lv_at hl 13 rfl) ?_
        refine lv_bipush (v := 9) hx hb (z_d hL_isSo_3 4 rfl) (by decide) ?_
        refine z_bnd hF (fun q80 hq80 hF => ?_)
        refine z_ro_i (z_rLR (As := [.ref mm, .int x14, .int 9]) (rest := []) hx hb hml hown hts ht_L_elementOf (c_N_elementOf l Z mm u x x14 9 _ hq80) rfl rfl ⟨Nat.le_of_ble_eq_true rfl, Nat.le_of_ble_eq_true rfl⟩ k_m_L_137 hK (zP_c (zP_reg hP 0 rfl) zP_n) rfl hl.1 (Nat.le_of_ble_eq_true rfl) (z_d hL_isSo_3 5 rfl) ⟨Nat.le_of_ble_eq_true rfl, Nat.le_of_ble_eq_true rfl⟩) hS hP (fun H locs hP hS => ?_)
        refine lv_iload hx hb (z_d hL_isSo_3 6 rfl) (lv_at hl 15 rfl) ?_
        refine lv_if_eq (tgt := 348) hx hb (z_d hL_isSo_3 7 rfl) (by decide) (fun hc341 => ?_) (fun hc341 => ?_)
        · have hF := z_pos hc341 hF
          refine lv_iconst (v := 0) hx hb (z_d hL_isSo_3 10 rfl) (by decide) ?_
          exact J349_a91 x8 x9 x10 x11 x12 x14 x15 0 q80 hF _ _ ls hP hD hS (lv_sub hl [0, 1, 2, 3, 4, 5, 6, 7, 8, 9, 10, 11, 12, 13, 14] rfl)
        · have hF := z_neg hc341 hF
          refine lv_iconst (v := 1) hx hb (z_d hL_isSo_3 8 rfl) (by decide) ?_
          refine lv_goto (tgt := 349) hx hb (z_d hL_isSo_3 9 rfl) (by decide) ?_
          exact J349_a91 x8 x9 x10 x11 x12 x14 x15 1 q80 hF _ _ ls hP hD hS (lv_sub hl [0, 1, 2, 3, 4, 5, 6, 7, 8, 9, 10, 11, 12, 13, 14] rfl)
    have J227_a91 : ∀  (x8 : Int32) (x9 : Int32) (x11 : Int32) (x12 : Int32) (x14 : Int32) (x15 : Int32) (x16 : Int32) (z0 : Int32) (z1 : Int32) (hF : j_L_isSo_227_a91 x g k ln pr lb mk ya91 rec x8 x9 x11 x12 x14 x15 x16 z0 z1 = some X) (H : Heap) (locs : List Loc) (ls : Array Slot) (hP : va_P Z.1 vwCl (List.flatten [w_SP Z mm u x, w_Arr Z.2.1 2 ag g, w_Arr Z.2.1 41 ak k, w_Arr Z.2.1 41 al ln, w_Arr Z.2.1 41 ap pr, w_Arr Z.2.1 41 ab lb, w_Arr Z.2.1 41 am mk, w_Arr Z.2.1 41 a91 ya91]) H) (hD : va_D A (List.flatten [w_SP Z mm u x, w_Arr Z.2.1 2 ag g, w_Arr Z.2.1 41 ak k, w_Arr Z.2.1 41 al ln, w_Arr Z.2.1 41 ap pr, w_Arr Z.2.1 41 ab lb, w_Arr Z.2.1 41 am mk, w_Arr Z.2.1 41 a91 ya91])) (hS : va_S A s.heap H locs) (hl : lv_has ls 20 [(0, .ref mm), (1, .ref ag), (2, .ref ak), (3, .ref al), (4, .ref ap), (5, .ref ab), (6, .ref am), (7, .ref a91), (8, .int x8), (9, .int x9), (11, .int x11), (12, .int x12), (14, .int x14), (15, .int x15), (16, .int x16)]), W p l e rm_L_isSo s m ([.ref mm, .ref ag, .ref ak, .ref al, .ref ap, .ref ab, .ref am] : List Value).toArray below meth c H locs 1 41 Q (F0 m 227 ls [.int z0, .int z1]) := by
      intro x8 x9 x11 x12 x14 x15 x16 z0 z1 hF H locs ls hP hD hS hl
      unfold j_L_isSo_227_a91 at hF
      refine lv_iadd hx hb (z_d hL_isSo_2 5 rfl) ?_
      refine z_let hF (fun u12 hu12 hF => ?_)
      refine lv_topE hu12 ?_
      refine lv_istore (lv' := [(10, .int u12), (0, .ref mm), (1, .ref ag), (2, .ref ak), (3, .ref al), (4, .ref ap), (5, .ref ab), (6, .ref am), (7, .ref a91), (8, .int x8), (9, .int x9), (11, .int x11), (12, .int x12), (14, .int x14), (15, .int x15), (16, .int x16)]) hx hb (z_d hL_isSo_2 6 rfl) hl (by decide) rfl (fun ls hl => ?_)
      refine lv_aload_n hx hb (z_d hL_isSo_2 7 rfl) rfl (lv_at hl 1 rfl) ?_
      refine lv_iload hx hb (z_d hL_isSo_2 8 rfl) (lv_at hl 13 rfl) ?_
      refine lv_iconst (v := 0) hx hb (z_d hL_isSo_2 9 rfl) (by decide) ?_
      refine z_bnd hF (fun q13 hq13 hF => ?_)
      refine z_ro_i (z_rLR (As := [.ref mm, .int x14, .int 0]) (rest := []) hx hb hml hown hts ht_L_elementOf (c_N_elementOf l Z mm u x x14 0 _ hq13) rfl rfl ⟨Nat.le_of_ble_eq_true rfl, Nat.le_of_ble_eq_true rfl⟩ k_m_L_137 hK (zP_c (zP_reg hP 0 rfl) zP_n) rfl hl.1 (Nat.le_of_ble_eq_true rfl) (z_d hL_isSo_2 10 rfl) ⟨Nat.le_of_ble_eq_true rfl, Nat.le_of_ble_eq_true rfl⟩) hS hP (fun H locs hP hS => ?_)
      refine lv_aload_n hx hb (z_d hL_isSo_2 11 rfl) rfl (lv_at hl 3 rfl) ?_
      refine lv_iload hx hb (z_d hL_isSo_2 12 rfl) (lv_at hl 13 rfl) ?_
      refine z_ix hF (fun hin hF => ?_)
      refine va_iald (D := Z.1) (f := k) hx hb hK.1 (zP_reg hP 2 rfl) 0 0 rfl rfl hin (z_d hL_isSo_2 13 rfl) ?_
      refine z_let hF (fun u14 hu14 hF => ?_)
      refine lv_topE hu14 ?_
      refine lv_iconst (v := 5) hx hb (z_d hL_isSo_2 14 rfl) (by decide) ?_
      refine lv_irem hx hb (z_d hL_isSo_2 15 rfl) (by decide) ?_
      refine z_let hF (fun u15 hu15 hF => ?_)
      refine lv_topE hu15 ?_
      refine lv_icmp_ne (tgt := 356) hx hb (z_d hL_isSo_2 16 rfl) (by decide) (fun hc243 => ?_) (fun hc243 => ?_)
      · have hF := z_neg hc243 hF
        exact J356_a91 x8 x9 u12 x11 x12 x14 x15 hF _ _ ls hP hD hS (lv_sub hl [1, 2, 3, 4, 5, 6, 7, 8, 9, 10, 0, 11, 12, 13, 14] rfl)
      · have hF := z_pos hc243 hF
        refine lv_aload_n hx hb (z_d hL_isSo_2 17 rfl) rfl (lv_at hl 1 rfl) ?_
        refine lv_iload hx hb (z_d hL_isSo_2 18 rfl) (lv_at hl 13 rfl) ?_
        refine lv_iconst (v := 1) hx hb (z_d hL_isSo_2 19 rfl) (by decide) ?_
        refine z_bnd hF (fun q71 hq71 hF => ?_)
        refine z_ro_i (z_rLR (As := [.ref mm, .int x14, .int 1]) (rest := []) hx hb hml hown hts ht_L_elementOf (c_N_elementOf l Z mm u x x14 1 _ hq71) rfl rfl ⟨Nat.le_of_ble_eq_true rfl, Nat.le_of_ble_eq_true rfl⟩ k_m_L_137 hK (zP_c (zP_reg hP 0 rfl) zP_n) rfl hl.1 (Nat.le_of_ble_eq_true rfl) (z_d hL_isSo_2 20 rfl) ⟨Nat.le_of_ble_eq_true rfl, Nat.le_of_ble_eq_true rfl⟩) hS hP (fun H locs hP hS => ?_)
        refine lv_aload_n hx hb (z_d hL_isSo_2 21 rfl) rfl (lv_at hl 4 rfl) ?_
        refine lv_iload hx hb (z_d hL_isSo_2 22 rfl) (lv_at hl 13 rfl) ?_
        refine z_ix hF (fun hin hF => ?_)
        refine va_iald (D := Z.1) (f := ln) hx hb hK.1 (zP_reg hP 3 rfl) 0 0 rfl rfl hin (z_d hL_isSo_2 23 rfl) ?_
        refine z_let hF (fun u72 hu72 hF => ?_)
        refine lv_topE hu72 ?_
        refine lv_icmp_ne (tgt := 356) hx hb (z_d hL_isSo_2 24 rfl) (by decide) (fun hc257 => ?_) (fun hc257 => ?_)
        · have hF := z_neg hc257 hF
          exact J356_a91 x8 x9 u12 x11 x12 x14 x15 hF _ _ ls hP hD hS (lv_sub hl [1, 2, 3, 4, 5, 6, 7, 8, 9, 10, 0, 11, 12, 13, 14] rfl)
        · have hF := z_pos hc257 hF
          refine lv_aload_n hx hb (z_d hL_isSo_2 25 rfl) rfl (lv_at hl 1 rfl) ?_
          refine lv_iload hx hb (z_d hL_isSo_2 26 rfl) (lv_at hl 13 rfl) ?_
          refine lv_iconst (v := 2) hx hb (z_d hL_isSo_2 27 rfl) (by decide) ?_
          refine z_bnd hF (fun q73 hq73 hF => ?_)
          refine z_ro_i (z_rLR (As := [.ref mm, .int x14, .int 2]) (rest := []) hx hb hml hown hts ht_L_elementOf (c_N_elementOf l Z mm u x x14 2 _ hq73) rfl rfl ⟨Nat.le_of_ble_eq_true rfl, Nat.le_of_ble_eq_true rfl⟩ k_m_L_137 hK (zP_c (zP_reg hP 0 rfl) zP_n) rfl hl.1 (Nat.le_of_ble_eq_true rfl) (z_d hL_isSo_2 28 rfl) ⟨Nat.le_of_ble_eq_true rfl, Nat.le_of_ble_eq_true rfl⟩) hS hP (fun H locs hP hS => ?_)
          refine lv_aload hx hb (z_d hL_isSo_2 29 rfl) (lv_at hl 5 rfl) ?_
          refine lv_iload hx hb (z_d hL_isSo_2 30 rfl) (lv_at hl 13 rfl) ?_
          refine z_ix hF (fun hin hF => ?_)
          refine va_iald (D := Z.1) (f := pr) hx hb hK.1 (zP_reg hP 4 rfl) 0 0 rfl rfl hin (z_d hL_isSo_2 31 rfl) ?_
          refine z_let hF (fun u74 hu74 hF => ?_)
          refine lv_topE hu74 ?_
          refine lv_icmp_ne (tgt := 356) hx hb (z_d hL_isSo_2 32 rfl) (by decide) (fun hc272 => ?_) (fun hc272 => ?_)
          · have hF := z_neg hc272 hF
            exact J356_a91 x8 x9 u12 x11 x12 x14 x15 hF _ _ ls hP hD hS (lv_sub hl [1, 2, 3, 4, 5, 6, 7, 8, 9, 10, 0, 11, 12, 13, 14] rfl)
          · have hF := z_pos hc272 hF
            refine lv_aload_n hx hb (z_d hL_isSo_2 33 rfl) rfl (lv_at hl 1 rfl) ?_
            refine lv_iload hx hb (z_d hL_isSo_2 34 rfl) (lv_at hl 13 rfl) ?_
            refine lv_iconst (v := 3) hx hb (z_d hL_isSo_2 35 rfl) (by decide) ?_
            refine z_bnd hF (fun q75 hq75 hF => ?_)
            refine z_ro_i (z_rLR (As := [.ref mm, .int x14, .int 3]) (rest := []) hx hb hml hown hts ht_L_elementOf (c_N_elementOf l Z mm u x x14 3 _ hq75) rfl rfl ⟨Nat.le_of_ble_eq_true rfl, Nat.le_of_ble_eq_true rfl⟩ k_m_L_137 hK (zP_c (zP_reg hP 0 rfl) zP_n) rfl hl.1 (Nat.le_of_ble_eq_true rfl) (z_d hL_isSo_2 36 rfl) ⟨Nat.le_of_ble_eq_true rfl, Nat.le_of_ble_eq_true rfl⟩) hS hP (fun H locs hP hS => ?_)
            refine lv_aload_n hx hb (z_d hL_isSo_2 37 rfl) rfl (lv_at hl 3 rfl) ?_
            refine lv_aload_n hx hb (z_d hL_isSo_2 38 rfl) rfl (lv_at hl 4 rfl) ?_
            refine lv_iload hx hb (z_d hL_isSo_2 39 rfl) (lv_at hl 13 rfl) ?_
            refine z_bnd hF (fun q76 hq76 hF => ?_)
            refine z_ro_i (z_rS (As := [.ref ak, .ref al, .int x14]) (rest := [.int q75]) hx hb hml hown hts vs_L_lines (c_L_lines l Z ak al k ln x14 _ hq76) rfl rfl ⟨Nat.le_of_ble_eq_true rfl, Nat.le_of_ble_eq_true rfl⟩ k_m_L_23 zPro_blind (z_prec hK (zP_c (zP_reg hP 2 rfl) (zP_c (zP_reg hP 3 rfl) zP_n))) rfl hl.1 (Nat.le_of_ble_eq_true rfl) (z_d hL_isSo_2 40 rfl) ⟨Nat.le_of_ble_eq_true rfl, Nat.le_of_ble_eq_true rfl⟩) hS hP (fun H locs hP hS => ?_)
            refine lv_icmp_ne (tgt := 356) hx hb (z_d hL_isSo_2 41 rfl) (by decide) (fun hc289 => ?_) (fun hc289 => ?_)
            · have hF := z_neg hc289 hF
              exact J356_a91 x8 x9 u12 x11 x12 x14 x15 hF _ _ ls hP hD hS (lv_sub hl [1, 2, 3, 4, 5, 6, 7, 8, 9, 10, 0, 11, 12, 13, 14] rfl)
            · have hF := z_pos hc289 hF
              refine lv_aload_n hx hb (z_d hL_isSo_2 42 rfl) rfl (lv_at hl 1 rfl) ?_
              refine lv_iload hx hb (z_d hL_isSo_2 43 rfl) (lv_at hl 13 rfl) ?_
              refine lv_iconst (v := 4) hx hb (z_d hL_isSo_2 44 rfl) (by decide) ?_
              refine z_bnd hF (fun q77 hq77 hF => ?_)
              refine z_ro_i (z_rLR (As := [.ref mm, .int x14, .int 4]) (rest := []) hx hb hml hown hts ht_L_elementOf (c_N_elementOf l Z mm u x x14 4 _ hq77) rfl rfl ⟨Nat.le_of_ble_eq_true rfl, Nat.le_of_ble_eq_true rfl⟩ k_m_L_137 hK (zP_c (zP_reg hP 0 rfl) zP_n) rfl hl.1 (Nat.le_of_ble_eq_true rfl) (z_d hL_isSo_2 45 rfl) ⟨Nat.le_of_ble_eq_true rfl, Nat.le_of_ble_eq_true rfl⟩) hS hP (fun H locs hP hS => ?_)
              refine lv_iload hx hb (z_d hL_isSo_2 46 rfl) (lv_at hl 11 rfl) ?_
              refine lv_icmp_ne (tgt := 356) hx hb (z_d hL_isSo_2 47 rfl) (by decide) (fun hc301 => ?_) (fun hc301 => ?_)
              · have hF := z_neg hc301 hF
                exact J356_a91 x8 x9 u12 x11 x12 x14 x15 hF _ _ ls hP hD hS (lv_sub hl [1, 2, 3, 4, 5, 6, 7, 8, 9, 10, 0, 11, 12, 13, 14] rfl)
              · have hF := z_pos hc301 hF
                refine lv_aload_n hx hb (z_d hL_isSo_2 48 rfl) rfl (lv_at hl 1 rfl) ?_
                refine lv_iload hx hb (z_d hL_isSo_2 49 rfl) (lv_at hl 13 rfl) ?_
                refine lv_iconst (v := 5) hx hb (z_d hL_isSo_2 50 rfl) (by decide) ?_
                refine z_bnd hF (fun q78 hq78 hF => ?_)
                refine z_ro_i (z_rLR (As := [.ref mm, .int x14, .int 5]) (rest := []) hx hb hml hown hts ht_L_elementOf (c_N_elementOf l Z mm u x x14 5 _ hq78) rfl rfl ⟨Nat.le_of_ble_eq_true rfl, Nat.le_of_ble_eq_true rfl⟩ k_m_L_137 hK (zP_c (zP_reg hP 0 rfl) zP_n) rfl hl.1 (Nat.le_of_ble_eq_true rfl) (z_d hL_isSo_2 51 rfl) ⟨Nat.le_of_ble_eq_true rfl, Nat.le_of_ble_eq_true rfl⟩) hS hP (fun H locs hP hS => ?_)
                refine lv_aload hx hb (z_d hL_isSo_2 52 rfl) (lv_at hl 7 rfl) ?_
                refine lv_iload hx hb (z_d hL_isSo_2 53 rfl) (lv_at hl 13 rfl) ?_
                refine z_ix hF (fun hin hF => ?_)
                refine va_iald (D := Z.1) (f := mk) hx hb hK.1 (zP_reg hP 6 rfl) 0 0 rfl rfl hin (z_d hL_isSo_2 54 rfl) ?_
                refine z_let hF (fun u79 hu79 hF => ?_)
                refine lv_topE hu79 ?_
                refine lv_if_le (tgt := 327) hx hb (z_d hL_isSo_2 55 rfl) (by decide) (fun hc316 => ?_) (fun hc316 => ?_)
                · have hF := z_pos hc316 hF
                  refine lv_iconst (v := (-1)) hx hb (z_d hL_isSo_3 0 rfl) (by decide) ?_
                  exact J328_a91 x8 x9 u12 x11 x12 x14 x15 x16 (-1) q78 hF _ _ ls hP hD hS (lv_sub hl [1, 2, 3, 4, 5, 6, 7, 8, 9, 10, 0, 11, 12, 13, 14, 15] rfl)
                · have hF := z_neg hc316 hF
                  refine lv_aload hx hb (z_d hL_isSo_2 56 rfl) (lv_at hl 7 rfl) ?_
                  refine lv_iload hx hb (z_d hL_isSo_2 57 rfl) (lv_at hl 13 rfl) ?_
                  refine z_ix hF (fun hin hF => ?_)
                  refine va_iald (D := Z.1) (f := mk) hx hb hK.1 (zP_reg hP 6 rfl) 0 0 rfl rfl hin (z_d hL_isSo_2 58 rfl) ?_
                  refine z_let hF (fun u81 hu81 hF => ?_)
                  refine lv_topE hu81 ?_
                  refine lv_goto (tgt := 328) hx hb (z_d hL_isSo_2 59 rfl) (by decide) ?_
                  exact J328_a91 x8 x9 u12 x11 x12 x14 x15 x16 u81 q78 hF _ _ ls hP hD hS (lv_sub hl [1, 2, 3, 4, 5, 6, 7, 8, 9, 10, 0, 11, 12, 13, 14, 15] rfl)
    have J226_a91 : ∀  (x8 : Int32) (x9 : Int32) (x11 : Int32) (x12 : Int32) (x14 : Int32) (x15 : Int32) (x16 : Int32) (z0 : Int32) (hF : j_L_isSo_226_a91 x g k ln pr lb mk ya91 rec x8 x9 x11 x12 x14 x15 x16 z0 = some X) (H : Heap) (locs : List Loc) (ls : Array Slot) (hP : va_P Z.1 vwCl (List.flatten [w_SP Z mm u x, w_Arr Z.2.1 2 ag g, w_Arr Z.2.1 41 ak k, w_Arr Z.2.1 41 al ln, w_Arr Z.2.1 41 ap pr, w_Arr Z.2.1 41 ab lb, w_Arr Z.2.1 41 am mk, w_Arr Z.2.1 41 a91 ya91]) H) (hD : va_D A (List.flatten [w_SP Z mm u x, w_Arr Z.2.1 2 ag g, w_Arr Z.2.1 41 ak k, w_Arr Z.2.1 41 al ln, w_Arr Z.2.1 41 ap pr, w_Arr Z.2.1 41 ab lb, w_Arr Z.2.1 41 am mk, w_Arr Z.2.1 41 a91 ya91])) (hS : va_S A s.heap H locs) (hl : lv_has ls 20 [(0, .ref mm), (1, .ref ag), (2, .ref ak), (3, .ref al), (4, .ref ap), (5, .ref ab), (6, .ref am), (7, .ref a91), (8, .int x8), (9, .int x9), (11, .int x11), (12, .int x12), (14, .int x14), (15, .int x15), (16, .int x16)]), W p l e rm_L_isSo s m ([.ref mm, .ref ag, .ref ak, .ref al, .ref ap, .ref ab, .ref am] : List Value).toArray below meth c H locs 1 41 Q (F0 m 226 ls [.int z0]) := by
      intro x8 x9 x11 x12 x14 x15 x16 z0 hF H locs ls hP hD hS hl
      unfold j_L_isSo_226_a91 at hF
      refine lv_iconst (v := 0) hx hb (z_d hL_isSo_2 4 rfl) (by decide) ?_
      exact J227_a91 x8 x9 x11 x12 x14 x15 x16 0 z0 hF _ _ ls hP hD hS (lv_sub hl [0, 1, 2, 3, 4, 5, 6, 7, 8, 9, 10, 11, 12, 13, 14] rfl)
    have J204_a91 : ∀  (x8 : Int32) (x10 : Int32) (x11 : Int32) (x12 : Int32) (x14 : Int32) (x15 : Int32) (x16 : Int32) (z0 : Int32) (z1 : Int32) (hF : j_L_isSo_204_a91 x g k ln pr lb mk ya91 rec x8 x10 x11 x12 x14 x15 x16 z0 z1 = some X) (H : Heap) (locs : List Loc) (ls : Array Slot) (hP : va_P Z.1 vwCl (List.flatten [w_SP Z mm u x, w_Arr Z.2.1 2 ag g, w_Arr Z.2.1 41 ak k, w_Arr Z.2.1 41 al ln, w_Arr Z.2.1 41 ap pr, w_Arr Z.2.1 41 ab lb, w_Arr Z.2.1 41 am mk, w_Arr Z.2.1 41 a91 ya91]) H) (hD : va_D A (List.flatten [w_SP Z mm u x, w_Arr Z.2.1 2 ag g, w_Arr Z.2.1 41 ak k, w_Arr Z.2.1 41 al ln, w_Arr Z.2.1 41 ap pr, w_Arr Z.2.1 41 ab lb, w_Arr Z.2.1 41 am mk, w_Arr Z.2.1 41 a91 ya91])) (hS : va_S A s.heap H locs) (hl : lv_has ls 20 [(0, .ref mm), (1, .ref ag), (2, .ref ak), (3, .ref al), (4, .ref ap), (5, .ref ab), (6, .ref am), (7, .ref a91), (8, .int x8), (10, .int x10), (11, .int x11), (12, .int x12), (14, .int x14), (15, .int x15), (16, .int x16)]), W p l e rm_L_isSo s m ([.ref mm, .ref ag, .ref ak, .ref al, .ref ap, .ref ab, .ref am] : List Value).toArray below meth c H locs 1 41 Q (F0 m 204 ls [.int z0, .int z1]) := by
      intro x8 x10 x11 x12 x14 x15 x16 z0 z1 hF H locs ls hP hD hS hl
      unfold j_L_isSo_204_a91 at hF
      refine lv_iadd hx hb (z_d hL_isSo_1 53 rfl) ?_
      refine z_let hF (fun u11 hu11 hF => ?_)
      refine lv_topE hu11 ?_
      refine lv_istore (lv' := [(9, .int u11), (0, .ref mm), (1, .ref ag), (2, .ref ak), (3, .ref al), (4, .ref ap), (5, .ref ab), (6, .ref am), (7, .ref a91), (8, .int x8), (10, .int x10), (11, .int x11), (12, .int x12), (14, .int x14), (15, .int x15), (16, .int x16)]) hx hb (z_d hL_isSo_1 54 rfl) hl (by decide) rfl (fun ls hl => ?_)
      refine lv_iload hx hb (z_d hL_isSo_1 55 rfl) (lv_at hl 10 rfl) ?_
      refine lv_iload hx hb (z_d hL_isSo_1 56 rfl) (lv_at hl 14 rfl) ?_
      refine lv_if_eq (tgt := 226) hx hb (z_d hL_isSo_1 57 rfl) (by decide) (fun hc211 => ?_) (fun hc211 => ?_)
      · have hF := z_pos hc211 hF
        exact J226_a91 x8 u11 x11 x12 x14 x15 x16 x10 hF _ _ ls hP hD hS (lv_sub hl [1, 2, 3, 4, 5, 6, 7, 8, 9, 0, 11, 12, 13, 14, 15] rfl)
      · have hF := z_neg hc211 hF
        refine lv_aload hx hb (z_d hL_isSo_1 58 rfl) (lv_at hl 6 rfl) ?_
        refine lv_iload hx hb (z_d hL_isSo_1 59 rfl) (lv_at hl 13 rfl) ?_
        refine z_ix hF (fun hin hF => ?_)
        refine va_iald (D := Z.1) (f := lb) hx hb hK.1 (zP_reg hP 5 rfl) 0 0 rfl rfl hin (z_d hL_isSo_2 0 rfl) ?_
        refine z_let hF (fun u82 hu82 hF => ?_)
        refine lv_topE hu82 ?_
        refine lv_if_lt (tgt := 226) hx hb (z_d hL_isSo_2 1 rfl) (by decide) (fun hc219 => ?_) (fun hc219 => ?_)
        · have hF := z_pos hc219 hF
          exact J226_a91 x8 u11 x11 x12 x14 x15 x16 x10 hF _ _ ls hP hD hS (lv_sub hl [1, 2, 3, 4, 5, 6, 7, 8, 9, 0, 11, 12, 13, 14, 15] rfl)
        · have hF := z_neg hc219 hF
          refine lv_iconst (v := 1) hx hb (z_d hL_isSo_2 2 rfl) (by decide) ?_
          refine lv_goto (tgt := 227) hx hb (z_d hL_isSo_2 3 rfl) (by decide) ?_
          exact J227_a91 x8 u11 x11 x12 x14 x15 x16 1 x10 hF _ _ ls hP hD hS (lv_sub hl [1, 2, 3, 4, 5, 6, 7, 8, 9, 0, 11, 12, 13, 14, 15] rfl)
    have J189_a91 : ∀  (x9 : Int32) (x10 : Int32) (x11 : Int32) (x12 : Int32) (x14 : Int32) (x15 : Int32) (x16 : Int32) (z0 : Int32) (z1 : Int32) (hF : j_L_isSo_189_a91 x g k ln pr lb mk ya91 rec x9 x10 x11 x12 x14 x15 x16 z0 z1 = some X) (H : Heap) (locs : List Loc) (ls : Array Slot) (hP : va_P Z.1 vwCl (List.flatten [w_SP Z mm u x, w_Arr Z.2.1 2 ag g, w_Arr Z.2.1 41 ak k, w_Arr Z.2.1 41 al ln, w_Arr Z.2.1 41 ap pr, w_Arr Z.2.1 41 ab lb, w_Arr Z.2.1 41 am mk, w_Arr Z.2.1 41 a91 ya91]) H) (hD : va_D A (List.flatten [w_SP Z mm u x, w_Arr Z.2.1 2 ag g, w_Arr Z.2.1 41 ak k, w_Arr Z.2.1 41 al ln, w_Arr Z.2.1 41 ap pr, w_Arr Z.2.1 41 ab lb, w_Arr Z.2.1 41 am mk, w_Arr Z.2.1 41 a91 ya91])) (hS : va_S A s.heap H locs) (hl : lv_has ls 20 [(0, .ref mm), (1, .ref ag), (2, .ref ak), (3, .ref al), (4, .ref ap), (5, .ref ab), (6, .ref am), (7, .ref a91), (9, .int x9), (10, .int x10), (11, .int x11), (12, .int x12), (14, .int x14), (15, .int x15), (16, .int x16)]), W p l e rm_L_isSo s m ([.ref mm, .ref ag, .ref ak, .ref al, .ref ap, .ref ab, .ref am] : List Value).toArray below meth c H locs 1 41 Q (F0 m 189 ls [.int z0, .int z1]) := by
      intro x9 x10 x11 x12 x14 x15 x16 z0 z1 hF H locs ls hP hD hS hl
      unfold j_L_isSo_189_a91 at hF
      refine lv_iadd hx hb (z_d hL_isSo_1 45 rfl) ?_
      refine z_let hF (fun u10 hu10 hF => ?_)
      refine lv_topE hu10 ?_
      refine lv_istore (lv' := [(8, .int u10), (0, .ref mm), (1, .ref ag), (2, .ref ak), (3, .ref al), (4, .ref ap), (5, .ref ab), (6, .ref am), (7, .ref a91), (9, .int x9), (10, .int x10), (11, .int x11), (12, .int x12), (14, .int x14), (15, .int x15), (16, .int x16)]) hx hb (z_d hL_isSo_1 46 rfl) hl (by decide) rfl (fun ls hl => ?_)
      refine lv_iload hx hb (z_d hL_isSo_1 47 rfl) (lv_at hl 9 rfl) ?_
      refine lv_iload hx hb (z_d hL_isSo_1 48 rfl) (lv_at hl 15 rfl) ?_
      refine lv_if_eq (tgt := 203) hx hb (z_d hL_isSo_1 49 rfl) (by decide) (fun hc196 => ?_) (fun hc196 => ?_)
      · have hF := z_pos hc196 hF
        refine lv_iconst (v := 0) hx hb (z_d hL_isSo_1 52 rfl) (by decide) ?_
        exact J204_a91 u10 x10 x11 x12 x14 x15 x16 0 x9 hF _ _ ls hP hD hS (lv_sub hl [1, 2, 3, 4, 5, 6, 7, 8, 0, 10, 11, 12, 13, 14, 15] rfl)
      · have hF := z_neg hc196 hF
        refine lv_iconst (v := 1) hx hb (z_d hL_isSo_1 50 rfl) (by decide) ?_
        refine lv_goto (tgt := 204) hx hb (z_d hL_isSo_1 51 rfl) (by decide) ?_
        exact J204_a91 u10 x10 x11 x12 x14 x15 x16 1 x9 hF _ _ ls hP hD hS (lv_sub hl [1, 2, 3, 4, 5, 6, 7, 8, 0, 10, 11, 12, 13, 14, 15] rfl)
    have J172_a91 : ∀  (x8 : Int32) (x9 : Int32) (x10 : Int32) (x11 : Int32) (x14 : Int32) (x15 : Int32) (x16 : Int32) (z0 : Int32) (hF : j_L_isSo_172_a91 x g k ln pr lb mk ya91 rec x8 x9 x10 x11 x14 x15 x16 z0 = some X) (H : Heap) (locs : List Loc) (ls : Array Slot) (hP : va_P Z.1 vwCl (List.flatten [w_SP Z mm u x, w_Arr Z.2.1 2 ag g, w_Arr Z.2.1 41 ak k, w_Arr Z.2.1 41 al ln, w_Arr Z.2.1 41 ap pr, w_Arr Z.2.1 41 ab lb, w_Arr Z.2.1 41 am mk, w_Arr Z.2.1 41 a91 ya91]) H) (hD : va_D A (List.flatten [w_SP Z mm u x, w_Arr Z.2.1 2 ag g, w_Arr Z.2.1 41 ak k, w_Arr Z.2.1 41 al ln, w_Arr Z.2.1 41 ap pr, w_Arr Z.2.1 41 ab lb, w_Arr Z.2.1 41 am mk, w_Arr Z.2.1 41 a91 ya91])) (hS : va_S A s.heap H locs) (hl : lv_has ls 20 [(0, .ref mm), (1, .ref ag), (2, .ref ak), (3, .ref al), (4, .ref ap), (5, .ref ab), (6, .ref am), (7, .ref a91), (8, .int x8), (9, .int x9), (10, .int x10), (11, .int x11), (14, .int x14), (15, .int x15), (16, .int x16)]), W p l e rm_L_isSo s m ([.ref mm, .ref ag, .ref ak, .ref al, .ref ap, .ref ab, .ref am] : List Value).toArray below meth c H locs 1 41 Q (F0 m 172 ls [.int z0]) := by
      intro x8 x9 x10 x11 x14 x15 x16 z0 hF H locs ls hP hD hS hl
      unfold j_L_isSo_172_a91 at hF
      refine lv_istore (lv' := [(12, .int z0), (0, .ref mm), (1, .ref ag), (2, .ref ak), (3, .ref al), (4, .ref ap), (5, .ref ab), (6, .ref am), (7, .ref a91), (8, .int x8), (9, .int x9), (10, .int x10), (11, .int x11), (14, .int x14), (15, .int x15), (16, .int x16)]) hx hb (z_d hL_isSo_1 36 rfl) hl (by decide) rfl (fun ls hl => ?_)
      refine lv_iload hx hb (z_d hL_isSo_1 37 rfl) (lv_at hl 9 rfl) ?_
      refine lv_aload hx hb (z_d hL_isSo_1 38 rfl) (lv_at hl 7 rfl) ?_
      refine lv_iload hx hb (z_d hL_isSo_1 39 rfl) (lv_at hl 13 rfl) ?_
      refine z_ix hF (fun hin hF => ?_)
      refine va_iald (D := Z.1) (f := mk) hx hb hK.1 (zP_reg hP 6 rfl) 0 0 rfl rfl hin (z_d hL_isSo_1 40 rfl) ?_
      refine z_let hF (fun u9 hu9 hF => ?_)
      refine lv_topE hu9 ?_
      refine lv_if_le (tgt := 188) hx hb (z_d hL_isSo_1 41 rfl) (by decide) (fun hc181 => ?_) (fun hc181 => ?_)
      · have hF := z_pos hc181 hF
        refine lv_iconst (v := 0) hx hb (z_d hL_isSo_1 44 rfl) (by decide) ?_
        exact J189_a91 x9 x10 x11 z0 x14 x15 x16 0 x8 hF _ _ ls hP hD hS (lv_sub hl [1, 2, 3, 4, 5, 6, 7, 8, 10, 11, 12, 0, 13, 14, 15] rfl)
      · have hF := z_neg hc181 hF
        refine lv_iconst (v := 1) hx hb (z_d hL_isSo_1 42 rfl) (by decide) ?_
        refine lv_goto (tgt := 189) hx hb (z_d hL_isSo_1 43 rfl) (by decide) ?_
        exact J189_a91 x9 x10 x11 z0 x14 x15 x16 1 x8 hF _ _ ls hP hD hS (lv_sub hl [1, 2, 3, 4, 5, 6, 7, 8, 10, 11, 12, 0, 13, 14, 15] rfl)
    have J152_a91 : ∀  (x8 : Int32) (x9 : Int32) (x10 : Int32) (x11 : Int32) (x12 : Int32) (x14 : Int32) (x15 : Int32) (z0 : Int32) (hF : j_L_isSo_152_a91 x g k ln pr lb mk ya91 rec x8 x9 x10 x11 x12 x14 x15 z0 = some X) (H : Heap) (locs : List Loc) (ls : Array Slot) (hP : va_P Z.1 vwCl (List.flatten [w_SP Z mm u x, w_Arr Z.2.1 2 ag g, w_Arr Z.2.1 41 ak k, w_Arr Z.2.1 41 al ln, w_Arr Z.2.1 41 ap pr, w_Arr Z.2.1 41 ab lb, w_Arr Z.2.1 41 am mk, w_Arr Z.2.1 41 a91 ya91]) H) (hD : va_D A (List.flatten [w_SP Z mm u x, w_Arr Z.2.1 2 ag g, w_Arr Z.2.1 41 ak k, w_Arr Z.2.1 41 al ln, w_Arr Z.2.1 41 ap pr, w_Arr Z.2.1 41 ab lb, w_Arr Z.2.1 41 am mk, w_Arr Z.2.1 41 a91 ya91])) (hS : va_S A s.heap H locs) (hl : lv_has ls 20 [(0, .ref mm), (1, .ref ag), (2, .ref ak), (3, .ref al), (4, .ref ap), (5, .ref ab), (6, .ref am), (7, .ref a91), (8, .int x8), (9, .int x9), (10, .int x10), (11, .int x11), (12, .int x12), (14, .int x14), (15, .int x15)]), W p l e rm_L_isSo s m ([.ref mm, .ref ag, .ref ak, .ref al, .ref ap, .ref ab, .ref am] : List Value).toArray below meth c H locs 1 41 Q (F0 m 152 ls [.int z0]) := by
      intro x8 x9 x10 x11 x12 x14 x15 z0 hF H locs ls hP hD hS hl
      unfold j_L_isSo_152_a91 at hF
      refine lv_istore (lv' := [(16, .int z0), (0, .ref mm), (1, .ref ag), (2, .ref ak), (3, .ref al), (4, .ref ap), (5, .ref ab), (6, .ref am), (7, .ref a91), (8, .int x8), (9, .int x9), (10, .int x10), (11, .int x11), (12, .int x12), (14, .int x14), (15, .int x15)]) hx hb (z_d hL_isSo_1 25 rfl) hl (by decide) rfl (fun ls hl => ?_)
      refine lv_aload_n hx hb (z_d hL_isSo_1 26 rfl) rfl (lv_at hl 3 rfl) ?_
      refine lv_iload hx hb (z_d hL_isSo_1 27 rfl) (lv_at hl 14 rfl) ?_
      refine z_ix hF (fun hin hF => ?_)
      refine va_iald (D := Z.1) (f := k) hx hb hK.1 (zP_reg hP 2 rfl) 0 0 rfl rfl hin (z_d hL_isSo_1 28 rfl) ?_
      refine z_let hF (fun u8 hu8 hF => ?_)
      refine lv_topE hu8 ?_
      refine lv_iconst (v := 2) hx hb (z_d hL_isSo_1 29 rfl) (by decide) ?_
      refine lv_icmp_ne (tgt := 170) hx hb (z_d hL_isSo_1 30 rfl) (by decide) (fun hc159 => ?_) (fun hc159 => ?_)
      · have hF := z_neg hc159 hF
        refine lv_iload hx hb (z_d hL_isSo_1 35 rfl) (lv_at hl 13 rfl) ?_
        exact J172_a91 x8 x9 x10 x11 x14 x15 z0 x12 hF _ _ ls hP hD hS (lv_sub hl [1, 2, 3, 4, 5, 6, 7, 8, 9, 10, 11, 12, 14, 15, 0] rfl)
      · have hF := z_pos hc159 hF
        refine lv_aload hx hb (z_d hL_isSo_1 31 rfl) (lv_at hl 5 rfl) ?_
        refine lv_iload hx hb (z_d hL_isSo_1 32 rfl) (lv_at hl 14 rfl) ?_
        refine z_ix hF (fun hin hF => ?_)
        refine va_iald (D := Z.1) (f := pr) hx hb hK.1 (zP_reg hP 4 rfl) 0 0 rfl rfl hin (z_d hL_isSo_1 33 rfl) ?_
        refine z_let hF (fun u83 hu83 hF => ?_)
        refine lv_topE hu83 ?_
        refine lv_goto (tgt := 172) hx hb (z_d hL_isSo_1 34 rfl) (by decide) ?_
        exact J172_a91 x8 x9 x10 x11 x14 x15 z0 u83 hF _ _ ls hP hD hS (lv_sub hl [1, 2, 3, 4, 5, 6, 7, 8, 9, 10, 11, 12, 14, 15, 0] rfl)
    have J151_a91 : ∀  (x8 : Int32) (x9 : Int32) (x10 : Int32) (x11 : Int32) (x12 : Int32) (x14 : Int32) (x15 : Int32) (hF : j_L_isSo_151_a91 x g k ln pr lb mk ya91 rec x8 x9 x10 x11 x12 x14 x15 = some X) (H : Heap) (locs : List Loc) (ls : Array Slot) (hP : va_P Z.1 vwCl (List.flatten [w_SP Z mm u x, w_Arr Z.2.1 2 ag g, w_Arr Z.2.1 41 ak k, w_Arr Z.2.1 41 al ln, w_Arr Z.2.1 41 ap pr, w_Arr Z.2.1 41 ab lb, w_Arr Z.2.1 41 am mk, w_Arr Z.2.1 41 a91 ya91]) H) (hD : va_D A (List.flatten [w_SP Z mm u x, w_Arr Z.2.1 2 ag g, w_Arr Z.2.1 41 ak k, w_Arr Z.2.1 41 al ln, w_Arr Z.2.1 41 ap pr, w_Arr Z.2.1 41 ab lb, w_Arr Z.2.1 41 am mk, w_Arr Z.2.1 41 a91 ya91])) (hS : va_S A s.heap H locs) (hl : lv_has ls 20 [(0, .ref mm), (1, .ref ag), (2, .ref ak), (3, .ref al), (4, .ref ap), (5, .ref ab), (6, .ref am), (7, .ref a91), (8, .int x8), (9, .int x9), (10, .int x10), (11, .int x11), (12, .int x12), (14, .int x14), (15, .int x15)]), W p l e rm_L_isSo s m ([.ref mm, .ref ag, .ref ak, .ref al, .ref ap, .ref ab, .ref am] : List Value).toArray below meth c H locs 1 41 Q (F0 m 151 ls []) := by
      intro x8 x9 x10 x11 x12 x14 x15 hF H locs ls hP hD hS hl
      unfold j_L_isSo_151_a91 at hF
      refine lv_iconst (v := 0) hx hb (z_d hL_isSo_1 24 rfl) (by decide) ?_
      exact J152_a91 x8 x9 x10 x11 x12 x14 x15 0 hF _ _ ls hP hD hS (lv_sub hl [0, 1, 2, 3, 4, 5, 6, 7, 8, 9, 10, 11, 12, 13, 14] rfl)
    have J122_a91 : ∀  (x8 : Int32) (x9 : Int32) (x10 : Int32) (x11 : Int32) (x14 : Int32) (x15 : Int32) (z0 : Int32) (hF : j_L_isSo_122_a91 x g k ln pr lb mk ya91 rec x8 x9 x10 x11 x14 x15 z0 = some X) (H : Heap) (locs : List Loc) (ls : Array Slot) (hP : va_P Z.1 vwCl (List.flatten [w_SP Z mm u x, w_Arr Z.2.1 2 ag g, w_Arr Z.2.1 41 ak k, w_Arr Z.2.1 41 al ln, w_Arr Z.2.1 41 ap pr, w_Arr Z.2.1 41 ab lb, w_Arr Z.2.1 41 am mk, w_Arr Z.2.1 41 a91 ya91]) H) (hD : va_D A (List.flatten [w_SP Z mm u x, w_Arr Z.2.1 2 ag g, w_Arr Z.2.1 41 ak k, w_Arr Z.2.1 41 al ln, w_Arr Z.2.1 41 ap pr, w_Arr Z.2.1 41 ab lb, w_Arr Z.2.1 41 am mk, w_Arr Z.2.1 41 a91 ya91])) (hS : va_S A s.heap H locs) (hl : lv_has ls 20 [(0, .ref mm), (1, .ref ag), (2, .ref ak), (3, .ref al), (4, .ref ap), (5, .ref ab), (6, .ref am), (7, .ref a91), (8, .int x8), (9, .int x9), (10, .int x10), (11, .int x11), (14, .int x14), (15, .int x15)]), W p l e rm_L_isSo s m ([.ref mm, .ref ag, .ref ak, .ref al, .ref ap, .ref ab, .ref am] : List Value).toArray below meth c H locs 1 41 Q (F0 m 122 ls [.int z0]) := by
      intro x8 x9 x10 x11 x14 x15 z0 hF H locs ls hP hD hS hl
      unfold j_L_isSo_122_a91 at hF
      refine lv_istore (lv' := [(12, .int z0), (0, .ref mm), (1, .ref ag), (2, .ref ak), (3, .ref al), (4, .ref ap), (5, .ref ab), (6, .ref am), (7, .ref a91), (8, .int x8), (9, .int x9), (10, .int x10), (11, .int x11), (14, .int x14), (15, .int x15)]) hx hb (z_d hL_isSo_1 9 rfl) hl (by decide) rfl (fun ls hl => ?_)
      refine lv_aload_n hx hb (z_d hL_isSo_1 10 rfl) rfl (lv_at hl 3 rfl) ?_
      refine lv_iload hx hb (z_d hL_isSo_1 11 rfl) (lv_at hl 13 rfl) ?_
      refine z_ix hF (fun hin hF => ?_)
      refine va_iald (D := Z.1) (f := k) hx hb hK.1 (zP_reg hP 2 rfl) 0 0 rfl rfl hin (z_d hL_isSo_1 12 rfl) ?_
      refine z_let hF (fun u7 hu7 hF => ?_)
      refine lv_topE hu7 ?_
      refine lv_iconst (v := 2) hx hb (z_d hL_isSo_1 13 rfl) (by decide) ?_
      refine lv_icmp_ne (tgt := 151) hx hb (z_d hL_isSo_1 14 rfl) (by decide) (fun hc129 => ?_) (fun hc129 => ?_)
      · have hF := z_neg hc129 hF
        exact J151_a91 x8 x9 x10 x11 z0 x14 x15 hF _ _ ls hP hD hS (lv_sub hl [1, 2, 3, 4, 5, 6, 7, 8, 9, 10, 11, 12, 0, 13, 14] rfl)
      · have hF := z_pos hc129 hF
        refine lv_iload hx hb (z_d hL_isSo_1 15 rfl) (lv_at hl 12 rfl) ?_
        refine lv_if_lt (tgt := 151) hx hb (z_d hL_isSo_1 16 rfl) (by decide) (fun hc134 => ?_) (fun hc134 => ?_)
        · have hF := z_pos hc134 hF
          exact J151_a91 x8 x9 x10 x11 z0 x14 x15 hF _ _ ls hP hD hS (lv_sub hl [1, 2, 3, 4, 5, 6, 7, 8, 9, 10, 11, 12, 0, 13, 14] rfl)
        · have hF := z_neg hc134 hF
          refine lv_iload hx hb (z_d hL_isSo_1 17 rfl) (lv_at hl 0 rfl) ?_
          refine lv_aload hx hb (z_d hL_isSo_1 18 rfl) (lv_at hl 5 rfl) ?_
          refine lv_iload hx hb (z_d hL_isSo_1 19 rfl) (lv_at hl 13 rfl) ?_
          refine z_ix hF (fun hin hF => ?_)
          refine va_iald (D := Z.1) (f := pr) hx hb hK.1 (zP_reg hP 4 rfl) 0 0 rfl rfl hin (z_d hL_isSo_1 20 rfl) ?_
          refine z_let hF (fun u84 hu84 hF => ?_)
          refine lv_topE hu84 ?_
          refine lv_icmp_ne (tgt := 151) hx hb (z_d hL_isSo_1 21 rfl) (by decide) (fun hc144 => ?_) (fun hc144 => ?_)
          · have hF := z_neg hc144 hF
            exact J151_a91 x8 x9 x10 x11 z0 x14 x15 hF _ _ ls hP hD hS (lv_sub hl [1, 2, 3, 4, 5, 6, 7, 8, 9, 10, 11, 12, 0, 13, 14] rfl)
          · have hF := z_pos hc144 hF
            refine lv_iconst (v := 1) hx hb (z_d hL_isSo_1 22 rfl) (by decide) ?_
            refine lv_goto (tgt := 152) hx hb (z_d hL_isSo_1 23 rfl) (by decide) ?_
            exact J152_a91 x8 x9 x10 x11 z0 x14 x15 1 hF _ _ ls hP hD hS (lv_sub hl [1, 2, 3, 4, 5, 6, 7, 8, 9, 10, 11, 12, 0, 13, 14] rfl)
    have J108_a91 : ∀  (x8 : Int32) (x9 : Int32) (x10 : Int32) (x12 : Int32) (x14 : Int32) (x15 : Int32) (z0 : Int32) (z1 : Int32) (hF : j_L_isSo_108_a91 x g k ln pr lb mk ya91 rec x8 x9 x10 x12 x14 x15 z0 z1 = some X) (H : Heap) (locs : List Loc) (ls : Array Slot) (hP : va_P Z.1 vwCl (List.flatten [w_SP Z mm u x, w_Arr Z.2.1 2 ag g, w_Arr Z.2.1 41 ak k, w_Arr Z.2.1 41 al ln, w_Arr Z.2.1 41 ap pr, w_Arr Z.2.1 41 ab lb, w_Arr Z.2.1 41 am mk, w_Arr Z.2.1 41 a91 ya91]) H) (hD : va_D A (List.flatten [w_SP Z mm u x, w_Arr Z.2.1 2 ag g, w_Arr Z.2.1 41 ak k, w_Arr Z.2.1 41 al ln, w_Arr Z.2.1 41 ap pr, w_Arr Z.2.1 41 ab lb, w_Arr Z.2.1 41 am mk, w_Arr Z.2.1 41 a91 ya91])) (hS : va_S A s.heap H locs) (hl : lv_has ls 20 [(0, .ref mm), (1, .ref ag), (2, .ref ak), (3, .ref al), (4, .ref ap), (5, .ref ab), (6, .ref am), (7, .ref a91), (8, .int x8), (9, .int x9), (10, .int x10), (12, .int x12), (14, .int x14), (15, .int x15)]), W p l e rm_L_isSo s m ([.ref mm, .ref ag, .ref ak, .ref al, .ref ap, .ref ab, .ref am] : List Value).toArray below meth c H locs 1 41 Q (F0 m 108 ls [.int z0, .int z1]) := by
      intro x8 x9 x10 x12 x14 x15 z0 z1 hF H locs ls hP hD hS hl
      unfold j_L_isSo_108_a91 at hF
      refine lv_iadd hx hb (z_d hL_isSo_1 2 rfl) ?_
      refine z_let hF (fun u6 hu6 hF => ?_)
      refine lv_topE hu6 ?_
      refine lv_istore (lv' := [(11, .int u6), (0, .ref mm), (1, .ref ag), (2, .ref ak), (3, .ref al), (4, .ref ap), (5, .ref ab), (6, .ref am), (7, .ref a91), (8, .int x8), (9, .int x9), (10, .int x10), (12, .int x12), (14, .int x14), (15, .int x15)]) hx hb (z_d hL_isSo_1 3 rfl) hl (by decide) rfl (fun ls hl => ?_)
      refine lv_iload hx hb (z_d hL_isSo_1 4 rfl) (lv_at hl 14 rfl) ?_
      refine lv_if_eq (tgt := 120) hx hb (z_d hL_isSo_1 5 rfl) (by decide) (fun hc113 => ?_) (fun hc113 => ?_)
      · have hF := z_pos hc113 hF
        refine lv_iload hx hb (z_d hL_isSo_1 8 rfl) (lv_at hl 12 rfl) ?_
        exact J122_a91 x8 x9 x10 u6 x14 x15 x12 hF _ _ ls hP hD hS (lv_sub hl [1, 2, 3, 4, 5, 6, 7, 8, 9, 10, 11, 0, 13, 14] rfl)
      · have hF := z_neg hc113 hF
        refine lv_iconst (v := (-1)) hx hb (z_d hL_isSo_1 6 rfl) (by decide) ?_
        refine lv_goto (tgt := 122) hx hb (z_d hL_isSo_1 7 rfl) (by decide) ?_
        exact J122_a91 x8 x9 x10 u6 x14 x15 (-1) hF _ _ ls hP hD hS (lv_sub hl [1, 2, 3, 4, 5, 6, 7, 8, 9, 10, 11, 0, 13, 14] rfl)
    refine lv_iload hx hb (z_d hL_isSo_0 45 rfl) (lv_at hl 14 rfl) ?_
    refine lv_aload_n hx hb (z_d hL_isSo_0 46 rfl) rfl (lv_at hl 1 rfl) ?_
    refine lv_iconst (v := 0) hx hb (z_d hL_isSo_0 47 rfl) (by decide) ?_
    refine z_ix hF (fun hin hF => ?_)
    refine va_iald (D := Z.1) (f := g) hx hb hK.1 (zP_reg hP 1 rfl) 0 0 rfl rfl hin (z_d hL_isSo_0 48 rfl) ?_
    refine z_let hF (fun u4 hu4 hF => ?_)
    refine lv_topE hu4 ?_
    refine lv_icmp_ge (tgt := 636) hx hb (z_d hL_isSo_0 49 rfl) (by decide) (fun hc80 => ?_) (fun hc80 => ?_)
    · have hF := z_pos hc80 hF
      obtain rfl := Option.some.inj hF
      exact K1 _ _ ls hP hD hS (lv_sub hl [0, 1, 2, 3, 4, 5, 6, 8, 9, 10, 13] rfl)
    · have hF := z_neg hc80 hF
      refine lv_iload hx hb (z_d hL_isSo_0 50 rfl) (lv_at hl 13 rfl) ?_
      refine lv_if_eq (tgt := 636) hx hb (z_d hL_isSo_0 51 rfl) (by decide) (fun hc85 => ?_) (fun hc85 => ?_)
      · have hF := z_pos hc85 hF
        obtain rfl := Option.some.inj hF
        exact K1 _ _ ls hP hD hS (lv_sub hl [0, 1, 2, 3, 4, 5, 6, 8, 9, 10, 13] rfl)
      · have hF := z_neg hc85 hF
        refine lv_aload_n hx hb (z_d hL_isSo_0 52 rfl) rfl (lv_at hl 2 rfl) ?_
        refine lv_iload hx hb (z_d hL_isSo_0 53 rfl) (lv_at hl 14 rfl) ?_
        refine z_bnd hF (fun q5 hq5 hF => ?_)
        refine z_ro_i (z_rS (As := [.ref ak, .int v.2.2.2.2.2.2]) (rest := []) hx hb hml hown hts vs_L_heads (c_L_heads l Z ak k v.2.2.2.2.2.2 _ hq5) rfl rfl ⟨Nat.le_of_ble_eq_true rfl, Nat.le_of_ble_eq_true rfl⟩ k_m_L_9 zPro_blind (z_prec hK (zP_c (zP_reg hP 2 rfl) zP_n)) rfl hl.1 (Nat.le_of_ble_eq_true rfl) (z_d hL_isSo_0 54 rfl) ⟨Nat.le_of_ble_eq_true rfl, Nat.le_of_ble_eq_true rfl⟩) hS hP (fun H locs hP hS => ?_)
        refine lv_istore (lv' := [(15, .int q5), (0, .ref mm), (1, .ref ag), (2, .ref ak), (3, .ref al), (4, .ref ap), (5, .ref ab), (6, .ref am), (7, .ref a91), (8, .int v.1), (9, .int v.2.1), (10, .int v.2.2.1), (11, .int v.2.2.2.1), (12, .int v.2.2.2.2.1), (13, .int v.2.2.2.2.2.1), (14, .int v.2.2.2.2.2.2)]) hx hb (z_d hL_isSo_0 55 rfl) hl (by decide) rfl (fun ls hl => ?_)
        refine lv_iload hx hb (z_d hL_isSo_0 56 rfl) (lv_at hl 12 rfl) ?_
        refine lv_iload hx hb (z_d hL_isSo_0 57 rfl) (lv_at hl 0 rfl) ?_
        refine lv_if_eq (tgt := 107) hx hb (z_d hL_isSo_0 58 rfl) (by decide) (fun hc100 => ?_) (fun hc100 => ?_)
        · have hF := z_pos hc100 hF
          refine lv_iconst (v := 0) hx hb (z_d hL_isSo_1 1 rfl) (by decide) ?_
          exact J108_a91 v.1 v.2.1 v.2.2.1 v.2.2.2.2.1 v.2.2.2.2.2.2 q5 0 v.2.2.2.1 hF _ _ ls hP hD hS (lv_sub hl [1, 2, 3, 4, 5, 6, 7, 8, 9, 10, 11, 13, 15, 0] rfl)
        · have hF := z_neg hc100 hF
          refine lv_iconst (v := 1) hx hb (z_d hL_isSo_0 59 rfl) (by decide) ?_
          refine lv_goto (tgt := 108) hx hb (z_d hL_isSo_1 0 rfl) (by decide) ?_
          exact J108_a91 v.1 v.2.1 v.2.2.1 v.2.2.2.2.1 v.2.2.2.2.2.2 q5 1 v.2.2.2.1 hF _ _ ls hP hD hS (lv_sub hl [1, 2, 3, 4, 5, 6, 7, 8, 9, 10, 11, 13, 15, 0] rfl)
  have L645 : ∀ (a91 : Nat) (ya91 : Rw) (x8 : Int32) (x9 : Int32) (x10 : Int32) (n : Nat) (v : Int32 × Int32 × Int32 × Int32) (X : Int32 × Int32 × Int32) (hF : zloop (b_L_isSo_645 x g k ln pr lb mk ya91 x8 x9 x10) n v = some X) (H : Heap) (locs : List Loc) (ls : Array Slot) (hP : va_P Z.1 vwCl (List.flatten [w_SP Z mm u x, w_Arr Z.2.1 2 ag g, w_Arr Z.2.1 41 ak k, w_Arr Z.2.1 41 al ln, w_Arr Z.2.1 41 ap pr, w_Arr Z.2.1 41 ab lb, w_Arr Z.2.1 41 am mk, w_Arr Z.2.1 41 a91 ya91]) H) (hD : va_D A (List.flatten [w_SP Z mm u x, w_Arr Z.2.1 2 ag g, w_Arr Z.2.1 41 ak k, w_Arr Z.2.1 41 al ln, w_Arr Z.2.1 41 ap pr, w_Arr Z.2.1 41 ab lb, w_Arr Z.2.1 41 am mk, w_Arr Z.2.1 41 a91 ya91])) (hS : va_S A s.heap H locs) (hl : lv_has ls 20 [(0, .ref mm), (1, .ref ag), (2, .ref ak), (3, .ref al), (4, .ref ap), (5, .ref ab), (6, .ref am), (8, .int x8), (9, .int x9), (10, .int x10), (13, .int v.1), (14, .int v.2.1), (15, .int v.2.2.1), (16, .int v.2.2.2)]) (K1 : ∀ (H : Heap) (locs : List Loc) (ls : Array Slot) (hP : va_P Z.1 vwCl (List.flatten [w_SP Z mm u x, w_Arr Z.2.1 2 ag g, w_Arr Z.2.1 41 ak k, w_Arr Z.2.1 41 al ln, w_Arr Z.2.1 41 ap pr, w_Arr Z.2.1 41 ab lb, w_Arr Z.2.1 41 am mk, w_Arr Z.2.1 41 a91 ya91]) H) (hD : va_D A (List.flatten [w_SP Z mm u x, w_Arr Z.2.1 2 ag g, w_Arr Z.2.1 41 ak k, w_Arr Z.2.1 41 al ln, w_Arr Z.2.1 41 ap pr, w_Arr Z.2.1 41 ab lb, w_Arr Z.2.1 41 am mk, w_Arr Z.2.1 41 a91 ya91])) (hS : va_S A s.heap H locs) (hl : lv_has ls 20 [(0, .ref mm), (1, .ref ag), (2, .ref ak), (3, .ref al), (4, .ref ap), (5, .ref ab), (6, .ref am), (8, .int x8), (9, .int x9), (10, .int x10), (13, .int X.1), (14, .int X.2.1), (15, .int X.2.2)]), W p l e rm_L_isSo s m ([.ref mm, .ref ag, .ref ak, .ref al, .ref ap, .ref ab, .ref am] : List Value).toArray below meth c H locs 1 41 Q (F0 m 749 ls [])), W p l e rm_L_isSo s m ([.ref mm, .ref ag, .ref ak, .ref al, .ref ap, .ref ab, .ref am] : List Value).toArray below meth c H locs 1 41 Q (F0 m 645 ls []) := by
    intro a91 ya91 x8 x9 x10
    refine z_loopE (fun rec ih v X hF H locs ls hP hD hS hl K1 => ?_)
    unfold b_L_isSo_645 at hF
    have L663 : ∀ (a91 : Nat) (ya91 : Rw) (x8 : Int32) (x9 : Int32) (x10 : Int32) (x14 : Int32) (x15 : Int32) (x16 : Int32) (n : Nat) (v : Int32 × Int32) (X : Int32) (hF : zloop (b_L_isSo_663 x g k ln pr lb mk ya91 x8 x9 x10 x14 x15 x16) n v = some X) (H : Heap) (locs : List Loc) (ls : Array Slot) (hP : va_P Z.1 vwCl (List.flatten [w_SP Z mm u x, w_Arr Z.2.1 2 ag g, w_Arr Z.2.1 41 ak k, w_Arr Z.2.1 41 al ln, w_Arr Z.2.1 41 ap pr, w_Arr Z.2.1 41 ab lb, w_Arr Z.2.1 41 am mk, w_Arr Z.2.1 41 a91 ya91]) H) (hD : va_D A (List.flatten [w_SP Z mm u x, w_Arr Z.2.1 2 ag g, w_Arr Z.2.1 41 ak k, w_Arr Z.2.1 41 al ln, w_Arr Z.2.1 41 ap pr, w_Arr Z.2.1 41 ab lb, w_Arr Z.2.1 41 am mk, w_Arr Z.2.1 41 a91 ya91])) (hS : va_S A s.heap H locs) (hl : lv_has ls 20 [(0, .ref mm), (1, .ref ag), (2, .ref ak), (3, .ref al), (4, .ref ap), (5, .ref ab), (6, .ref am), (8, .int x8), (9, .int x9), (10, .int x10), (14, .int x14), (15, .int x15), (16, .int x16), (17, .int v.1), (18, .int v.2)]) (K1 : ∀ (H : Heap) (locs : List Loc) (ls : Array Slot) (hP : va_P Z.1 vwCl (List.flatten [w_SP Z mm u x, w_Arr Z.2.1 2 ag g, w_Arr Z.2.1 41 ak k, w_Arr Z.2.1 41 al ln, w_Arr Z.2.1 41 ap pr, w_Arr Z.2.1 41 ab lb, w_Arr Z.2.1 41 am mk, w_Arr Z.2.1 41 a91 ya91]) H) (hD : va_D A (List.flatten [w_SP Z mm u x, w_Arr Z.2.1 2 ag g, w_Arr Z.2.1 41 ak k, w_Arr Z.2.1 41 al ln, w_Arr Z.2.1 41 ap pr, w_Arr Z.2.1 41 ab lb, w_Arr Z.2.1 41 am mk, w_Arr Z.2.1 41 a91 ya91])) (hS : va_S A s.heap H locs) (hl : lv_has ls 20 [(0, .ref mm), (1, .ref ag), (2, .ref ak), (3, .ref al), (4, .ref ap), (5, .ref ab), (6, .ref am), (8, .int x8), (9, .int x9), (10, .int x10), (14, .int x14), (15, .int x15), (16, .int x16), (17, .int X)]), W p l e rm_L_isSo s m ([.ref mm, .ref ag, .ref ak, .ref al, .ref ap, .ref ab, .ref am] : List Value).toArray below meth c H locs 1 41 Q (F0 m 705 ls [])), W p l e rm_L_isSo s m ([.ref mm, .ref ag, .ref ak, .ref al, .ref ap, .ref ab, .ref am] : List Value).toArray below meth c H locs 1 41 Q (F0 m 663 ls []) := by
      intro a91 ya91 x8 x9 x10 x14 x15 x16
      refine z_loopE (fun rec ih v X hF H locs ls hP hD hS hl K1 => ?_)
      unfold b_L_isSo_663 at hF
      refine lv_iload hx hb (z_d hL_isSo_6 2 rfl) (lv_at hl 14 rfl) ?_
      refine lv_aload_n hx hb (z_d hL_isSo_6 3 rfl) rfl (lv_at hl 1 rfl) ?_
      refine lv_iconst (v := 0) hx hb (z_d hL_isSo_6 4 rfl) (by decide) ?_
      refine z_ix hF (fun hin hF => ?_)
      refine va_iald (D := Z.1) (f := g) hx hb hK.1 (zP_reg hP 1 rfl) 0 0 rfl rfl hin (z_d hL_isSo_6 5 rfl) ?_
      refine z_let hF (fun u86 hu86 hF => ?_)
      refine lv_topE hu86 ?_
      refine lv_icmp_ge (tgt := 705) hx hb (z_d hL_isSo_6 6 rfl) (by decide) (fun hc668 => ?_) (fun hc668 => ?_)
      · have hF := z_pos hc668 hF
        obtain rfl := Option.some.inj hF
        exact K1 _ _ ls hP hD hS (lv_sub hl [0, 1, 2, 3, 4, 5, 6, 7, 8, 9, 10, 11, 12, 13] rfl)
      · have hF := z_neg hc668 hF
        refine lv_iload hx hb (z_d hL_isSo_6 7 rfl) (lv_at hl 13 rfl) ?_
        refine lv_aload_n hx hb (z_d hL_isSo_6 8 rfl) rfl (lv_at hl 2 rfl) ?_
        refine lv_iload hx hb (z_d hL_isSo_6 9 rfl) (lv_at hl 14 rfl) ?_
        refine z_ix hF (fun hin hF => ?_)
        refine va_iald (D := Z.1) (f := k) hx hb hK.1 (zP_reg hP 2 rfl) 0 0 rfl rfl hin (z_d hL_isSo_6 10 rfl) ?_
        refine z_let hF (fun u87 hu87 hF => ?_)
        refine lv_topE hu87 ?_
        refine lv_iconst (v := 2) hx hb (z_d hL_isSo_6 11 rfl) (by decide) ?_
        refine lv_icmp_ne (tgt := 695) hx hb (z_d hL_isSo_6 12 rfl) (by decide) (fun hc678 => ?_) (fun hc678 => ?_)
        · have hF := z_neg hc678 hF
          refine lv_iconst (v := 0) hx hb (z_d hL_isSo_6 20 rfl) (by decide) ?_
          refine lv_iadd hx hb (z_d hL_isSo_6 21 rfl) ?_
          refine z_let hF (fun u88 hu88 hF => ?_)
          refine lv_topE hu88 ?_
          refine lv_istore (lv' := [(17, .int u88), (0, .ref mm), (1, .ref ag), (2, .ref ak), (3, .ref al), (4, .ref ap), (5, .ref ab), (6, .ref am), (8, .int x8), (9, .int x9), (10, .int x10), (14, .int x14), (15, .int x15), (16, .int x16), (18, .int v.2)]) hx hb (z_d hL_isSo_6 22 rfl) hl (by decide) rfl (fun ls hl => ?_)
          refine z_let hF (fun u89 hu89 hF => ?_)
          refine lv_iinc (v := u89) (lv' := [(18, .int u89), (17, .int u88), (0, .ref mm), (1, .ref ag), (2, .ref ak), (3, .ref al), (4, .ref ap), (5, .ref ab), (6, .ref am), (8, .int x8), (9, .int x9), (10, .int x10), (14, .int x14), (15, .int x15), (16, .int x16)]) hx hb (z_d hL_isSo_6 23 rfl) hl (k := 14) rfl (z_inc1 hu89) (by decide) rfl (fun ls hl => ?_)
          refine lv_goto (tgt := 663) hx hb (z_d hL_isSo_6 24 rfl) (by decide) ?_
          exact ih _ _ hF _ _ ls hP hD hS (lv_sub hl [2, 3, 4, 5, 6, 7, 8, 9, 10, 11, 12, 13, 14, 1, 0] rfl) K1
        · have hF := z_pos hc678 hF
          refine lv_aload hx hb (z_d hL_isSo_6 13 rfl) (lv_at hl 4 rfl) ?_
          refine lv_iload hx hb (z_d hL_isSo_6 14 rfl) (lv_at hl 14 rfl) ?_
          refine z_ix hF (fun hin hF => ?_)
          refine va_iald (D := Z.1) (f := pr) hx hb hK.1 (zP_reg hP 4 rfl) 0 0 rfl rfl hin (z_d hL_isSo_6 15 rfl) ?_
          refine z_let hF (fun u90 hu90 hF => ?_)
          refine lv_topE hu90 ?_
          refine lv_iload hx hb (z_d hL_isSo_6 16 rfl) (lv_at hl 12 rfl) ?_
          refine lv_icmp_ne (tgt := 695) hx hb (z_d hL_isSo_6 17 rfl) (by decide) (fun hc688 => ?_) (fun hc688 => ?_)
          · have hF := z_neg hc688 hF
            refine lv_iconst (v := 0) hx hb (z_d hL_isSo_6 20 rfl) (by decide) ?_
            refine lv_iadd hx hb (z_d hL_isSo_6 21 rfl) ?_
            refine z_let hF (fun u91 hu91 hF => ?_)
            refine lv_topE hu91 ?_
            refine lv_istore (lv' := [(17, .int u91), (0, .ref mm), (1, .ref ag), (2, .ref ak), (3, .ref al), (4, .ref ap), (5, .ref ab), (6, .ref am), (8, .int x8), (9, .int x9), (10, .int x10), (14, .int x14), (15, .int x15), (16, .int x16), (18, .int v.2)]) hx hb (z_d hL_isSo_6 22 rfl) hl (by decide) rfl (fun ls hl => ?_)
            refine z_let hF (fun u92 hu92 hF => ?_)
            refine lv_iinc (v := u92) (lv' := [(18, .int u92), (17, .int u91), (0, .ref mm), (1, .ref ag), (2, .ref ak), (3, .ref al), (4, .ref ap), (5, .ref ab), (6, .ref am), (8, .int x8), (9, .int x9), (10, .int x10), (14, .int x14), (15, .int x15), (16, .int x16)]) hx hb (z_d hL_isSo_6 23 rfl) hl (k := 14) rfl (z_inc1 hu92) (by decide) rfl (fun ls hl => ?_)
            refine lv_goto (tgt := 663) hx hb (z_d hL_isSo_6 24 rfl) (by decide) ?_
            exact ih _ _ hF _ _ ls hP hD hS (lv_sub hl [2, 3, 4, 5, 6, 7, 8, 9, 10, 11, 12, 13, 14, 1, 0] rfl) K1
          · have hF := z_pos hc688 hF
            refine lv_iconst (v := 1) hx hb (z_d hL_isSo_6 18 rfl) (by decide) ?_
            refine lv_goto (tgt := 696) hx hb (z_d hL_isSo_6 19 rfl) (by decide) ?_
            refine lv_iadd hx hb (z_d hL_isSo_6 21 rfl) ?_
            refine z_let hF (fun u93 hu93 hF => ?_)
            refine lv_topE hu93 ?_
            refine lv_istore (lv' := [(17, .int u93), (0, .ref mm), (1, .ref ag), (2, .ref ak), (3, .ref al), (4, .ref ap), (5, .ref ab), (6, .ref am), (8, .int x8), (9, .int x9), (10, .int x10), (14, .int x14), (15, .int x15), (16, .int x16), (18, .int v.2)]) hx hb (z_d hL_isSo_6 22 rfl) hl (by decide) rfl (fun ls hl => ?_)
            refine z_let hF (fun u94 hu94 hF => ?_)
            refine lv_iinc (v := u94) (lv' := [(18, .int u94), (17, .int u93), (0, .ref mm), (1, .ref ag), (2, .ref ak), (3, .ref al), (4, .ref ap), (5, .ref ab), (6, .ref am), (8, .int x8), (9, .int x9), (10, .int x10), (14, .int x14), (15, .int x15), (16, .int x16)]) hx hb (z_d hL_isSo_6 23 rfl) hl (k := 14) rfl (z_inc1 hu94) (by decide) rfl (fun ls hl => ?_)
            refine lv_goto (tgt := 663) hx hb (z_d hL_isSo_6 24 rfl) (by decide) ?_
            exact ih _ _ hF _ _ ls hP hD hS (lv_sub hl [2, 3, 4, 5, 6, 7, 8, 9, 10, 11, 12, 13, 14, 1, 0] rfl) K1
    have J722_a91 : ∀  (x14 : Int32) (x15 : Int32) (x16 : Int32) (x17 : Int32) (z0 : Int32) (hF : j_L_isSo_722_a91 x g k ln pr lb mk ya91 x8 x9 x10 rec x14 x15 x16 x17 z0 = some X) (H : Heap) (locs : List Loc) (ls : Array Slot) (hP : va_P Z.1 vwCl (List.flatten [w_SP Z mm u x, w_Arr Z.2.1 2 ag g, w_Arr Z.2.1 41 ak k, w_Arr Z.2.1 41 al ln, w_Arr Z.2.1 41 ap pr, w_Arr Z.2.1 41 ab lb, w_Arr Z.2.1 41 am mk, w_Arr Z.2.1 41 a91 ya91]) H) (hD : va_D A (List.flatten [w_SP Z mm u x, w_Arr Z.2.1 2 ag g, w_Arr Z.2.1 41 ak k, w_Arr Z.2.1 41 al ln, w_Arr Z.2.1 41 ap pr, w_Arr Z.2.1 41 ab lb, w_Arr Z.2.1 41 am mk, w_Arr Z.2.1 41 a91 ya91])) (hS : va_S A s.heap H locs) (hl : lv_has ls 20 [(0, .ref mm), (1, .ref ag), (2, .ref ak), (3, .ref al), (4, .ref ap), (5, .ref ab), (6, .ref am), (8, .int x8), (9, .int x9), (10, .int x10), (14, .int x14), (15, .int x15), (16, .int x16), (17, .int x17)]), W p l e rm_L_isSo s m ([.ref mm, .ref ag, .ref ak, .ref al, .ref ap, .ref ab, .ref am] : List Value).toArray below meth c H locs 1 41 Q (F0 m 722 ls [.int z0]) := by
      intro x14 x15 x16 x17 z0 hF H locs ls hP hD hS hl
      unfold j_L_isSo_722_a91 at hF
      refine lv_istore (lv' := [(13, .int z0), (0, .ref mm), (1, .ref ag), (2, .ref ak), (3, .ref al), (4, .ref ap), (5, .ref ab), (6, .ref am), (8, .int x8), (9, .int x9), (10, .int x10), (14, .int x14), (15, .int x15), (16, .int x16), (17, .int x17)]) hx hb (z_d hL_isSo_6 34 rfl) hl (by decide) rfl (fun ls hl => ?_)
      refine lv_iload hx hb (z_d hL_isSo_6 35 rfl) (lv_at hl 12 rfl) ?_
      refine lv_aload_n hx hb (z_d hL_isSo_6 36 rfl) rfl (lv_at hl 1 rfl) ?_
      refine lv_iload hx hb (z_d hL_isSo_6 37 rfl) (lv_at hl 13 rfl) ?_
      refine lv_iconst (v := 1) hx hb (z_d hL_isSo_6 38 rfl) (by decide) ?_
      refine z_bnd hF (fun q97 hq97 hF => ?_)
      refine z_ro_i (z_rLR (As := [.ref mm, .int x16, .int 1]) (rest := [.int x15]) hx hb hml hown hts ht_L_namesBy (c_N_namesBy l Z mm u x x16 1 _ hq97) rfl rfl ⟨Nat.le_of_ble_eq_true rfl, Nat.le_of_ble_eq_true rfl⟩ k_m_L_147 hK (zP_c (zP_reg hP 0 rfl) zP_n) rfl hl.1 (Nat.le_of_ble_eq_true rfl) (z_d hL_isSo_6 39 rfl) ⟨Nat.le_of_ble_eq_true rfl, Nat.le_of_ble_eq_true rfl⟩) hS hP (fun H locs hP hS => ?_)
      refine lv_iadd hx hb (z_d hL_isSo_6 40 rfl) ?_
      refine z_let hF (fun u98 hu98 hF => ?_)
      refine lv_topE hu98 ?_
      refine lv_istore (lv' := [(15, .int u98), (13, .int z0), (0, .ref mm), (1, .ref ag), (2, .ref ak), (3, .ref al), (4, .ref ap), (5, .ref ab), (6, .ref am), (8, .int x8), (9, .int x9), (10, .int x10), (14, .int x14), (16, .int x16), (17, .int x17)]) hx hb (z_d hL_isSo_6 41 rfl) hl (by decide) rfl (fun ls hl => ?_)
      refine lv_iload hx hb (z_d hL_isSo_6 42 rfl) (lv_at hl 12 rfl) ?_
      refine lv_iload hx hb (z_d hL_isSo_6 43 rfl) (lv_at hl 14 rfl) ?_
      refine lv_iadd hx hb (z_d hL_isSo_6 44 rfl) ?_
      refine z_let hF (fun u99 hu99 hF => ?_)
      refine lv_topE hu99 ?_
      refine lv_istore (lv' := [(14, .int u99), (15, .int u98), (13, .int z0), (0, .ref mm), (1, .ref ag), (2, .ref ak), (3, .ref al), (4, .ref ap), (5, .ref ab), (6, .ref am), (8, .int x8), (9, .int x9), (10, .int x10), (16, .int x16), (17, .int x17)]) hx hb (z_d hL_isSo_6 45 rfl) hl (by decide) rfl (fun ls hl => ?_)
      refine z_let hF (fun u100 hu100 hF => ?_)
      refine lv_iinc (v := u100) (lv' := [(16, .int u100), (14, .int u99), (15, .int u98), (13, .int z0), (0, .ref mm), (1, .ref ag), (2, .ref ak), (3, .ref al), (4, .ref ap), (5, .ref ab), (6, .ref am), (8, .int x8), (9, .int x9), (10, .int x10), (17, .int x17)]) hx hb (z_d hL_isSo_6 46 rfl) hl (k := 13) rfl (z_inc1 hu100) (by decide) rfl (fun ls hl => ?_)
      refine lv_goto (tgt := 645) hx hb (z_d hL_isSo_6 47 rfl) (by decide) ?_
      exact ih _ _ hF _ _ ls hP hD hS (lv_sub hl [4, 5, 6, 7, 8, 9, 10, 11, 12, 13, 3, 1, 2, 0] rfl) K1
    refine lv_iload hx hb (z_d hL_isSo_5 53 rfl) (lv_at hl 13 rfl) ?_
    refine lv_bipush (v := 10) hx hb (z_d hL_isSo_5 54 rfl) (by decide) ?_
    refine lv_icmp_ge (tgt := 749) hx hb (z_d hL_isSo_5 55 rfl) (by decide) (fun hc649 => ?_) (fun hc649 => ?_)
    · have hF := z_pos hc649 hF
      obtain rfl := Option.some.inj hF
      exact K1 _ _ ls hP hD hS (lv_sub hl [0, 1, 2, 3, 4, 5, 6, 7, 8, 9, 10, 11, 12] rfl)
    · have hF := z_neg hc649 hF
      refine lv_iload hx hb (z_d hL_isSo_5 56 rfl) (lv_at hl 10 rfl) ?_
      refine lv_if_eq (tgt := 749) hx hb (z_d hL_isSo_5 57 rfl) (by decide) (fun hc654 => ?_) (fun hc654 => ?_)
      · have hF := z_pos hc654 hF
        obtain rfl := Option.some.inj hF
        exact K1 _ _ ls hP hD hS (lv_sub hl [0, 1, 2, 3, 4, 5, 6, 7, 8, 9, 10, 11, 12] rfl)
      · have hF := z_neg hc654 hF
        refine lv_iconst (v := 0) hx hb (z_d hL_isSo_5 58 rfl) (by decide) ?_
        refine lv_istore (lv' := [(17, .int 0), (0, .ref mm), (1, .ref ag), (2, .ref ak), (3, .ref al), (4, .ref ap), (5, .ref ab), (6, .ref am), (8, .int x8), (9, .int x9), (10, .int x10), (13, .int v.1), (14, .int v.2.1), (15, .int v.2.2.1), (16, .int v.2.2.2)]) hx hb (z_d hL_isSo_5 59 rfl) hl (by decide) rfl (fun ls hl => ?_)
        refine lv_iconst (v := 0) hx hb (z_d hL_isSo_6 0 rfl) (by decide) ?_
        refine lv_istore (lv' := [(18, .int 0), (17, .int 0), (0, .ref mm), (1, .ref ag), (2, .ref ak), (3, .ref al), (4, .ref ap), (5, .ref ab), (6, .ref am), (8, .int x8), (9, .int x9), (10, .int x10), (13, .int v.1), (14, .int v.2.1), (15, .int v.2.2.1), (16, .int v.2.2.2)]) hx hb (z_d hL_isSo_6 1 rfl) hl (by decide) rfl (fun ls hl => ?_)
        refine z_bnd hF (fun q95 hq95 hF => ?_)
        refine L663 a91 ya91 x8 x9 x10 v.2.1 v.2.2.1 v.2.2.2 _ _ _ hq95 _ _ ls hP hD hS (lv_sub hl [2, 3, 4, 5, 6, 7, 8, 9, 10, 11, 13, 14, 15, 1, 0] rfl) (fun H locs ls hP hD hS hl => ?_)
        refine lv_aload_n hx hb (z_d hL_isSo_6 25 rfl) rfl (lv_at hl 0 rfl) ?_
        refine lv_iload hx hb (z_d hL_isSo_6 26 rfl) (lv_at hl 12 rfl) ?_
        refine lv_iconst (v := 0) hx hb (z_d hL_isSo_6 27 rfl) (by decide) ?_
        refine z_bnd hF (fun q96 hq96 hF => ?_)
        refine z_ro_i (z_rLR (As := [.ref mm, .int v.2.2.2, .int 0]) (rest := []) hx hb hml hown hts ht_L_namesBy (c_N_namesBy l Z mm u x v.2.2.2 0 _ hq96) rfl rfl ⟨Nat.le_of_ble_eq_true rfl, Nat.le_of_ble_eq_true rfl⟩ k_m_L_147 hK (zP_c (zP_reg hP 0 rfl) zP_n) rfl hl.1 (Nat.le_of_ble_eq_true rfl) (z_d hL_isSo_6 28 rfl) ⟨Nat.le_of_ble_eq_true rfl, Nat.le_of_ble_eq_true rfl⟩) hS hP (fun H locs hP hS => ?_)
        refine lv_iload hx hb (z_d hL_isSo_6 29 rfl) (lv_at hl 13 rfl) ?_
        refine lv_icmp_ne (tgt := 721) hx hb (z_d hL_isSo_6 30 rfl) (by decide) (fun hc714 => ?_) (fun hc714 => ?_)
        · have hF := z_neg hc714 hF
          refine lv_iconst (v := 0) hx hb (z_d hL_isSo_6 33 rfl) (by decide) ?_
          exact J722_a91 v.2.1 v.2.2.1 v.2.2.2 q95 0 hF _ _ ls hP hD hS (lv_sub hl [0, 1, 2, 3, 4, 5, 6, 7, 8, 9, 10, 11, 12, 13] rfl)
        · have hF := z_pos hc714 hF
          refine lv_iconst (v := 1) hx hb (z_d hL_isSo_6 31 rfl) (by decide) ?_
          refine lv_goto (tgt := 722) hx hb (z_d hL_isSo_6 32 rfl) (by decide) ?_
          exact J722_a91 v.2.1 v.2.2.1 v.2.2.2 q95 1 hF _ _ ls hP hD hS (lv_sub hl [0, 1, 2, 3, 4, 5, 6, 7, 8, 9, 10, 11, 12, 13] rfl)
  have J749_a91 : ∀ (a91 : Nat) (ya91 : Rw) (x8 : Int32) (x9 : Int32) (x10 : Int32) (x13 : Int32) (x14 : Int32) (x15 : Int32) (hF : j_L_isSo_749_a91 x g k ln pr lb mk ya91 x8 x9 x10 x13 x14 x15 = some R) (H : Heap) (locs : List Loc) (ls : Array Slot) (hP : va_P Z.1 vwCl (List.flatten [w_SP Z mm u x, w_Arr Z.2.1 2 ag g, w_Arr Z.2.1 41 ak k, w_Arr Z.2.1 41 al ln, w_Arr Z.2.1 41 ap pr, w_Arr Z.2.1 41 ab lb, w_Arr Z.2.1 41 am mk, w_Arr Z.2.1 41 a91 ya91]) H) (hD : va_D A (List.flatten [w_SP Z mm u x, w_Arr Z.2.1 2 ag g, w_Arr Z.2.1 41 ak k, w_Arr Z.2.1 41 al ln, w_Arr Z.2.1 41 ap pr, w_Arr Z.2.1 41 ab lb, w_Arr Z.2.1 41 am mk, w_Arr Z.2.1 41 a91 ya91])) (hS : va_S A s.heap H locs) (hl : lv_has ls 20 [(0, .ref mm), (1, .ref ag), (2, .ref ak), (3, .ref al), (4, .ref ap), (5, .ref ab), (6, .ref am), (8, .int x8), (9, .int x9), (10, .int x10), (13, .int x13), (14, .int x14), (15, .int x15)]), W p l e rm_L_isSo s m ([.ref mm, .ref ag, .ref ak, .ref al, .ref ap, .ref ab, .ref am] : List Value).toArray below meth c H locs 1 41 Q (F0 m 749 ls []) := by
    intro a91 ya91 x8 x9 x10 x13 x14 x15 hF H locs ls hP hD hS hl
    unfold j_L_isSo_749_a91 at hF
    refine lv_iload hx hb (z_d hL_isSo_6 48 rfl) (lv_at hl 10 rfl) ?_
    refine lv_if_eq (tgt := 815) hx hb (z_d hL_isSo_6 49 rfl) (by decide) (fun hc751 => ?_) (fun hc751 => ?_)
    · have hF := z_pos hc751 hF
      refine lv_iconst (v := 0) hx hb (z_d hL_isSo_7 20 rfl) (by decide) ?_
      have hz9 : narrow .boolean (.int 0) = .int 0 := rfl
      obtain rfl := Option.some.inj hF
      subst hQ
      subst hA
      exact z_kretZ (L := [w_SP Z mm u x, w_Arr Z.2.1 2 ag g, w_Arr Z.2.1 41 ak k, w_Arr Z.2.1 41 al ln, w_Arr Z.2.1 41 ap pr, w_Arr Z.2.1 41 ab lb, w_Arr Z.2.1 41 am mk]) (Lr := [w_Arr Z.2.1 41 a91 ya91]) hx hb hr hlocks hz9 rfl hP hS (Nat.le_of_ble_eq_true rfl) (Nat.le_of_ble_eq_true rfl) (z_d hL_isSo_7 21 rfl)
    · have hF := z_neg hc751 hF
      refine lv_iload hx hb (z_d hL_isSo_6 50 rfl) (lv_at hl 12 rfl) ?_
      refine lv_iload hx hb (z_d hL_isSo_6 51 rfl) (lv_at hl 8 rfl) ?_
      refine lv_icmp_ne (tgt := 815) hx hb (z_d hL_isSo_6 52 rfl) (by decide) (fun hc758 => ?_) (fun hc758 => ?_)
      · have hF := z_neg hc758 hF
        refine lv_iconst (v := 0) hx hb (z_d hL_isSo_7 20 rfl) (by decide) ?_
        have hz9 : narrow .boolean (.int 0) = .int 0 := rfl
        obtain rfl := Option.some.inj hF
        subst hQ
        subst hA
        exact z_kretZ (L := [w_SP Z mm u x, w_Arr Z.2.1 2 ag g, w_Arr Z.2.1 41 ak k, w_Arr Z.2.1 41 al ln, w_Arr Z.2.1 41 ap pr, w_Arr Z.2.1 41 ab lb, w_Arr Z.2.1 41 am mk]) (Lr := [w_Arr Z.2.1 41 a91 ya91]) hx hb hr hlocks hz9 rfl hP hS (Nat.le_of_ble_eq_true rfl) (Nat.le_of_ble_eq_true rfl) (z_d hL_isSo_7 21 rfl)
      · have hF := z_pos hc758 hF
        refine lv_iload hx hb (z_d hL_isSo_6 53 rfl) (lv_at hl 11 rfl) ?_
        refine lv_iload hx hb (z_d hL_isSo_6 54 rfl) (lv_at hl 8 rfl) ?_
        refine lv_icmp_lt (tgt := 815) hx hb (z_d hL_isSo_6 55 rfl) (by decide) (fun hc765 => ?_) (fun hc765 => ?_)
        · have hF := z_pos hc765 hF
          refine lv_iconst (v := 0) hx hb (z_d hL_isSo_7 20 rfl) (by decide) ?_
          have hz9 : narrow .boolean (.int 0) = .int 0 := rfl
          obtain rfl := Option.some.inj hF
          subst hQ
          subst hA
          exact z_kretZ (L := [w_SP Z mm u x, w_Arr Z.2.1 2 ag g, w_Arr Z.2.1 41 ak k, w_Arr Z.2.1 41 al ln, w_Arr Z.2.1 41 ap pr, w_Arr Z.2.1 41 ab lb, w_Arr Z.2.1 41 am mk]) (Lr := [w_Arr Z.2.1 41 a91 ya91]) hx hb hr hlocks hz9 rfl hP hS (Nat.le_of_ble_eq_true rfl) (Nat.le_of_ble_eq_true rfl) (z_d hL_isSo_7 21 rfl)
        · have hF := z_neg hc765 hF
          refine lv_aload_n hx hb (z_d hL_isSo_6 56 rfl) rfl (lv_at hl 0 rfl) ?_
          refine lv_iconst (v := 4) hx hb (z_d hL_isSo_6 57 rfl) (by decide) ?_
          refine z_bnd hF (fun q102 hq102 hF => ?_)
          refine z_ro_i (z_rLR (As := [.ref mm, .int 4]) (rest := []) hx hb hml hown hts ht_L_valueOf (c_N_valueOf l Z mm u x 4 _ hq102) rfl rfl ⟨Nat.le_of_ble_eq_true rfl, Nat.le_of_ble_eq_true rfl⟩ k_m_L_134 hK (zP_c (zP_reg hP 0 rfl) zP_n) rfl hl.1 (Nat.le_of_ble_eq_true rfl) (z_d hL_isSo_6 58 rfl) ⟨Nat.le_of_ble_eq_true rfl, Nat.le_of_ble_eq_true rfl⟩) hS hP (fun H locs hP hS => ?_)
          refine lv_iload hx hb (z_d hL_isSo_6 59 rfl) (lv_at hl 9 rfl) ?_
          refine lv_icmp_ne (tgt := 815) hx hb (z_d hL_isSo_7 0 rfl) (by decide) (fun hc775 => ?_) (fun hc775 => ?_)
          · have hF := z_neg hc775 hF
            refine lv_iconst (v := 0) hx hb (z_d hL_isSo_7 20 rfl) (by decide) ?_
            have hz9 : narrow .boolean (.int 0) = .int 0 := rfl
            obtain rfl := Option.some.inj hF
            subst hQ
            subst hA
            exact z_kretZ (L := [w_SP Z mm u x, w_Arr Z.2.1 2 ag g, w_Arr Z.2.1 41 ak k, w_Arr Z.2.1 41 al ln, w_Arr Z.2.1 41 ap pr, w_Arr Z.2.1 41 ab lb, w_Arr Z.2.1 41 am mk]) (Lr := [w_Arr Z.2.1 41 a91 ya91]) hx hb hr hlocks hz9 rfl hP hS (Nat.le_of_ble_eq_true rfl) (Nat.le_of_ble_eq_true rfl) (z_d hL_isSo_7 21 rfl)
          · have hF := z_pos hc775 hF
            refine lv_aload_n hx hb (z_d hL_isSo_7 1 rfl) rfl (lv_at hl 0 rfl) ?_
            refine lv_iconst (v := 5) hx hb (z_d hL_isSo_7 2 rfl) (by decide) ?_
            refine z_bnd hF (fun q103 hq103 hF => ?_)
            refine z_ro_i (z_rLR (As := [.ref mm, .int 5]) (rest := []) hx hb hml hown hts ht_L_valueOf (c_N_valueOf l Z mm u x 5 _ hq103) rfl rfl ⟨Nat.le_of_ble_eq_true rfl, Nat.le_of_ble_eq_true rfl⟩ k_m_L_134 hK (zP_c (zP_reg hP 0 rfl) zP_n) rfl hl.1 (Nat.le_of_ble_eq_true rfl) (z_d hL_isSo_7 3 rfl) ⟨Nat.le_of_ble_eq_true rfl, Nat.le_of_ble_eq_true rfl⟩) hS hP (fun H locs hP hS => ?_)
            refine lv_iload hx hb (z_d hL_isSo_7 4 rfl) (lv_at hl 7 rfl) ?_
            refine lv_icmp_ne (tgt := 815) hx hb (z_d hL_isSo_7 5 rfl) (by decide) (fun hc785 => ?_) (fun hc785 => ?_)
            · have hF := z_neg hc785 hF
              refine lv_iconst (v := 0) hx hb (z_d hL_isSo_7 20 rfl) (by decide) ?_
              have hz9 : narrow .boolean (.int 0) = .int 0 := rfl
              obtain rfl := Option.some.inj hF
              subst hQ
              subst hA
              exact z_kretZ (L := [w_SP Z mm u x, w_Arr Z.2.1 2 ag g, w_Arr Z.2.1 41 ak k, w_Arr Z.2.1 41 al ln, w_Arr Z.2.1 41 ap pr, w_Arr Z.2.1 41 ab lb, w_Arr Z.2.1 41 am mk]) (Lr := [w_Arr Z.2.1 41 a91 ya91]) hx hb hr hlocks hz9 rfl hP hS (Nat.le_of_ble_eq_true rfl) (Nat.le_of_ble_eq_true rfl) (z_d hL_isSo_7 21 rfl)
            · have hF := z_pos hc785 hF
              refine lv_aload_n hx hb (z_d hL_isSo_7 6 rfl) rfl (lv_at hl 0 rfl) ?_
              refine lv_bipush (v := 6) hx hb (z_d hL_isSo_7 7 rfl) (by decide) ?_
              refine z_bnd hF (fun q104 hq104 hF => ?_)
              refine z_ro_i (z_rLR (As := [.ref mm, .int 6]) (rest := []) hx hb hml hown hts ht_L_valueOf (c_N_valueOf l Z mm u x 6 _ hq104) rfl rfl ⟨Nat.le_of_ble_eq_true rfl, Nat.le_of_ble_eq_true rfl⟩ k_m_L_134 hK (zP_c (zP_reg hP 0 rfl) zP_n) rfl hl.1 (Nat.le_of_ble_eq_true rfl) (z_d hL_isSo_7 8 rfl) ⟨Nat.le_of_ble_eq_true rfl, Nat.le_of_ble_eq_true rfl⟩) hS hP (fun H locs hP hS => ?_)
              refine lv_iload hx hb (z_d hL_isSo_7 9 rfl) (lv_at hl 8 rfl) ?_
              refine lv_icmp_ne (tgt := 815) hx hb (z_d hL_isSo_7 10 rfl) (by decide) (fun hc796 => ?_) (fun hc796 => ?_)
              · have hF := z_neg hc796 hF
                refine lv_iconst (v := 0) hx hb (z_d hL_isSo_7 20 rfl) (by decide) ?_
                have hz9 : narrow .boolean (.int 0) = .int 0 := rfl
                obtain rfl := Option.some.inj hF
                subst hQ
                subst hA
                exact z_kretZ (L := [w_SP Z mm u x, w_Arr Z.2.1 2 ag g, w_Arr Z.2.1 41 ak k, w_Arr Z.2.1 41 al ln, w_Arr Z.2.1 41 ap pr, w_Arr Z.2.1 41 ab lb, w_Arr Z.2.1 41 am mk]) (Lr := [w_Arr Z.2.1 41 a91 ya91]) hx hb hr hlocks hz9 rfl hP hS (Nat.le_of_ble_eq_true rfl) (Nat.le_of_ble_eq_true rfl) (z_d hL_isSo_7 21 rfl)
              · have hF := z_pos hc796 hF
                refine lv_aload_n hx hb (z_d hL_isSo_7 11 rfl) rfl (lv_at hl 0 rfl) ?_
                refine lv_bipush (v := 99) hx hb (z_d hL_isSo_7 12 rfl) (by decide) ?_
                refine lv_iconst (v := 0) hx hb (z_d hL_isSo_7 13 rfl) (by decide) ?_
                refine lv_iconst (v := 0) hx hb (z_d hL_isSo_7 14 rfl) (by decide) ?_
                refine z_bnd hF (fun q105 hq105 hF => ?_)
                refine z_ro_i (z_rV (As := [.int 99, .int 0, .int 0]) (rest := []) hx hb hml hown hts vt_X6_find (c_P_find l Z mm u x 99 0 0 _ hq105) rfl rfl ⟨Nat.le_of_ble_eq_true rfl, Nat.le_of_ble_eq_true rfl⟩ k_m_L_143 zPro_blind (z_recv (q := (RX6, TX6, 9)) (ci := 6) (q0 := 0) hK (zP_reg hP 0 rfl) rfl rfl) (z_prec hK (zP_c (zP_reg hP 0 rfl) zP_n)) rfl hl.1 (Nat.le_of_ble_eq_true rfl) (z_d hL_isSo_7 15 rfl) ⟨Nat.le_of_ble_eq_true rfl, Nat.le_of_ble_eq_true rfl⟩) hS hP (fun H locs hP hS => ?_)
                refine lv_iconst (v := (-1)) hx hb (z_d hL_isSo_7 16 rfl) (by decide) ?_
                refine lv_icmp_ne (tgt := 815) hx hb (z_d hL_isSo_7 17 rfl) (by decide) (fun hc808 => ?_) (fun hc808 => ?_)
                · have hF := z_neg hc808 hF
                  refine lv_iconst (v := 0) hx hb (z_d hL_isSo_7 20 rfl) (by decide) ?_
                  have hz9 : narrow .boolean (.int 0) = .int 0 := rfl
                  obtain rfl := Option.some.inj hF
                  subst hQ
                  subst hA
                  exact z_kretZ (L := [w_SP Z mm u x, w_Arr Z.2.1 2 ag g, w_Arr Z.2.1 41 ak k, w_Arr Z.2.1 41 al ln, w_Arr Z.2.1 41 ap pr, w_Arr Z.2.1 41 ab lb, w_Arr Z.2.1 41 am mk]) (Lr := [w_Arr Z.2.1 41 a91 ya91]) hx hb hr hlocks hz9 rfl hP hS (Nat.le_of_ble_eq_true rfl) (Nat.le_of_ble_eq_true rfl) (z_d hL_isSo_7 21 rfl)
                · have hF := z_pos hc808 hF
                  refine lv_iconst (v := 1) hx hb (z_d hL_isSo_7 18 rfl) (by decide) ?_
                  refine lv_goto (tgt := 816) hx hb (z_d hL_isSo_7 19 rfl) (by decide) ?_
                  have hz9 : narrow .boolean (.int 1) = .int 1 := rfl
                  obtain rfl := Option.some.inj hF
                  subst hQ
                  subst hA
                  exact z_kretZ (L := [w_SP Z mm u x, w_Arr Z.2.1 2 ag g, w_Arr Z.2.1 41 ak k, w_Arr Z.2.1 41 al ln, w_Arr Z.2.1 41 ap pr, w_Arr Z.2.1 41 ab lb, w_Arr Z.2.1 41 am mk]) (Lr := [w_Arr Z.2.1 41 a91 ya91]) hx hb hr hlocks hz9 rfl hP hS (Nat.le_of_ble_eq_true rfl) (Nat.le_of_ble_eq_true rfl) (z_d hL_isSo_7 21 rfl)
  have J636_a91 : ∀ (a91 : Nat) (ya91 : Rw) (x8 : Int32) (x9 : Int32) (x10 : Int32) (x13 : Int32) (hF : j_L_isSo_636_a91 x g k ln pr lb mk ya91 x8 x9 x10 x13 = some R) (H : Heap) (locs : List Loc) (ls : Array Slot) (hP : va_P Z.1 vwCl (List.flatten [w_SP Z mm u x, w_Arr Z.2.1 2 ag g, w_Arr Z.2.1 41 ak k, w_Arr Z.2.1 41 al ln, w_Arr Z.2.1 41 ap pr, w_Arr Z.2.1 41 ab lb, w_Arr Z.2.1 41 am mk, w_Arr Z.2.1 41 a91 ya91]) H) (hD : va_D A (List.flatten [w_SP Z mm u x, w_Arr Z.2.1 2 ag g, w_Arr Z.2.1 41 ak k, w_Arr Z.2.1 41 al ln, w_Arr Z.2.1 41 ap pr, w_Arr Z.2.1 41 ab lb, w_Arr Z.2.1 41 am mk, w_Arr Z.2.1 41 a91 ya91])) (hS : va_S A s.heap H locs) (hl : lv_has ls 20 [(0, .ref mm), (1, .ref ag), (2, .ref ak), (3, .ref al), (4, .ref ap), (5, .ref ab), (6, .ref am), (8, .int x8), (9, .int x9), (10, .int x10), (13, .int x13)]), W p l e rm_L_isSo s m ([.ref mm, .ref ag, .ref ak, .ref al, .ref ap, .ref ab, .ref am] : List Value).toArray below meth c H locs 1 41 Q (F0 m 636 ls []) := by
    intro a91 ya91 x8 x9 x10 x13 hF H locs ls hP hD hS hl
    unfold j_L_isSo_636_a91 at hF
    refine lv_iconst (v := 0) hx hb (z_d hL_isSo_5 47 rfl) (by decide) ?_
    refine lv_istore (lv' := [(14, .int 0), (0, .ref mm), (1, .ref ag), (2, .ref ak), (3, .ref al), (4, .ref ap), (5, .ref ab), (6, .ref am), (8, .int x8), (9, .int x9), (10, .int x10), (13, .int x13)]) hx hb (z_d hL_isSo_5 48 rfl) hl (by decide) rfl (fun ls hl => ?_)
    refine lv_iconst (v := 0) hx hb (z_d hL_isSo_5 49 rfl) (by decide) ?_
    refine lv_istore (lv' := [(15, .int 0), (14, .int 0), (0, .ref mm), (1, .ref ag), (2, .ref ak), (3, .ref al), (4, .ref ap), (5, .ref ab), (6, .ref am), (8, .int x8), (9, .int x9), (10, .int x10), (13, .int x13)]) hx hb (z_d hL_isSo_5 50 rfl) hl (by decide) rfl (fun ls hl => ?_)
    refine lv_iconst (v := 0) hx hb (z_d hL_isSo_5 51 rfl) (by decide) ?_
    refine lv_istore (lv' := [(16, .int 0), (15, .int 0), (14, .int 0), (0, .ref mm), (1, .ref ag), (2, .ref ak), (3, .ref al), (4, .ref ap), (5, .ref ab), (6, .ref am), (8, .int x8), (9, .int x9), (10, .int x10), (13, .int x13)]) hx hb (z_d hL_isSo_5 52 rfl) hl (by decide) rfl (fun ls hl => ?_)
    refine z_bnd hF (fun q101 hq101 hF => ?_)
    refine L645 a91 ya91 x8 x9 x10 _ _ _ hq101 _ _ ls hP hD hS (lv_sub hl [3, 4, 5, 6, 7, 8, 9, 10, 11, 12, 13, 2, 1, 0] rfl) (fun H locs ls hP hD hS hl => ?_)
    exact J749_a91 a91 ya91 x8 x9 x10 q101.1 q101.2.1 q101.2.2 hF _ _ ls hP hD hS (lv_sub hl [0, 1, 2, 3, 4, 5, 6, 7, 8, 9, 10, 11, 12] rfl)
  have J70_a91 : ∀ (a91 : Nat) (ya91 : Rw) (x8 : Int32) (x9 : Int32) (x10 : Int32) (x11 : Int32) (x12 : Int32) (z0 : Int32) (hF : j_L_isSo_70_a91 x g k ln pr lb mk ya91 x8 x9 x10 x11 x12 z0 = some R) (H : Heap) (locs : List Loc) (ls : Array Slot) (hP : va_P Z.1 vwCl (List.flatten [w_SP Z mm u x, w_Arr Z.2.1 2 ag g, w_Arr Z.2.1 41 ak k, w_Arr Z.2.1 41 al ln, w_Arr Z.2.1 41 ap pr, w_Arr Z.2.1 41 ab lb, w_Arr Z.2.1 41 am mk, w_Arr Z.2.1 41 a91 ya91]) H) (hD : va_D A (List.flatten [w_SP Z mm u x, w_Arr Z.2.1 2 ag g, w_Arr Z.2.1 41 ak k, w_Arr Z.2.1 41 al ln, w_Arr Z.2.1 41 ap pr, w_Arr Z.2.1 41 ab lb, w_Arr Z.2.1 41 am mk, w_Arr Z.2.1 41 a91 ya91])) (hS : va_S A s.heap H locs) (hl : lv_has ls 20 [(0, .ref mm), (1, .ref ag), (2, .ref ak), (3, .ref al), (4, .ref ap), (5, .ref ab), (6, .ref am), (7, .ref a91), (8, .int x8), (9, .int x9), (10, .int x10), (11, .int x11), (12, .int x12)]), W p l e rm_L_isSo s m ([.ref mm, .ref ag, .ref ak, .ref al, .ref ap, .ref ab, .ref am] : List Value).toArray below meth c H locs 1 41 Q (F0 m 70 ls [.int z0]) := by
    intro a91 ya91 x8 x9 x10 x11 x12 z0 hF H locs ls hP hD hS hl
    unfold j_L_isSo_70_a91 at hF
    refine lv_istore (lv' := [(13, .int z0), (0, .ref mm), (1, .ref ag), (2, .ref ak), (3, .ref al), (4, .ref ap), (5, .ref ab), (6, .ref am), (7, .ref a91), (8, .int x8), (9, .int x9), (10, .int x10), (11, .int x11), (12, .int x12)]) hx hb (z_d hL_isSo_0 42 rfl) hl (by decide) rfl (fun ls hl => ?_)
    refine lv_iconst (v := 0) hx hb (z_d hL_isSo_0 43 rfl) (by decide) ?_
    refine lv_istore (lv' := [(14, .int 0), (13, .int z0), (0, .ref mm), (1, .ref ag), (2, .ref ak), (3, .ref al), (4, .ref ap), (5, .ref ab), (6, .ref am), (7, .ref a91), (8, .int x8), (9, .int x9), (10, .int x10), (11, .int x11), (12, .int x12)]) hx hb (z_d hL_isSo_0 44 rfl) hl (by decide) rfl (fun ls hl => ?_)
    refine z_bnd hF (fun q85 hq85 hF => ?_)
    refine L75 a91 ya91 _ _ _ hq85 _ _ ls hP hD hS (lv_sub hl [2, 3, 4, 5, 6, 7, 8, 9, 10, 11, 12, 13, 14, 1, 0] rfl) (fun H locs ls hP hD hS hl => ?_)
    exact J636_a91 a91 ya91 q85.1 q85.2.1 q85.2.2.1 q85.2.2.2 hF _ _ ls hP hD hS (lv_sub hl [0, 1, 2, 3, 4, 5, 6, 7, 8, 9, 10] rfl)
  have J69_a91 : ∀ (a91 : Nat) (ya91 : Rw) (x8 : Int32) (x9 : Int32) (x10 : Int32) (x11 : Int32) (x12 : Int32) (hF : j_L_isSo_69_a91 x g k ln pr lb mk ya91 x8 x9 x10 x11 x12 = some R) (H : Heap) (locs : List Loc) (ls : Array Slot) (hP : va_P Z.1 vwCl (List.flatten [w_SP Z mm u x, w_Arr Z.2.1 2 ag g, w_Arr Z.2.1 41 ak k, w_Arr Z.2.1 41 al ln, w_Arr Z.2.1 41 ap pr, w_Arr Z.2.1 41 ab lb, w_Arr Z.2.1 41 am mk, w_Arr Z.2.1 41 a91 ya91]) H) (hD : va_D A (List.flatten [w_SP Z mm u x, w_Arr Z.2.1 2 ag g, w_Arr Z.2.1 41 ak k, w_Arr Z.2.1 41 al ln, w_Arr Z.2.1 41 ap pr, w_Arr Z.2.1 41 ab lb, w_Arr Z.2.1 41 am mk, w_Arr Z.2.1 41 a91 ya91])) (hS : va_S A s.heap H locs) (hl : lv_has ls 20 [(0, .ref mm), (1, .ref ag), (2, .ref ak), (3, .ref al), (4, .ref ap), (5, .ref ab), (6, .ref am), (7, .ref a91), (8, .int x8), (9, .int x9), (10, .int x10), (11, .int x11), (12, .int x12)]), W p l e rm_L_isSo s m ([.ref mm, .ref ag, .ref ak, .ref al, .ref ap, .ref ab, .ref am] : List Value).toArray below meth c H locs 1 41 Q (F0 m 69 ls []) := by
    intro a91 ya91 x8 x9 x10 x11 x12 hF H locs ls hP hD hS hl
    unfold j_L_isSo_69_a91 at hF
    refine lv_iconst (v := 0) hx hb (z_d hL_isSo_0 41 rfl) (by decide) ?_
    exact J70_a91 a91 ya91 x8 x9 x10 x11 x12 0 hF _ _ ls hP hD hS (lv_sub hl [0, 1, 2, 3, 4, 5, 6, 7, 8, 9, 10, 11, 12] rfl)
  refine lv_bipush (v := 41) hx hb (z_d hL_isSo_0 0 rfl) (by decide) ?_
  refine z_newarr (Z := Z) (L := [w_SP Z mm u x, w_Arr Z.2.1 2 ag g, w_Arr Z.2.1 41 ak k, w_Arr Z.2.1 41 al ln, w_Arr Z.2.1 41 ap pr, w_Arr Z.2.1 41 ab lb, w_Arr Z.2.1 41 am mk]) (N' := 41) hx hb (hts _ k_a_int) hK hP hD hS hA0 (by decide) (by decide) (Nat.le_of_ble_eq_true rfl) (Nat.le_of_ble_eq_true rfl) (Nat.le_of_ble_eq_true rfl) (z_d hL_isSo_0 1 rfl) (fun a91 H hP hD hS => ?_)
  have hP : va_P Z.1 vwCl (List.flatten [w_SP Z mm u x, w_Arr Z.2.1 2 ag g, w_Arr Z.2.1 41 ak k, w_Arr Z.2.1 41 al ln, w_Arr Z.2.1 41 ap pr, w_Arr Z.2.1 41 ab lb, w_Arr Z.2.1 41 am mk, w_Arr Z.2.1 41 a91 z0R]) H := hP
  have hD : va_D A (List.flatten [w_SP Z mm u x, w_Arr Z.2.1 2 ag g, w_Arr Z.2.1 41 ak k, w_Arr Z.2.1 41 al ln, w_Arr Z.2.1 41 ap pr, w_Arr Z.2.1 41 ab lb, w_Arr Z.2.1 41 am mk, w_Arr Z.2.1 41 a91 z0R]) := hD
  refine W.eq (g2 := F0 m 4 ls [.ref a91]) rfl ?_
  refine lv_astore (lv' := [(7, .ref a91), (0, .ref mm), (1, .ref ag), (2, .ref ak), (3, .ref al), (4, .ref ap), (5, .ref ab), (6, .ref am)]) hx hb (z_d hL_isSo_0 2 rfl) hl (by decide) rfl (fun ls hl => ?_)
  refine lv_aload_n hx hb (z_d hL_isSo_0 3 rfl) rfl (lv_at hl 2 rfl) ?_
  refine lv_aload_n hx hb (z_d hL_isSo_0 4 rfl) rfl (lv_at hl 3 rfl) ?_
  refine lv_aload hx hb (z_d hL_isSo_0 5 rfl) (lv_at hl 6 rfl) ?_
  refine lv_aload hx hb (z_d hL_isSo_0 6 rfl) (lv_at hl 0 rfl) ?_
  refine z_bnd hF (fun q1 hq1 hF => ?_)
  refine z_muN (L := [w_SP Z mm u x, w_Arr Z.2.1 2 ag g, w_Arr Z.2.1 41 ak k, w_Arr Z.2.1 41 al ln, w_Arr Z.2.1 41 ap pr, w_Arr Z.2.1 41 ab lb, w_Arr Z.2.1 41 am mk, w_Arr Z.2.1 41 a91 z0R]) (L' := [w_SP Z mm u x, w_Arr Z.2.1 2 ag g, w_Arr Z.2.1 41 ak k, w_Arr Z.2.1 41 al ln, w_Arr Z.2.1 41 ap pr, w_Arr Z.2.1 41 ab lb, w_Arr Z.2.1 41 am mk, w_Arr Z.2.1 41 a91 q1]) [(1, w_Arr Z.2.1 2 ag g, w_Arr Z.2.1 2 ag g), (2, w_Arr Z.2.1 41 ak k, w_Arr Z.2.1 41 ak k), (5, w_Arr Z.2.1 41 ab lb, w_Arr Z.2.1 41 ab lb), (7, w_Arr Z.2.1 41 a91 z0R, w_Arr Z.2.1 41 a91 q1)] (z_rS (As := [.ref ag, .ref ak, .ref ab, .ref a91]) (rest := []) hx hb hml hown hts vs_L_labels (c_L_labels l Z ag ak ab a91 g k lb z0R _ hq1) rfl rfl ⟨Nat.le_of_ble_eq_true rfl, Nat.le_of_ble_eq_true rfl⟩ k_m_L_15 zPmu_blind (z_prem hK (zP_c (zP_reg hP 1 rfl) (zP_c (zP_reg hP 2 rfl) (zP_c (zP_reg hP 5 rfl) (zP_c (zP_reg hP 7 rfl) zP_n)))) (zDq [(1, w_Arr Z.2.1 2 ag g, w_Arr Z.2.1 2 ag g), (2, w_Arr Z.2.1 41 ak k, w_Arr Z.2.1 41 ak k), (5, w_Arr Z.2.1 41 ab lb, w_Arr Z.2.1 41 ab lb), (7, w_Arr Z.2.1 41 a91 z0R, w_Arr Z.2.1 41 a91 q1)] hD (List.forall_mem_cons.mpr ⟨⟨rfl, rfl⟩, (List.forall_mem_cons.mpr ⟨⟨rfl, rfl⟩, (List.forall_mem_cons.mpr ⟨⟨rfl, rfl⟩, (List.forall_mem_cons.mpr ⟨⟨rfl, rfl⟩, (fun _ h => absurd h List.not_mem_nil)⟩)⟩)⟩)⟩) (show List.Nodup [1, 2, 5, 7] by decide))) rfl hl.1 (Nat.le_of_ble_eq_true rfl) (z_d hL_isSo_0 7 rfl) ⟨Nat.le_of_ble_eq_true rfl, Nat.le_of_ble_eq_true rfl⟩) hS hP hD (List.forall_mem_cons.mpr ⟨⟨rfl, rfl⟩, (List.forall_mem_cons.mpr ⟨⟨rfl, rfl⟩, (List.forall_mem_cons.mpr ⟨⟨rfl, rfl⟩, (List.forall_mem_cons.mpr ⟨⟨rfl, rfl⟩, (fun _ h => absurd h List.not_mem_nil)⟩)⟩)⟩)⟩) (show List.Nodup [1, 2, 5, 7] by decide) rfl rfl rfl (fun H locs hP hD hS => ?_)
  refine W.eq (g2 := F0 m 15 ls []) rfl ?_
  refine lv_iconst (v := 0) hx hb (z_d hL_isSo_0 8 rfl) (by decide) ?_
  refine lv_istore (lv' := [(8, .int 0), (7, .ref a91), (0, .ref mm), (1, .ref ag), (2, .ref ak), (3, .ref al), (4, .ref ap), (5, .ref ab), (6, .ref am)]) hx hb (z_d hL_isSo_0 9 rfl) hl (by decide) rfl (fun ls hl => ?_)
  refine lv_iconst (v := 0) hx hb (z_d hL_isSo_0 10 rfl) (by decide) ?_
  refine lv_istore (lv' := [(9, .int 0), (8, .int 0), (7, .ref a91), (0, .ref mm), (1, .ref ag), (2, .ref ak), (3, .ref al), (4, .ref ap), (5, .ref ab), (6, .ref am)]) hx hb (z_d hL_isSo_0 11 rfl) hl (by decide) rfl (fun ls hl => ?_)
  refine lv_iconst (v := 0) hx hb (z_d hL_isSo_0 12 rfl) (by decide) ?_
  refine lv_istore (lv' := [(10, .int 0), (9, .int 0), (8, .int 0), (7, .ref a91), (0, .ref mm), (1, .ref ag), (2, .ref ak), (3, .ref al), (4, .ref ap), (5, .ref ab), (6, .ref am)]) hx hb (z_d hL_isSo_0 13 rfl) hl (by decide) rfl (fun ls hl => ?_)
  refine lv_iconst (v := (-1)) hx hb (z_d hL_isSo_0 14 rfl) (by decide) ?_
  refine lv_istore (lv' := [(11, .int (-1)), (10, .int 0), (9, .int 0), (8, .int 0), (7, .ref a91), (0, .ref mm), (1, .ref ag), (2, .ref ak), (3, .ref al), (4, .ref ap), (5, .ref ab), (6, .ref am)]) hx hb (z_d hL_isSo_0 15 rfl) hl (by decide) rfl (fun ls hl => ?_)
  refine lv_iconst (v := (-1)) hx hb (z_d hL_isSo_0 16 rfl) (by decide) ?_
  refine lv_istore (lv' := [(12, .int (-1)), (11, .int (-1)), (10, .int 0), (9, .int 0), (8, .int 0), (7, .ref a91), (0, .ref mm), (1, .ref ag), (2, .ref ak), (3, .ref al), (4, .ref ap), (5, .ref ab), (6, .ref am)]) hx hb (z_d hL_isSo_0 17 rfl) hl (by decide) rfl (fun ls hl => ?_)
  refine lv_aload_n hx hb (z_d hL_isSo_0 18 rfl) rfl (lv_at hl 6 rfl) ?_
  refine lv_iconst (v := 0) hx hb (z_d hL_isSo_0 19 rfl) (by decide) ?_
  refine z_bnd hF (fun q2 hq2 hF => ?_)
  refine z_ro_i (z_rLR (As := [.ref mm, .int 0]) (rest := []) hx hb hml hown hts ht_L_valueOf (c_N_valueOf l Z mm u x 0 _ hq2) rfl rfl ⟨Nat.le_of_ble_eq_true rfl, Nat.le_of_ble_eq_true rfl⟩ k_m_L_134 hK (zP_c (zP_reg hP 0 rfl) zP_n) rfl hl.1 (Nat.le_of_ble_eq_true rfl) (z_d hL_isSo_0 20 rfl) ⟨Nat.le_of_ble_eq_true rfl, Nat.le_of_ble_eq_true rfl⟩) hS hP (fun H locs hP hS => ?_)
  refine lv_aload_n hx hb (z_d hL_isSo_0 21 rfl) rfl (lv_at hl 7 rfl) ?_
  refine lv_iconst (v := 0) hx hb (z_d hL_isSo_0 22 rfl) (by decide) ?_
  refine z_ix hF (fun hin hF => ?_)
  refine va_iald (D := Z.1) (f := g) hx hb hK.1 (zP_reg hP 1 rfl) 0 0 rfl rfl hin (z_d hL_isSo_0 23 rfl) ?_
  refine z_let hF (fun u3 hu3 hF => ?_)
  refine lv_topE hu3 ?_
  refine lv_icmp_ne (tgt := 69) hx hb (z_d hL_isSo_0 24 rfl) (by decide) (fun hc38 => ?_) (fun hc38 => ?_)
  · have hF := z_neg hc38 hF
    exact J69_a91 a91 q1 0 0 0 (-1) (-1) hF _ _ ls hP hD hS (lv_sub hl [6, 7, 8, 9, 10, 11, 12, 5, 4, 3, 2, 1, 0] rfl)
  · have hF := z_pos hc38 hF
    refine lv_aload_n hx hb (z_d hL_isSo_0 25 rfl) rfl (lv_at hl 6 rfl) ?_
    refine lv_iconst (v := 1) hx hb (z_d hL_isSo_0 26 rfl) (by decide) ?_
    refine z_bnd hF (fun q106 hq106 hF => ?_)
    refine z_ro_i (z_rLR (As := [.ref mm, .int 1]) (rest := []) hx hb hml hown hts ht_L_valueOf (c_N_valueOf l Z mm u x 1 _ hq106) rfl rfl ⟨Nat.le_of_ble_eq_true rfl, Nat.le_of_ble_eq_true rfl⟩ k_m_L_134 hK (zP_c (zP_reg hP 0 rfl) zP_n) rfl hl.1 (Nat.le_of_ble_eq_true rfl) (z_d hL_isSo_0 27 rfl) ⟨Nat.le_of_ble_eq_true rfl, Nat.le_of_ble_eq_true rfl⟩) hS hP (fun H locs hP hS => ?_)
    refine lv_aload_n hx hb (z_d hL_isSo_0 28 rfl) rfl (lv_at hl 7 rfl) ?_
    refine lv_aload_n hx hb (z_d hL_isSo_0 29 rfl) rfl (lv_at hl 8 rfl) ?_
    refine z_bnd hF (fun q107 hq107 hF => ?_)
    refine z_ro_i (z_rS (As := [.ref ag, .ref ak]) (rest := [.int q106]) hx hb hml hown hts vs_L_scenes (c_L_scenes l Z ag ak g k _ hq107) rfl rfl ⟨Nat.le_of_ble_eq_true rfl, Nat.le_of_ble_eq_true rfl⟩ k_m_L_90 zPro_blind (z_prec hK (zP_c (zP_reg hP 1 rfl) (zP_c (zP_reg hP 2 rfl) zP_n))) rfl hl.1 (Nat.le_of_ble_eq_true rfl) (z_d hL_isSo_0 30 rfl) ⟨Nat.le_of_ble_eq_true rfl, Nat.le_of_ble_eq_true rfl⟩) hS hP (fun H locs hP hS => ?_)
    refine lv_icmp_ne (tgt := 69) hx hb (z_d hL_isSo_0 31 rfl) (by decide) (fun hc51 => ?_) (fun hc51 => ?_)
    · have hF := z_neg hc51 hF
      exact J69_a91 a91 q1 0 0 0 (-1) (-1) hF _ _ ls hP hD hS (lv_sub hl [6, 7, 8, 9, 10, 11, 12, 5, 4, 3, 2, 1, 0] rfl)
    · have hF := z_pos hc51 hF
      refine lv_aload_n hx hb (z_d hL_isSo_0 32 rfl) rfl (lv_at hl 6 rfl) ?_
      refine lv_iconst (v := 3) hx hb (z_d hL_isSo_0 33 rfl) (by decide) ?_
      refine z_bnd hF (fun q108 hq108 hF => ?_)
      refine z_ro_i (z_rLR (As := [.ref mm, .int 3]) (rest := []) hx hb hml hown hts ht_L_valueOf (c_N_valueOf l Z mm u x 3 _ hq108) rfl rfl ⟨Nat.le_of_ble_eq_true rfl, Nat.le_of_ble_eq_true rfl⟩ k_m_L_134 hK (zP_c (zP_reg hP 0 rfl) zP_n) rfl hl.1 (Nat.le_of_ble_eq_true rfl) (z_d hL_isSo_0 34 rfl) ⟨Nat.le_of_ble_eq_true rfl, Nat.le_of_ble_eq_true rfl⟩) hS hP (fun H locs hP hS => ?_)
      refine lv_aload_n hx hb (z_d hL_isSo_0 35 rfl) rfl (lv_at hl 7 rfl) ?_
      refine lv_iconst (v := 1) hx hb (z_d hL_isSo_0 36 rfl) (by decide) ?_
      refine z_ix hF (fun hin hF => ?_)
      refine va_iald (D := Z.1) (f := g) hx hb hK.1 (zP_reg hP 1 rfl) 0 0 rfl rfl hin (z_d hL_isSo_0 37 rfl) ?_
      refine z_let hF (fun u109 hu109 hF => ?_)
      refine lv_topE hu109 ?_
      refine lv_icmp_ne (tgt := 69) hx hb (z_d hL_isSo_0 38 rfl) (by decide) (fun hc62 => ?_) (fun hc62 => ?_)
      · have hF := z_neg hc62 hF
        exact J69_a91 a91 q1 0 0 0 (-1) (-1) hF _ _ ls hP hD hS (lv_sub hl [6, 7, 8, 9, 10, 11, 12, 5, 4, 3, 2, 1, 0] rfl)
      · have hF := z_pos hc62 hF
        refine lv_iconst (v := 1) hx hb (z_d hL_isSo_0 39 rfl) (by decide) ?_
        refine lv_goto (tgt := 70) hx hb (z_d hL_isSo_0 40 rfl) (by decide) ?_
        exact J70_a91 a91 q1 0 0 0 (-1) (-1) 1 hF _ _ ls hP hD hS (lv_sub hl [6, 7, 8, 9, 10, 11, 12, 5, 4, 3, 2, 1, 0] rfl)

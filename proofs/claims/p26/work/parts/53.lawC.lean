theorem vs_L_scenes : zSt yL_scenes cL_scenes 4 (some .int) 2 := ⟨zG_at 279 (by decide +kernel) (by decide +kernel), zG_at 25 (by decide +kernel) (by decide +kernel), zG_at 280 (by decide +kernel) (by decide +kernel), by decide +kernel⟩
theorem vs_L_drop : zSt yL_drop cL_drop 8 none 7 := ⟨zG_at 620 (by decide +kernel) (by decide +kernel), zG_at 25 (by decide +kernel) (by decide +kernel), zG_at 621 (by decide +kernel) (by decide +kernel), by decide +kernel⟩
theorem k_m_L_90 : Cond.methodLink RL 90 yL_scenes ∈ zG := zG_at 278 (by decide +kernel) (by decide +kernel)
theorem k_m_L_94 : Cond.methodLink RL 94 yL_omits ∈ zG := zG_at 658 (by decide +kernel) (by decide +kernel)
theorem k_m_L_62 : Cond.methodLink RL 62 yL_drop ∈ zG := zG_at 619 (by decide +kernel) (by decide +kernel)
theorem ht_L_omits : zHt yL_omits cL_omits 3 [(0, 5, 6, 101), (0, 5, 10, 106)] 2 := ⟨zG_at 659 (by decide +kernel) (by decide +kernel), zG_at 25 (by decide +kernel) (by decide +kernel), zG_at 660 (by decide +kernel) (by decide +kernel), by decide +kernel⟩
def rm_L_omitted : Room := { frames := 8, cells := 1, slots := 6, locals := 185 }
set_option maxRecDepth 100000 in
set_option maxHeartbeats 4000000 in
theorem c_L_omitted (l : Launch) (hlt : l.stackTraces = false) (Z : zZ) (sa : Nat → Nat) (sz : Nat) (mm : Nat) (u : t_SPa) (ag : Nat) (ak : Nat) (al : Nat) (ap : Nat) (ab : Nat) (am : Nat) (x : t_SP) (g : Rw) (k : Rw) (ln : Rw) (pr : Rw) (lb : Rw) (mk : Rw) (p7 : Int32) (R : Int32 × t_SP × Rw × Rw × Rw × Rw × Rw × Rw) (hF : L_omitted x g k ln pr lb mk p7 = some R) : zKM l yL_omitted (zw yL_omitted cL_omitted 12 (some .boolean)) rm_L_omitted Z sa sz [.ref mm, .ref ag, .ref ak, .ref al, .ref ap, .ref ab, .ref am, .int p7] (List.flatten [w_SP Z mm u x, w_Arr Z.2.1 2 ag g, w_Arr Z.2.1 41 ak k, w_Arr Z.2.1 41 al ln, w_Arr Z.2.1 41 ap pr, w_Arr Z.2.1 41 ab lb, w_Arr Z.2.1 41 am mk]) (List.flatten [w_SP Z mm u R.2.1, w_Arr Z.2.1 2 ag R.2.2.1, w_Arr Z.2.1 41 ak R.2.2.2.1, w_Arr Z.2.1 41 al R.2.2.2.2.1, w_Arr Z.2.1 41 ap R.2.2.2.2.2.1, w_Arr Z.2.1 41 ab R.2.2.2.2.2.2.1, w_Arr Z.2.1 41 am R.2.2.2.2.2.2.2]) (some (.int R.1)) 1 6 := by
  refine zKM_of (by decide) (Nat.le_of_ble_eq_true rfl) (fun p e s m below meth c hx hb hr hml hown hts hlocks hK hT hN A hA hA0 Q hQ ls hl hP hD hS => ?_)
  rw [← hA] at hT
  unfold L_omitted at hF
  have hl : lv_has ls 12 [(0, .ref mm), (1, .ref ag), (2, .ref ak), (3, .ref al), (4, .ref ap), (5, .ref ab), (6, .ref am), (7, .int p7)] := hl
  have hown : s.vm.findClass RL = some m.cls := hown
  have L42 : ∀  (x : t_SP) (g : Rw) (k : Rw) (ln : Rw) (pr : Rw) (lb : Rw) (mk : Rw) (x9 : Int32) (n : Nat) (v : Int32 × Int32) (X : Int32) (hF : zloop (b_L_omitted_42 p7 x g k ln pr lb mk x9) n v = some X) (H : Heap) (locs : List Loc) (ls : Array Slot) (hP : va_P Z.1 vwCl (List.flatten [w_SP Z mm u x, w_Arr Z.2.1 2 ag g, w_Arr Z.2.1 41 ak k, w_Arr Z.2.1 41 al ln, w_Arr Z.2.1 41 ap pr, w_Arr Z.2.1 41 ab lb, w_Arr Z.2.1 41 am mk]) H) (hD : va_D A (List.flatten [w_SP Z mm u x, w_Arr Z.2.1 2 ag g, w_Arr Z.2.1 41 ak k, w_Arr Z.2.1 41 al ln, w_Arr Z.2.1 41 ap pr, w_Arr Z.2.1 41 ab lb, w_Arr Z.2.1 41 am mk])) (hS : va_S A s.heap H locs) (hl : lv_has ls 12 [(0, .ref mm), (1, .ref ag), (2, .ref ak), (3, .ref al), (4, .ref ap), (5, .ref ab), (6, .ref am), (7, .int p7), (9, .int x9), (10, .int v.1), (11, .int v.2)]) (K1 : ∀ (H : Heap) (locs : List Loc) (ls : Array Slot) (hP : va_P Z.1 vwCl (List.flatten [w_SP Z mm u x, w_Arr Z.2.1 2 ag g, w_Arr Z.2.1 41 ak k, w_Arr Z.2.1 41 al ln, w_Arr Z.2.1 41 ap pr, w_Arr Z.2.1 41 ab lb, w_Arr Z.2.1 41 am mk]) H) (hD : va_D A (List.flatten [w_SP Z mm u x, w_Arr Z.2.1 2 ag g, w_Arr Z.2.1 41 ak k, w_Arr Z.2.1 41 al ln, w_Arr Z.2.1 41 ap pr, w_Arr Z.2.1 41 ab lb, w_Arr Z.2.1 41 am mk])) (hS : va_S A s.heap H locs) (hl : lv_has ls 12 [(0, .ref mm), (1, .ref ag), (2, .ref ak), (3, .ref al), (4, .ref ap), (5, .ref ab), (6, .ref am), (7, .int p7), (9, .int x9), (10, .int X)]), W p l e rm_L_omitted s m ([.ref mm, .ref ag, .ref ak, .ref al, .ref ap, .ref ab, .ref am, .int p7] : List Value).toArray below meth c H locs 0 0 Q (F0 m 71 ls [])), W p l e rm_L_omitted s m ([.ref mm, .ref ag, .ref ak, .ref al, .ref ap, .ref ab, .ref am, .int p7] : List Value).toArray below meth c H locs 0 0 Q (F0 m 42 ls []) := by
    intro x g k ln pr lb mk x9
    refine z_loopE (fun rec ih v X hF H locs ls hP hD hS hl K1 => ?_)
    unfold b_L_omitted_42 at hF
    have L50 : ∀  (x : t_SP) (g : Rw) (k : Rw) (ln : Rw) (pr : Rw) (lb : Rw) (mk : Rw) (x9 : Int32) (x11 : Int32) (n : Nat) (v : Int32) (X : Int32) (hF : zloop (b_L_omitted_50 p7 x g k ln pr lb mk x9 x11) n v = some X) (H : Heap) (locs : List Loc) (ls : Array Slot) (hP : va_P Z.1 vwCl (List.flatten [w_SP Z mm u x, w_Arr Z.2.1 2 ag g, w_Arr Z.2.1 41 ak k, w_Arr Z.2.1 41 al ln, w_Arr Z.2.1 41 ap pr, w_Arr Z.2.1 41 ab lb, w_Arr Z.2.1 41 am mk]) H) (hD : va_D A (List.flatten [w_SP Z mm u x, w_Arr Z.2.1 2 ag g, w_Arr Z.2.1 41 ak k, w_Arr Z.2.1 41 al ln, w_Arr Z.2.1 41 ap pr, w_Arr Z.2.1 41 ab lb, w_Arr Z.2.1 41 am mk])) (hS : va_S A s.heap H locs) (hl : lv_has ls 12 [(0, .ref mm), (1, .ref ag), (2, .ref ak), (3, .ref al), (4, .ref ap), (5, .ref ab), (6, .ref am), (7, .int p7), (9, .int x9), (10, .int v), (11, .int x11)]) (K1 : ∀ (H : Heap) (locs : List Loc) (ls : Array Slot) (hP : va_P Z.1 vwCl (List.flatten [w_SP Z mm u x, w_Arr Z.2.1 2 ag g, w_Arr Z.2.1 41 ak k, w_Arr Z.2.1 41 al ln, w_Arr Z.2.1 41 ap pr, w_Arr Z.2.1 41 ab lb, w_Arr Z.2.1 41 am mk]) H) (hD : va_D A (List.flatten [w_SP Z mm u x, w_Arr Z.2.1 2 ag g, w_Arr Z.2.1 41 ak k, w_Arr Z.2.1 41 al ln, w_Arr Z.2.1 41 ap pr, w_Arr Z.2.1 41 ab lb, w_Arr Z.2.1 41 am mk])) (hS : va_S A s.heap H locs) (hl : lv_has ls 12 [(0, .ref mm), (1, .ref ag), (2, .ref ak), (3, .ref al), (4, .ref ap), (5, .ref ab), (6, .ref am), (7, .int p7), (9, .int x9), (10, .int X), (11, .int x11)]), W p l e rm_L_omitted s m ([.ref mm, .ref ag, .ref ak, .ref al, .ref ap, .ref ab, .ref am, .int p7] : List Value).toArray below meth c H locs 0 0 Q (F0 m 65 ls [])), W p l e rm_L_omitted s m ([.ref mm, .ref ag, .ref ak, .ref al, .ref ap, .ref ab, .ref am, .int p7] : List Value).toArray below meth c H locs 0 0 Q (F0 m 50 ls []) := by
      intro x g k ln pr lb mk x9 x11
      refine z_loopE (fun rec ih v X hF H locs ls hP hD hS hl K1 => ?_)
      unfold b_L_omitted_50 at hF
      refine lv_aload_n hx hb (z_d hL_omitted_0 26 rfl) rfl (lv_at hl 2 rfl) ?_
      refine lv_iload hx hb (z_d hL_omitted_0 27 rfl) (lv_at hl 9 rfl) ?_
      refine z_bnd hF (fun q4 hq4 hF => ?_)
      refine z_ro_i (z_rS (As := [.ref ak, .int v]) (rest := []) hx hb hml hown hts vs_L_heads (c_L_heads l Z ak k v _ hq4) rfl rfl ⟨Nat.le_of_ble_eq_true rfl, Nat.le_of_ble_eq_true rfl⟩ k_m_L_9 zPro_blind (z_prec hK (zP_c (zP_reg hP 2 rfl) zP_n)) rfl hl.1 (Nat.le_of_ble_eq_true rfl) (z_d hL_omitted_0 28 rfl) ⟨Nat.le_of_ble_eq_true rfl, Nat.le_of_ble_eq_true rfl⟩) hS hP (fun H locs hP hS => ?_)
      refine lv_if_ne (tgt := 65) hx hb (z_d hL_omitted_0 29 rfl) (by decide) (fun hc56 => ?_) (fun hc56 => ?_)
      · have hF := z_neg hc56 hF
        obtain rfl := Option.some.inj hF
        exact K1 _ _ ls hP hD hS (lv_sub hl [0, 1, 2, 3, 4, 5, 6, 7, 8, 9, 10] rfl)
      · have hF := z_pos hc56 hF
        refine z_let hF (fun u5 hu5 hF => ?_)
        refine lv_iinc (v := u5) (lv' := [(10, .int u5), (0, .ref mm), (1, .ref ag), (2, .ref ak), (3, .ref al), (4, .ref ap), (5, .ref ab), (6, .ref am), (7, .int p7), (9, .int x9), (11, .int x11)]) hx hb (z_d hL_omitted_0 30 rfl) hl (k := 9) rfl (z_inc1 hu5) (by decide) rfl (fun ls hl => ?_)
        refine lv_goto (tgt := 50) hx hb (z_d hL_omitted_0 31 rfl) (by decide) ?_
        exact ih _ _ hF _ _ ls hP hD hS (lv_sub hl [1, 2, 3, 4, 5, 6, 7, 8, 9, 0, 10] rfl) K1
    refine lv_iload hx hb (z_d hL_omitted_0 23 rfl) (lv_at hl 10 rfl) ?_
    refine lv_if_lt (tgt := 71) hx hb (z_d hL_omitted_0 24 rfl) (by decide) (fun hc44 => ?_) (fun hc44 => ?_)
    · have hF := z_pos hc44 hF
      obtain rfl := Option.some.inj hF
      exact K1 _ _ ls hP hD hS (lv_sub hl [0, 1, 2, 3, 4, 5, 6, 7, 8, 9] rfl)
    · have hF := z_neg hc44 hF
      refine z_let hF (fun u3 hu3 hF => ?_)
      refine lv_iinc (v := u3) (lv' := [(10, .int u3), (0, .ref mm), (1, .ref ag), (2, .ref ak), (3, .ref al), (4, .ref ap), (5, .ref ab), (6, .ref am), (7, .int p7), (9, .int x9), (11, .int v.2)]) hx hb (z_d hL_omitted_0 25 rfl) hl (k := 9) rfl (z_inc1 hu3) (by decide) rfl (fun ls hl => ?_)
      refine z_bnd hF (fun q6 hq6 hF => ?_)
      refine L50 x g k ln pr lb mk x9 v.2 _ _ _ hq6 _ _ ls hP hD hS (lv_sub hl [1, 2, 3, 4, 5, 6, 7, 8, 9, 0, 10] rfl) (fun H locs ls hP hD hS hl => ?_)
      refine z_let hF (fun u7 hu7 hF => ?_)
      refine lv_iinc (v := u7) (lv' := [(11, .int u7), (0, .ref mm), (1, .ref ag), (2, .ref ak), (3, .ref al), (4, .ref ap), (5, .ref ab), (6, .ref am), (7, .int p7), (9, .int x9), (10, .int q6)]) hx hb (z_d hL_omitted_0 32 rfl) hl (k := 10) rfl (z_incm1 hu7) (by decide) rfl (fun ls hl => ?_)
      refine lv_goto (tgt := 42) hx hb (z_d hL_omitted_0 33 rfl) (by decide) ?_
      exact ih _ _ hF _ _ ls hP hD hS (lv_sub hl [1, 2, 3, 4, 5, 6, 7, 8, 9, 10, 0] rfl) K1
  have J87 : ∀  (x : t_SP) (g : Rw) (k : Rw) (ln : Rw) (pr : Rw) (lb : Rw) (mk : Rw) (x9 : Int32) (hF : j_L_omitted_87 p7 x g k ln pr lb mk x9 = some R) (H : Heap) (locs : List Loc) (ls : Array Slot) (hP : va_P Z.1 vwCl (List.flatten [w_SP Z mm u x, w_Arr Z.2.1 2 ag g, w_Arr Z.2.1 41 ak k, w_Arr Z.2.1 41 al ln, w_Arr Z.2.1 41 ap pr, w_Arr Z.2.1 41 ab lb, w_Arr Z.2.1 41 am mk]) H) (hD : va_D A (List.flatten [w_SP Z mm u x, w_Arr Z.2.1 2 ag g, w_Arr Z.2.1 41 ak k, w_Arr Z.2.1 41 al ln, w_Arr Z.2.1 41 ap pr, w_Arr Z.2.1 41 ab lb, w_Arr Z.2.1 41 am mk])) (hS : va_S A s.heap H locs) (hl : lv_has ls 12 [(0, .ref mm), (1, .ref ag), (2, .ref ak), (3, .ref al), (4, .ref ap), (5, .ref ab), (6, .ref am), (7, .int p7), (9, .int x9)]), W p l e rm_L_omitted s m ([.ref mm, .ref ag, .ref ak, .ref al, .ref ap, .ref ab, .ref am, .int p7] : List Value).toArray below meth c H locs 0 0 Q (F0 m 87 ls []) := by
    intro x g k ln pr lb mk x9 hF H locs ls hP hD hS hl
    unfold j_L_omitted_87 at hF
    refine lv_aload_n hx hb (z_d hL_omitted_0 43 rfl) rfl (lv_at hl 0 rfl) ?_
    refine lv_iload hx hb (z_d hL_omitted_0 44 rfl) (lv_at hl 8 rfl) ?_
    refine z_bnd hF (fun q10 hq10 hF => ?_)
    refine z_muN (L := [w_SP Z mm u x, w_Arr Z.2.1 2 ag g, w_Arr Z.2.1 41 ak k, w_Arr Z.2.1 41 al ln, w_Arr Z.2.1 41 ap pr, w_Arr Z.2.1 41 ab lb, w_Arr Z.2.1 41 am mk]) (L' := [w_SP Z mm u q10.2, w_Arr Z.2.1 2 ag g, w_Arr Z.2.1 41 ak k, w_Arr Z.2.1 41 al ln, w_Arr Z.2.1 41 ap pr, w_Arr Z.2.1 41 ab lb, w_Arr Z.2.1 41 am mk]) [(0, w_SP Z mm u x, w_SP Z mm u q10.2)] (z_rL (As := [.ref mm, .int x9]) (rest := []) hx hb hml hown hts ht_L_omits (c_L_omits l hlt Z sa mm u x x9 _ hq10) rfl rfl ⟨Nat.le_of_ble_eq_true rfl, Nat.le_of_ble_eq_true rfl⟩ k_m_L_94 hK ((hT.kept hS.2.1).narrow (z_zA (zDq [(0, w_SP Z mm u x, w_SP Z mm u q10.2)] hD (List.forall_mem_cons.mpr ⟨⟨rfl, (adr_SP _ _ _ _ _)⟩, (fun _ h => absurd h List.not_mem_nil)⟩) (show List.Nodup [0] by decide)))) hN (zP_c (zP_reg hP 0 rfl) zP_n) (zDq [(0, w_SP Z mm u x, w_SP Z mm u q10.2)] hD (List.forall_mem_cons.mpr ⟨⟨rfl, (adr_SP _ _ _ _ _)⟩, (fun _ h => absurd h List.not_mem_nil)⟩) (show List.Nodup [0] by decide)) rfl hl.1 (Nat.le_of_ble_eq_true rfl) (z_d hL_omitted_0 45 rfl) ⟨Nat.le_of_ble_eq_true rfl, Nat.le_of_ble_eq_true rfl⟩) hS hP hD (List.forall_mem_cons.mpr ⟨⟨rfl, (adr_SP _ _ _ _ _)⟩, (fun _ h => absurd h List.not_mem_nil)⟩) (show List.Nodup [0] by decide) rfl rfl rfl (fun H locs hP hD hS => ?_)
    refine W.eq (g2 := F0 m 93 ls [.int q10.1]) rfl ?_
    refine lv_ldc (v := (-100003)) hx hb hown (hts _ k_i_L_57) (z_d hL_omitted_0 46 rfl) ?_
    refine lv_icmp_ne (tgt := 102) hx hb (z_d hL_omitted_0 47 rfl) (by decide) (fun hc95 => ?_) (fun hc95 => ?_)
    · have hF := z_neg hc95 hF
      refine lv_iconst (v := 0) hx hb (z_d hL_omitted_0 50 rfl) (by decide) ?_
      have hz9 : narrow .boolean (.int 0) = .int 0 := rfl
      obtain rfl := Option.some.inj hF
      subst hQ
      subst hA
      exact z_kretZ (L := [w_SP Z mm u q10.2, w_Arr Z.2.1 2 ag g, w_Arr Z.2.1 41 ak k, w_Arr Z.2.1 41 al ln, w_Arr Z.2.1 41 ap pr, w_Arr Z.2.1 41 ab lb, w_Arr Z.2.1 41 am mk]) (Lr := []) hx hb hr hlocks hz9 rfl hP hS (Nat.le_of_ble_eq_true rfl) (Nat.le_of_ble_eq_true rfl) (z_d hL_omitted_0 51 rfl)
    · have hF := z_pos hc95 hF
      refine lv_iconst (v := 1) hx hb (z_d hL_omitted_0 48 rfl) (by decide) ?_
      refine lv_goto (tgt := 103) hx hb (z_d hL_omitted_0 49 rfl) (by decide) ?_
      have hz9 : narrow .boolean (.int 1) = .int 1 := rfl
      obtain rfl := Option.some.inj hF
      subst hQ
      subst hA
      exact z_kretZ (L := [w_SP Z mm u q10.2, w_Arr Z.2.1 2 ag g, w_Arr Z.2.1 41 ak k, w_Arr Z.2.1 41 al ln, w_Arr Z.2.1 41 ap pr, w_Arr Z.2.1 41 ab lb, w_Arr Z.2.1 41 am mk]) (Lr := []) hx hb hr hlocks hz9 rfl hP hS (Nat.le_of_ble_eq_true rfl) (Nat.le_of_ble_eq_true rfl) (z_d hL_omitted_0 51 rfl)
  have L107 : ∀  (x : t_SP) (x9 : Int32) (x10 : Int32) (n : Nat) (v : Rw × Rw × Rw × Rw × Rw × Rw × Int32) (X : Rw × Rw × Rw × Rw × Rw × Rw × Int32) (hF : zloop (b_L_omitted_107 p7 x x9 x10) n v = some X) (H : Heap) (locs : List Loc) (ls : Array Slot) (hP : va_P Z.1 vwCl (List.flatten [w_SP Z mm u x, w_Arr Z.2.1 2 ag v.1, w_Arr Z.2.1 41 ak v.2.1, w_Arr Z.2.1 41 al v.2.2.1, w_Arr Z.2.1 41 ap v.2.2.2.1, w_Arr Z.2.1 41 ab v.2.2.2.2.1, w_Arr Z.2.1 41 am v.2.2.2.2.2.1]) H) (hD : va_D A (List.flatten [w_SP Z mm u x, w_Arr Z.2.1 2 ag v.1, w_Arr Z.2.1 41 ak v.2.1, w_Arr Z.2.1 41 al v.2.2.1, w_Arr Z.2.1 41 ap v.2.2.2.1, w_Arr Z.2.1 41 ab v.2.2.2.2.1, w_Arr Z.2.1 41 am v.2.2.2.2.2.1])) (hS : va_S A s.heap H locs) (hl : lv_has ls 12 [(0, .ref mm), (1, .ref ag), (2, .ref ak), (3, .ref al), (4, .ref ap), (5, .ref ab), (6, .ref am), (7, .int p7), (9, .int x9), (10, .int x10), (11, .int v.2.2.2.2.2.2)]) (K1 : ∀ (H : Heap) (locs : List Loc) (ls : Array Slot) (hP : va_P Z.1 vwCl (List.flatten [w_SP Z mm u x, w_Arr Z.2.1 2 ag X.1, w_Arr Z.2.1 41 ak X.2.1, w_Arr Z.2.1 41 al X.2.2.1, w_Arr Z.2.1 41 ap X.2.2.2.1, w_Arr Z.2.1 41 ab X.2.2.2.2.1, w_Arr Z.2.1 41 am X.2.2.2.2.2.1]) H) (hD : va_D A (List.flatten [w_SP Z mm u x, w_Arr Z.2.1 2 ag X.1, w_Arr Z.2.1 41 ak X.2.1, w_Arr Z.2.1 41 al X.2.2.1, w_Arr Z.2.1 41 ap X.2.2.2.1, w_Arr Z.2.1 41 ab X.2.2.2.2.1, w_Arr Z.2.1 41 am X.2.2.2.2.2.1])) (hS : va_S A s.heap H locs) (hl : lv_has ls 12 [(0, .ref mm), (1, .ref ag), (2, .ref ak), (3, .ref al), (4, .ref ap), (5, .ref ab), (6, .ref am), (7, .int p7), (9, .int x9), (10, .int x10), (11, .int X.2.2.2.2.2.2)]), W p l e rm_L_omitted s m ([.ref mm, .ref ag, .ref ak, .ref al, .ref ap, .ref ab, .ref am, .int p7] : List Value).toArray below meth c H locs 0 0 Q (F0 m 150 ls [])), W p l e rm_L_omitted s m ([.ref mm, .ref ag, .ref ak, .ref al, .ref ap, .ref ab, .ref am, .int p7] : List Value).toArray below meth c H locs 0 0 Q (F0 m 107 ls []) := by
    intro x x9 x10
    refine z_loopE (fun rec ih v X hF H locs ls hP hD hS hl K1 => ?_)
    unfold b_L_omitted_107 at hF
    refine lv_iload hx hb (z_d hL_omitted_0 54 rfl) (lv_at hl 9 rfl) ?_
    refine lv_iconst (v := 1) hx hb (z_d hL_omitted_0 55 rfl) (by decide) ?_
    refine lv_iadd hx hb (z_d hL_omitted_0 56 rfl) ?_
    refine z_let hF (fun u12 hu12 hF => ?_)
    refine lv_topE hu12 ?_
    refine lv_aload_n hx hb (z_d hL_omitted_0 57 rfl) rfl (lv_at hl 1 rfl) ?_
    refine lv_iconst (v := 0) hx hb (z_d hL_omitted_0 58 rfl) (by decide) ?_
    refine z_ix hF (fun hin hF => ?_)
    refine va_iald (D := Z.1) (f := v.1) hx hb hK.1 (zP_reg hP 1 rfl) 0 0 rfl rfl hin (z_d hL_omitted_0 59 rfl) ?_
    refine z_let hF (fun u13 hu13 hF => ?_)
    refine lv_topE hu13 ?_
    refine lv_icmp_ge (tgt := 150) hx hb (z_d hL_omitted_1 0 rfl) (by decide) (fun hc114 => ?_) (fun hc114 => ?_)
    · have hF := z_pos hc114 hF
      obtain rfl := Option.some.inj hF
      exact K1 _ _ ls hP hD hS (lv_sub hl [0, 1, 2, 3, 4, 5, 6, 7, 8, 9, 10] rfl)
    · have hF := z_neg hc114 hF
      refine lv_aload_n hx hb (z_d hL_omitted_1 1 rfl) rfl (lv_at hl 2 rfl) ?_
      refine lv_iload hx hb (z_d hL_omitted_1 2 rfl) (lv_at hl 9 rfl) ?_
      refine lv_iconst (v := 1) hx hb (z_d hL_omitted_1 3 rfl) (by decide) ?_
      refine lv_iadd hx hb (z_d hL_omitted_1 4 rfl) ?_
      refine z_let hF (fun u14 hu14 hF => ?_)
      refine lv_topE hu14 ?_
      refine z_bnd hF (fun q15 hq15 hF => ?_)
      refine z_ro_i (z_rS (As := [.ref ak, .int u14]) (rest := []) hx hb hml hown hts vs_L_heads (c_L_heads l Z ak v.2.1 u14 _ hq15) rfl rfl ⟨Nat.le_of_ble_eq_true rfl, Nat.le_of_ble_eq_true rfl⟩ k_m_L_9 zPro_blind (z_prec hK (zP_c (zP_reg hP 2 rfl) zP_n)) rfl hl.1 (Nat.le_of_ble_eq_true rfl) (z_d hL_omitted_1 5 rfl) ⟨Nat.le_of_ble_eq_true rfl, Nat.le_of_ble_eq_true rfl⟩) hS hP (fun H locs hP hS => ?_)
      refine lv_if_ne (tgt := 150) hx hb (z_d hL_omitted_1 6 rfl) (by decide) (fun hc125 => ?_) (fun hc125 => ?_)
      · have hF := z_neg hc125 hF
        obtain rfl := Option.some.inj hF
        exact K1 _ _ ls hP hD hS (lv_sub hl [0, 1, 2, 3, 4, 5, 6, 7, 8, 9, 10] rfl)
      · have hF := z_pos hc125 hF
        refine lv_aload_n hx hb (z_d hL_omitted_1 7 rfl) rfl (lv_at hl 1 rfl) ?_
        refine lv_aload_n hx hb (z_d hL_omitted_1 8 rfl) rfl (lv_at hl 2 rfl) ?_
        refine lv_aload_n hx hb (z_d hL_omitted_1 9 rfl) rfl (lv_at hl 3 rfl) ?_
        refine lv_aload hx hb (z_d hL_omitted_1 10 rfl) (lv_at hl 4 rfl) ?_
        refine lv_aload hx hb (z_d hL_omitted_1 11 rfl) (lv_at hl 5 rfl) ?_
        refine lv_aload hx hb (z_d hL_omitted_1 12 rfl) (lv_at hl 6 rfl) ?_
        refine lv_iload hx hb (z_d hL_omitted_1 13 rfl) (lv_at hl 9 rfl) ?_
        refine lv_iconst (v := 1) hx hb (z_d hL_omitted_1 14 rfl) (by decide) ?_
        refine lv_iadd hx hb (z_d hL_omitted_1 15 rfl) ?_
        refine z_let hF (fun u16 hu16 hF => ?_)
        refine lv_topE hu16 ?_
        refine z_bnd hF (fun q17 hq17 hF => ?_)
        refine z_muN (L := [w_SP Z mm u x, w_Arr Z.2.1 2 ag v.1, w_Arr Z.2.1 41 ak v.2.1, w_Arr Z.2.1 41 al v.2.2.1, w_Arr Z.2.1 41 ap v.2.2.2.1, w_Arr Z.2.1 41 ab v.2.2.2.2.1, w_Arr Z.2.1 41 am v.2.2.2.2.2.1]) (L' := [w_SP Z mm u x, w_Arr Z.2.1 2 ag q17.1, w_Arr Z.2.1 41 ak q17.2.1, w_Arr Z.2.1 41 al q17.2.2.1, w_Arr Z.2.1 41 ap q17.2.2.2.1, w_Arr Z.2.1 41 ab q17.2.2.2.2.1, w_Arr Z.2.1 41 am q17.2.2.2.2.2]) [(1, w_Arr Z.2.1 2 ag v.1, w_Arr Z.2.1 2 ag q17.1), (2, w_Arr Z.2.1 41 ak v.2.1, w_Arr Z.2.1 41 ak q17.2.1), (3, w_Arr Z.2.1 41 al v.2.2.1, w_Arr Z.2.1 41 al q17.2.2.1), (4, w_Arr Z.2.1 41 ap v.2.2.2.1, w_Arr Z.2.1 41 ap q17.2.2.2.1), (5, w_Arr Z.2.1 41 ab v.2.2.2.2.1, w_Arr Z.2.1 41 ab q17.2.2.2.2.1), (6, w_Arr Z.2.1 41 am v.2.2.2.2.2.1, w_Arr Z.2.1 41 am q17.2.2.2.2.2)] (z_rS (As := [.ref ag, .ref ak, .ref al, .ref ap, .ref ab, .ref am, .int u16]) (rest := []) hx hb hml hown hts vs_L_drop (c_L_drop l Z ag ak al ap ab am v.1 v.2.1 v.2.2.1 v.2.2.2.1 v.2.2.2.2.1 v.2.2.2.2.2.1 u16 _ hq17) rfl rfl ⟨Nat.le_of_ble_eq_true rfl, Nat.le_of_ble_eq_true rfl⟩ k_m_L_62 zPmu_blind (z_prem hK (zP_c (zP_reg hP 1 rfl) (zP_c (zP_reg hP 2 rfl) (zP_c (zP_reg hP 3 rfl) (zP_c (zP_reg hP 4 rfl) (zP_c (zP_reg hP 5 rfl) (zP_c (zP_reg hP 6 rfl) zP_n)))))) (zDq [(1, w_Arr Z.2.1 2 ag v.1, w_Arr Z.2.1 2 ag q17.1), (2, w_Arr Z.2.1 41 ak v.2.1, w_Arr Z.2.1 41 ak q17.2.1), (3, w_Arr Z.2.1 41 al v.2.2.1, w_Arr Z.2.1 41 al q17.2.2.1), (4, w_Arr Z.2.1 41 ap v.2.2.2.1, w_Arr Z.2.1 41 ap q17.2.2.2.1), (5, w_Arr Z.2.1 41 ab v.2.2.2.2.1, w_Arr Z.2.1 41 ab q17.2.2.2.2.1), (6, w_Arr Z.2.1 41 am v.2.2.2.2.2.1, w_Arr Z.2.1 41 am q17.2.2.2.2.2)] hD (List.forall_mem_cons.mpr ⟨⟨rfl, rfl⟩, (List.forall_mem_cons.mpr ⟨⟨rfl, rfl⟩, (List.forall_mem_cons.mpr ⟨⟨rfl, rfl⟩, (List.forall_mem_cons.mpr ⟨⟨rfl, rfl⟩, (List.forall_mem_cons.mpr ⟨⟨rfl, rfl⟩, (List.forall_mem_cons.mpr ⟨⟨rfl, rfl⟩, (fun _ h => absurd h List.not_mem_nil)⟩)⟩)⟩)⟩)⟩)⟩) (show List.Nodup [1, 2, 3, 4, 5, 6] by decide))) rfl hl.1 (Nat.le_of_ble_eq_true rfl) (z_d hL_omitted_1 16 rfl) ⟨Nat.le_of_ble_eq_true rfl, Nat.le_of_ble_eq_true rfl⟩) hS hP hD (List.forall_mem_cons.mpr ⟨⟨rfl, rfl⟩, (List.forall_mem_cons.mpr ⟨⟨rfl, rfl⟩, (List.forall_mem_cons.mpr ⟨⟨rfl, rfl⟩, (List.forall_mem_cons.mpr ⟨⟨rfl, rfl⟩, (List.forall_mem_cons.mpr ⟨⟨rfl, rfl⟩, (List.forall_mem_cons.mpr ⟨⟨rfl, rfl⟩, (fun _ h => absurd h List.not_mem_nil)⟩)⟩)⟩)⟩)⟩)⟩) (show List.Nodup [1, 2, 3, 4, 5, 6] by decide) rfl rfl rfl (fun H locs hP hD hS => ?_)
        refine W.eq (g2 := F0 m 144 ls []) rfl ?_
        refine z_let hF (fun u18 hu18 hF => ?_)
        refine lv_iinc (v := u18) (lv' := [(11, .int u18), (0, .ref mm), (1, .ref ag), (2, .ref ak), (3, .ref al), (4, .ref ap), (5, .ref ab), (6, .ref am), (7, .int p7), (9, .int x9), (10, .int x10)]) hx hb (z_d hL_omitted_1 17 rfl) hl (k := 10) rfl (z_inc1 hu18) (by decide) rfl (fun ls hl => ?_)
        refine lv_goto (tgt := 107) hx hb (z_d hL_omitted_1 18 rfl) (by decide) ?_
        exact ih _ _ hF _ _ ls hP hD hS (lv_sub hl [1, 2, 3, 4, 5, 6, 7, 8, 9, 10, 0] rfl) K1
  have J150 : ∀  (x : t_SP) (g : Rw) (k : Rw) (ln : Rw) (pr : Rw) (lb : Rw) (mk : Rw) (x9 : Int32) (x10 : Int32) (x11 : Int32) (hF : j_L_omitted_150 p7 x g k ln pr lb mk x9 x10 x11 = some R) (H : Heap) (locs : List Loc) (ls : Array Slot) (hP : va_P Z.1 vwCl (List.flatten [w_SP Z mm u x, w_Arr Z.2.1 2 ag g, w_Arr Z.2.1 41 ak k, w_Arr Z.2.1 41 al ln, w_Arr Z.2.1 41 ap pr, w_Arr Z.2.1 41 ab lb, w_Arr Z.2.1 41 am mk]) H) (hD : va_D A (List.flatten [w_SP Z mm u x, w_Arr Z.2.1 2 ag g, w_Arr Z.2.1 41 ak k, w_Arr Z.2.1 41 al ln, w_Arr Z.2.1 41 ap pr, w_Arr Z.2.1 41 ab lb, w_Arr Z.2.1 41 am mk])) (hS : va_S A s.heap H locs) (hl : lv_has ls 12 [(0, .ref mm), (1, .ref ag), (2, .ref ak), (3, .ref al), (4, .ref ap), (5, .ref ab), (6, .ref am), (7, .int p7), (9, .int x9), (10, .int x10), (11, .int x11)]), W p l e rm_L_omitted s m ([.ref mm, .ref ag, .ref ak, .ref al, .ref ap, .ref ab, .ref am, .int p7] : List Value).toArray below meth c H locs 0 0 Q (F0 m 150 ls []) := by
    intro x g k ln pr lb mk x9 x10 x11 hF H locs ls hP hD hS hl
    unfold j_L_omitted_150 at hF
    refine lv_aload_n hx hb (z_d hL_omitted_1 19 rfl) rfl (lv_at hl 2 rfl) ?_
    refine lv_iload hx hb (z_d hL_omitted_1 20 rfl) (lv_at hl 9 rfl) ?_
    refine lv_iconst (v := 5) hx hb (z_d hL_omitted_1 21 rfl) (by decide) ?_
    refine z_ix hF (fun hin hF => ?_)
    refine z_let hF (fun g20 hg20 hF => ?_)
    refine z_iast (Z := Z) (L := [w_SP Z mm u x, w_Arr Z.2.1 2 ag g, w_Arr Z.2.1 41 ak k, w_Arr Z.2.1 41 al ln, w_Arr Z.2.1 41 ap pr, w_Arr Z.2.1 41 ab lb, w_Arr Z.2.1 41 am mk]) (L' := [w_SP Z mm u x, w_Arr Z.2.1 2 ag g, w_Arr Z.2.1 41 ak g20, w_Arr Z.2.1 41 al ln, w_Arr Z.2.1 41 ap pr, w_Arr Z.2.1 41 ab lb, w_Arr Z.2.1 41 am mk]) (f := k) hx hb hK hP hD hS 2 rfl hin hg20 rfl (z_d hL_omitted_1 22 rfl) (fun H locs hP hD hS => ?_)
    refine lv_aload_n hx hb (z_d hL_omitted_1 23 rfl) rfl (lv_at hl 0 rfl) ?_
    refine lv_iload hx hb (z_d hL_omitted_1 24 rfl) (lv_at hl 8 rfl) ?_
    refine z_bnd hF (fun q21 hq21 hF => ?_)
    refine z_muN (L := [w_SP Z mm u x, w_Arr Z.2.1 2 ag g, w_Arr Z.2.1 41 ak g20, w_Arr Z.2.1 41 al ln, w_Arr Z.2.1 41 ap pr, w_Arr Z.2.1 41 ab lb, w_Arr Z.2.1 41 am mk]) (L' := [w_SP Z mm u q21.2, w_Arr Z.2.1 2 ag g, w_Arr Z.2.1 41 ak g20, w_Arr Z.2.1 41 al ln, w_Arr Z.2.1 41 ap pr, w_Arr Z.2.1 41 ab lb, w_Arr Z.2.1 41 am mk]) [(0, w_SP Z mm u x, w_SP Z mm u q21.2)] (z_rL (As := [.ref mm, .int x9]) (rest := []) hx hb hml hown hts ht_L_omits (c_L_omits l hlt Z sa mm u x x9 _ hq21) rfl rfl ⟨Nat.le_of_ble_eq_true rfl, Nat.le_of_ble_eq_true rfl⟩ k_m_L_94 hK ((hT.kept hS.2.1).narrow (z_zA (zDq [(0, w_SP Z mm u x, w_SP Z mm u q21.2)] hD (List.forall_mem_cons.mpr ⟨⟨rfl, (adr_SP _ _ _ _ _)⟩, (fun _ h => absurd h List.not_mem_nil)⟩) (show List.Nodup [0] by decide)))) hN (zP_c (zP_reg hP 0 rfl) zP_n) (zDq [(0, w_SP Z mm u x, w_SP Z mm u q21.2)] hD (List.forall_mem_cons.mpr ⟨⟨rfl, (adr_SP _ _ _ _ _)⟩, (fun _ h => absurd h List.not_mem_nil)⟩) (show List.Nodup [0] by decide)) rfl hl.1 (Nat.le_of_ble_eq_true rfl) (z_d hL_omitted_1 25 rfl) ⟨Nat.le_of_ble_eq_true rfl, Nat.le_of_ble_eq_true rfl⟩) hS hP hD (List.forall_mem_cons.mpr ⟨⟨rfl, (adr_SP _ _ _ _ _)⟩, (fun _ h => absurd h List.not_mem_nil)⟩) (show List.Nodup [0] by decide) rfl rfl rfl (fun H locs hP hD hS => ?_)
    refine W.eq (g2 := F0 m 161 ls [.int q21.1]) rfl ?_
    refine lv_iload hx hb (z_d hL_omitted_1 26 rfl) (lv_at hl 10 rfl) ?_
    refine lv_icmp_ne (tgt := 170) hx hb (z_d hL_omitted_1 27 rfl) (by decide) (fun hc163 => ?_) (fun hc163 => ?_)
    · have hF := z_neg hc163 hF
      refine lv_iconst (v := 0) hx hb (z_d hL_omitted_1 30 rfl) (by decide) ?_
      have hz9 : narrow .boolean (.int 0) = .int 0 := rfl
      obtain rfl := Option.some.inj hF
      subst hQ
      subst hA
      exact z_kretZ (L := [w_SP Z mm u q21.2, w_Arr Z.2.1 2 ag g, w_Arr Z.2.1 41 ak g20, w_Arr Z.2.1 41 al ln, w_Arr Z.2.1 41 ap pr, w_Arr Z.2.1 41 ab lb, w_Arr Z.2.1 41 am mk]) (Lr := []) hx hb hr hlocks hz9 rfl hP hS (Nat.le_of_ble_eq_true rfl) (Nat.le_of_ble_eq_true rfl) (z_d hL_omitted_1 31 rfl)
    · have hF := z_pos hc163 hF
      refine lv_iconst (v := 1) hx hb (z_d hL_omitted_1 28 rfl) (by decide) ?_
      refine lv_goto (tgt := 171) hx hb (z_d hL_omitted_1 29 rfl) (by decide) ?_
      have hz9 : narrow .boolean (.int 1) = .int 1 := rfl
      obtain rfl := Option.some.inj hF
      subst hQ
      subst hA
      exact z_kretZ (L := [w_SP Z mm u q21.2, w_Arr Z.2.1 2 ag g, w_Arr Z.2.1 41 ak g20, w_Arr Z.2.1 41 al ln, w_Arr Z.2.1 41 ap pr, w_Arr Z.2.1 41 ab lb, w_Arr Z.2.1 41 am mk]) (Lr := []) hx hb hr hlocks hz9 rfl hP hS (Nat.le_of_ble_eq_true rfl) (Nat.le_of_ble_eq_true rfl) (z_d hL_omitted_1 31 rfl)
  refine lv_aload_n hx hb (z_d hL_omitted_0 0 rfl) rfl (lv_at hl 1 rfl) ?_
  refine lv_aload_n hx hb (z_d hL_omitted_0 1 rfl) rfl (lv_at hl 2 rfl) ?_
  refine z_bnd hF (fun q1 hq1 hF => ?_)
  refine z_ro_i (z_rS (As := [.ref ag, .ref ak]) (rest := []) hx hb hml hown hts vs_L_scenes (c_L_scenes l Z ag ak g k _ hq1) rfl rfl ⟨Nat.le_of_ble_eq_true rfl, Nat.le_of_ble_eq_true rfl⟩ k_m_L_90 zPro_blind (z_prec hK (zP_c (zP_reg hP 1 rfl) (zP_c (zP_reg hP 2 rfl) zP_n))) rfl hl.1 (Nat.le_of_ble_eq_true rfl) (z_d hL_omitted_0 2 rfl) ⟨Nat.le_of_ble_eq_true rfl, Nat.le_of_ble_eq_true rfl⟩) hS hP (fun H locs hP hS => ?_)
  refine lv_istore (lv' := [(8, .int q1), (0, .ref mm), (1, .ref ag), (2, .ref ak), (3, .ref al), (4, .ref ap), (5, .ref ab), (6, .ref am), (7, .int p7)]) hx hb (z_d hL_omitted_0 3 rfl) hl (by decide) rfl (fun ls hl => ?_)
  refine lv_iload hx hb (z_d hL_omitted_0 4 rfl) (lv_at hl 0 rfl) ?_
  refine lv_if_ne (tgt := 28) hx hb (z_d hL_omitted_0 5 rfl) (by decide) (fun hc9 => ?_) (fun hc9 => ?_)
  · have hF := z_neg hc9 hF
    refine lv_iload hx hb (z_d hL_omitted_0 15 rfl) (lv_at hl 8 rfl) ?_
    refine lv_iload hx hb (z_d hL_omitted_0 16 rfl) (lv_at hl 0 rfl) ?_
    refine z_dv hF (fun hne hF => ?_)
    refine lv_irem hx hb (z_d hL_omitted_0 17 rfl) hne ?_
    refine z_let hF (fun u2 hu2 hF => ?_)
    refine lv_topE hu2 ?_
    refine lv_istore (lv' := [(9, .int u2), (8, .int q1), (0, .ref mm), (1, .ref ag), (2, .ref ak), (3, .ref al), (4, .ref ap), (5, .ref ab), (6, .ref am), (7, .int p7)]) hx hb (z_d hL_omitted_0 18 rfl) hl (by decide) rfl (fun ls hl => ?_)
    refine lv_iconst (v := (-1)) hx hb (z_d hL_omitted_0 19 rfl) (by decide) ?_
    refine lv_istore (lv' := [(10, .int (-1)), (9, .int u2), (8, .int q1), (0, .ref mm), (1, .ref ag), (2, .ref ak), (3, .ref al), (4, .ref ap), (5, .ref ab), (6, .ref am), (7, .int p7)]) hx hb (z_d hL_omitted_0 20 rfl) hl (by decide) rfl (fun ls hl => ?_)
    refine lv_iload hx hb (z_d hL_omitted_0 21 rfl) (lv_at hl 1 rfl) ?_
    refine lv_istore (lv' := [(11, .int u2), (10, .int (-1)), (9, .int u2), (8, .int q1), (0, .ref mm), (1, .ref ag), (2, .ref ak), (3, .ref al), (4, .ref ap), (5, .ref ab), (6, .ref am), (7, .int p7)]) hx hb (z_d hL_omitted_0 22 rfl) hl (by decide) rfl (fun ls hl => ?_)
    refine z_bnd hF (fun q8 hq8 hF => ?_)
    refine L42 x g k ln pr lb mk u2 _ _ _ hq8 _ _ ls hP hD hS (lv_sub hl [4, 5, 6, 7, 8, 9, 10, 11, 2, 1, 0] rfl) (fun H locs ls hP hD hS hl => ?_)
    refine lv_aload hx hb (z_d hL_omitted_0 34 rfl) (lv_at hl 5 rfl) ?_
    refine lv_iload hx hb (z_d hL_omitted_0 35 rfl) (lv_at hl 9 rfl) ?_
    refine z_ix hF (fun hin hF => ?_)
    refine va_iald (D := Z.1) (f := lb) hx hb hK.1 (zP_reg hP 5 rfl) 0 0 rfl rfl hin (z_d hL_omitted_0 36 rfl) ?_
    refine z_let hF (fun u9 hu9 hF => ?_)
    refine lv_topE hu9 ?_
    refine lv_if_lt (tgt := 87) hx hb (z_d hL_omitted_0 37 rfl) (by decide) (fun hc76 => ?_) (fun hc76 => ?_)
    · have hF := z_pos hc76 hF
      exact J87 x g k ln pr lb mk u2 hF _ _ ls hP hD hS (lv_sub hl [0, 1, 2, 3, 4, 5, 6, 7, 8] rfl)
    · have hF := z_neg hc76 hF
      refine lv_aload_n hx hb (z_d hL_omitted_0 38 rfl) rfl (lv_at hl 2 rfl) ?_
      refine lv_iload hx hb (z_d hL_omitted_0 39 rfl) (lv_at hl 9 rfl) ?_
      refine z_ix hF (fun hin hF => ?_)
      refine va_iald (D := Z.1) (f := k) hx hb hK.1 (zP_reg hP 2 rfl) 0 0 rfl rfl hin (z_d hL_omitted_0 40 rfl) ?_
      refine z_let hF (fun u11 hu11 hF => ?_)
      refine lv_topE hu11 ?_
      refine lv_iconst (v := 5) hx hb (z_d hL_omitted_0 41 rfl) (by decide) ?_
      refine lv_icmp_ne (tgt := 104) hx hb (z_d hL_omitted_0 42 rfl) (by decide) (fun hc84 => ?_) (fun hc84 => ?_)
      · have hF := z_neg hc84 hF
        refine lv_iconst (v := 0) hx hb (z_d hL_omitted_0 52 rfl) (by decide) ?_
        refine lv_istore (lv' := [(11, .int 0), (0, .ref mm), (1, .ref ag), (2, .ref ak), (3, .ref al), (4, .ref ap), (5, .ref ab), (6, .ref am), (7, .int p7), (9, .int u2), (10, .int q8)]) hx hb (z_d hL_omitted_0 53 rfl) hl (by decide) rfl (fun ls hl => ?_)
        refine z_bnd hF (fun q19 hq19 hF => ?_)
        refine L107 x u2 q8 _ _ _ hq19 _ _ ls hP hD hS (lv_sub hl [1, 2, 3, 4, 5, 6, 7, 8, 9, 10, 0] rfl) (fun H locs ls hP hD hS hl => ?_)
        exact J150 x q19.1 q19.2.1 q19.2.2.1 q19.2.2.2.1 q19.2.2.2.2.1 q19.2.2.2.2.2.1 u2 q8 q19.2.2.2.2.2.2 hF _ _ ls hP hD hS (lv_sub hl [0, 1, 2, 3, 4, 5, 6, 7, 8, 9, 10] rfl)
      · have hF := z_pos hc84 hF
        exact J87 x g k ln pr lb mk u2 hF _ _ ls hP hD hS (lv_sub hl [0, 1, 2, 3, 4, 5, 6, 7, 8] rfl)
  · have hF := z_pos hc9 hF
    refine lv_aload_n hx hb (z_d hL_omitted_0 6 rfl) rfl (lv_at hl 1 rfl) ?_
    refine lv_iconst (v := 0) hx hb (z_d hL_omitted_0 7 rfl) (by decide) ?_
    refine z_bnd hF (fun q22 hq22 hF => ?_)
    refine z_muN (L := [w_SP Z mm u x, w_Arr Z.2.1 2 ag g, w_Arr Z.2.1 41 ak k, w_Arr Z.2.1 41 al ln, w_Arr Z.2.1 41 ap pr, w_Arr Z.2.1 41 ab lb, w_Arr Z.2.1 41 am mk]) (L' := [w_SP Z mm u q22.2, w_Arr Z.2.1 2 ag g, w_Arr Z.2.1 41 ak k, w_Arr Z.2.1 41 al ln, w_Arr Z.2.1 41 ap pr, w_Arr Z.2.1 41 ab lb, w_Arr Z.2.1 41 am mk]) [(0, w_SP Z mm u x, w_SP Z mm u q22.2)] (z_rL (As := [.ref mm, .int 0]) (rest := []) hx hb hml hown hts ht_L_omits (c_L_omits l hlt Z sa mm u x 0 _ hq22) rfl rfl ⟨Nat.le_of_ble_eq_true rfl, Nat.le_of_ble_eq_true rfl⟩ k_m_L_94 hK ((hT.kept hS.2.1).narrow (z_zA (zDq [(0, w_SP Z mm u x, w_SP Z mm u q22.2)] hD (List.forall_mem_cons.mpr ⟨⟨rfl, (adr_SP _ _ _ _ _)⟩, (fun _ h => absurd h List.not_mem_nil)⟩) (show List.Nodup [0] by decide)))) hN (zP_c (zP_reg hP 0 rfl) zP_n) (zDq [(0, w_SP Z mm u x, w_SP Z mm u q22.2)] hD (List.forall_mem_cons.mpr ⟨⟨rfl, (adr_SP _ _ _ _ _)⟩, (fun _ h => absurd h List.not_mem_nil)⟩) (show List.Nodup [0] by decide)) rfl hl.1 (Nat.le_of_ble_eq_true rfl) (z_d hL_omitted_0 8 rfl) ⟨Nat.le_of_ble_eq_true rfl, Nat.le_of_ble_eq_true rfl⟩) hS hP hD (List.forall_mem_cons.mpr ⟨⟨rfl, (adr_SP _ _ _ _ _)⟩, (fun _ h => absurd h List.not_mem_nil)⟩) (show List.Nodup [0] by decide) rfl rfl rfl (fun H locs hP hD hS => ?_)
    refine W.eq (g2 := F0 m 17 ls [.int q22.1]) rfl ?_
    refine lv_ldc (v := (-100001)) hx hb hown (hts _ k_i_L_48) (z_d hL_omitted_0 9 rfl) ?_
    refine lv_icmp_ne (tgt := 26) hx hb (z_d hL_omitted_0 10 rfl) (by decide) (fun hc19 => ?_) (fun hc19 => ?_)
    · have hF := z_neg hc19 hF
      refine lv_iconst (v := 0) hx hb (z_d hL_omitted_0 13 rfl) (by decide) ?_
      have hz9 : narrow .boolean (.int 0) = .int 0 := rfl
      obtain rfl := Option.some.inj hF
      subst hQ
      subst hA
      exact z_kretZ (L := [w_SP Z mm u q22.2, w_Arr Z.2.1 2 ag g, w_Arr Z.2.1 41 ak k, w_Arr Z.2.1 41 al ln, w_Arr Z.2.1 41 ap pr, w_Arr Z.2.1 41 ab lb, w_Arr Z.2.1 41 am mk]) (Lr := []) hx hb hr hlocks hz9 rfl hP hS (Nat.le_of_ble_eq_true rfl) (Nat.le_of_ble_eq_true rfl) (z_d hL_omitted_0 14 rfl)
    · have hF := z_pos hc19 hF
      refine lv_iconst (v := 1) hx hb (z_d hL_omitted_0 11 rfl) (by decide) ?_
      refine lv_goto (tgt := 27) hx hb (z_d hL_omitted_0 12 rfl) (by decide) ?_
      have hz9 : narrow .boolean (.int 1) = .int 1 := rfl
      obtain rfl := Option.some.inj hF
      subst hQ
      subst hA
      exact z_kretZ (L := [w_SP Z mm u q22.2, w_Arr Z.2.1 2 ag g, w_Arr Z.2.1 41 ak k, w_Arr Z.2.1 41 al ln, w_Arr Z.2.1 41 ap pr, w_Arr Z.2.1 41 ab lb, w_Arr Z.2.1 41 am mk]) (Lr := []) hx hb hr hlocks hz9 rfl hP hS (Nat.le_of_ble_eq_true rfl) (Nat.le_of_ble_eq_true rfl) (z_d hL_omitted_0 14 rfl)

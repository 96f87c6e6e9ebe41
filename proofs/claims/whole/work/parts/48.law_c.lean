theorem k_c_L_13 : Cond.classLink RL 13 "java/lang/IndexOutOfBoundsException" ∈ zG := zG_at 614 (by decide +kernel) (by decide +kernel)
theorem k_c_L_15 : Cond.classLink RL 15 "java/lang/IllegalArgumentException" ∈ zG := zG_at 615 (by decide +kernel) (by decide +kernel)
theorem k_c_L_17 : Cond.classLink RL 17 "java/lang/IllegalStateException" ∈ zG := zG_at 616 (by decide +kernel) (by decide +kernel)
theorem zXc_cast : ∀ q ∈ zXc, Cond.castable q.2.2 q.2.2 ∈ vx_atS RX6 q.2.1 q.2.2 zXn := by decide +kernel
theorem zTh.cast {sa : Nat → Nat} {A : Nat → Prop} {s : State} {H : Heap} {args : Array Value} (h : zTh sa A s H) {q : Nat × Nat × String} (hq : q ∈ zXc) : (Cond.castable q.2.2 q.2.2).before args s = true := vx_ot_at (State.WarmedH.refl s) rfl (zXc_ot q hq _ (zXc_cast q hq)) (h.2.1 q hq _ (zXc_cast q hq))
theorem adr_SP (Z : zZ) (mm : Nat) (u : t_SPa) (x' x : t_SP) : (w_SP Z mm u x').map (·.1) = (w_SP Z mm u x).map (·.1) := zadr_cons rfl (zadr_cons (adr_Script _ _ _ _) (zadr_cons (adr_Script _ _ _ _) (zadr_cons (adr_Scenes _ _ _ _) (zadr_cons (adr_Scenes _ _ _ _) (zadr_cons (adr_Pages _ _ _ _) (zadr_cons (adr_Pages _ _ _ _) (zadr_cons (adr_Hist _ _ _ _ _ _ _) (zadr_cons rfl rfl))))))))
theorem k_m_L_7 : Cond.methodLink RL 7 yX6_insert ∈ zG := zG_at 617 (by decide +kernel) (by decide +kernel)
theorem vt_X6_insert : zVt yX6_insert cX6_insert 5 (some .int) 4 := ⟨zG_at 618 (by decide +kernel) (by decide +kernel), zG_at 619 (by decide +kernel) (by decide +kernel), zG_at 75 (by decide +kernel) (by decide +kernel), zG_at 620 (by decide +kernel) (by decide +kernel), by decide +kernel⟩
def rm_L_insert : Room := { frames := 7, cells := 1, slots := 6, locals := 163 }
set_option maxRecDepth 100000 in
set_option maxHeartbeats 4000000 in
theorem c_L_insert (l : Launch) (hlt : l.stackTraces = false) (Z : zZ) (sa : Nat → Nat) (mm : Nat) (u : t_SPa) (o : Nat) (x : t_SP) (f : Nat → Int64) (p1 : Int32) (p2 : Int32) (p3 : Int32) (p4 : Int32) (R : (Int32 ⊕ Nat) × t_Script × t_Script × t_Scenes × t_Scenes × t_Pages × t_Hist) (hF : X6_insert x.1 x.2.1 x.2.2.1 x.2.2.2.1 x.2.2.2.2.1 x.2.2.2.2.2.1 x.2.2.2.2.2.2.1 x.2.2.2.2.2.2.2.1 x.2.2.2.2.2.2.2.2 p1 p2 p3 p4 = some R) (k : Int32) (hk : kof [(0, 1), (1, 2), (2, 3)] R.1 = some k) : zLM l yL_insert (zwL yL_insert cL_insert 7 [(0, 14, 17, 13), (0, 14, 21, 15), (0, 14, 25, 17)]) rm_L_insert Z sa [.ref mm, .int p1, .int p2, .int p3, .int p4, .ref o] (List.flatten [w_SP Z mm u x, w_ArrL Z.2.2.2 1 o f]) (List.flatten [w_SP Z mm u (x.1, R.2.1, R.2.2.1, R.2.2.2.1, R.2.2.2.2.1, R.2.2.2.2.2.1, x.2.2.2.2.2.2.1, R.2.2.2.2.2.2, x.2.2.2.2.2.2.2.2), w_ArrL Z.2.2.2 1 o (fof f R.1)]) (some (.int k)) := by
  refine zLM_of (by decide) (Nat.le_of_ble_eq_true rfl) (fun p e s m below meth c hx hb hr hml hown hts hlocks hK hT hN htab A hA Q hQ ls hl hP hD hS => ?_)
  subst hA
  have hl : lv_has ls 7 [(0, .ref mm), (1, .int p1), (2, .int p2), (3, .int p3), (4, .int p4), (5, .ref o)] := hl
  have hown : s.vm.findClass RL = some m.cls := hown
  obtain ⟨rr, R2⟩ := R
  have hk : kof [(0, 1), (1, 2), (2, 3)] rr = some k := hk
  refine lv_aload hx hb (z_d hL_insert_0 0 rfl) (lv_at hl 5 rfl) ?_
  refine lv_iconst (v := 0) hx hb (z_d hL_insert_0 1 rfl) (by decide) ?_
  refine lv_aload_n hx hb (z_d hL_insert_0 2 rfl) rfl (lv_at hl 0 rfl) ?_
  refine lv_iload_n hx hb (z_d hL_insert_0 3 rfl) rfl (lv_at hl 1 rfl) ?_
  refine lv_iload_n hx hb (z_d hL_insert_0 4 rfl) rfl (lv_at hl 2 rfl) ?_
  refine lv_iload_n hx hb (z_d hL_insert_0 5 rfl) rfl (lv_at hl 3 rfl) ?_
  refine lv_iload hx hb (z_d hL_insert_0 6 rfl) (lv_at hl 4 rfl) ?_
  refine z_xm (L := [w_SP Z mm u x, w_ArrL Z.2.2.2 1 o f]) (L' := [w_SP Z mm u (x.1, R2.1, R2.2.1, R2.2.2.1, R2.2.2.2.1, R2.2.2.2.2.1, x.2.2.2.2.2.2.1, R2.2.2.2.2.2, x.2.2.2.2.2.2.2.2), w_ArrL Z.2.2.2 1 o f]) (z_rX (As := [.int p1, .int p2, .int p3, .int p4]) (rest := [.int 0, .ref o]) hx hb hml hown hts vt_X6_insert (c_X6_insert l hlt Z sa mm u.1 u.2.1 u.2.2.1 u.2.2.2.1 u.2.2.2.2.1 u.2.2.2.2.2.1 u.2.2.2.2.2.2.1 u.2.2.2.2.2.2.2.1 u.2.2.2.2.2.2.2.2.1 u.2.2.2.2.2.2.2.2.2.1 u.2.2.2.2.2.2.2.2.2.2 x.1 x.2.1 x.2.2.1 x.2.2.2.1 x.2.2.2.2.1 x.2.2.2.2.2.1 x.2.2.2.2.2.2.1 x.2.2.2.2.2.2.2.1 x.2.2.2.2.2.2.2.2 p1 p2 p3 p4 _ hF) rfl rfl ⟨Nat.le_of_ble_eq_true rfl, Nat.le_of_ble_eq_true rfl⟩ k_m_L_7 hK (zTh.narrow hT (z_zA (zD_one hD 0 _ rfl))) (zP_reg hP 0 rfl) (zD_one hD 0 _ rfl) (z_recv (q := (RX6, TX6, 9)) (ci := 6) (q0 := 0) hK (zP_reg hP 0 rfl) rfl rfl) rfl hl.1 (Nat.le_of_ble_eq_true rfl) (z_d hL_insert_0 7 rfl) ⟨Nat.le_of_ble_eq_true rfl, Nat.le_of_ble_eq_true rfl⟩) hS hP hD 0 rfl rfl (adr_SP _ _ _ _ _) (fun E ce q9 H locs hE hP hD hS hce hcv hcl => ?_) (fun v H locs hv hP hD hS => ?_)
  · rcases rr with v | n
    · cases hE
    · rcases n with _ | _ | _ | n
      · cases hE
        obtain rfl := Option.some.inj hk
        refine vx_catch (own := RL) (name := "java/lang/IndexOutOfBoundsException") hown [] ⟨0, 14, 17, 13⟩ [⟨0, 14, 21, 15⟩, ⟨0, 14, 25, 17⟩] htab (fun z hz => nomatch hz) (by decide) (by decide) (hts _ k_c_L_13) (zTh.cast hT (q := (62, 66, "java/lang/IndexOutOfBoundsException")) (by decide)) hce hcv hcl ?_
        refine lv_astore (lv' := [(6, .ref q9), (0, .ref mm), (1, .int p1), (2, .int p2), (3, .int p3), (4, .int p4), (5, .ref o)]) hx hb (z_d hL_insert_0 11 rfl) hl (by decide) rfl (fun ls hl => ?_)
        refine lv_iconst (v := 1) hx hb (z_d hL_insert_0 12 rfl) (by decide) ?_
        subst hQ
        exact z_lret hx hb hr hlocks hP hS (Nat.le_of_ble_eq_true rfl) (Nat.le_of_ble_eq_true rfl) (z_d hL_insert_0 13 rfl)
      · cases hE
        obtain rfl := Option.some.inj hk
        refine vx_catch (own := RL) (name := "java/lang/IllegalArgumentException") hown [⟨0, 14, 17, 13⟩] ⟨0, 14, 21, 15⟩ [⟨0, 14, 25, 17⟩] htab (fun z hz => by rcases List.mem_singleton.mp hz with rfl; exact Or.inr ⟨by decide, "java/lang/IndexOutOfBoundsException", hts _ k_c_L_13, hN ("java/lang/IllegalArgumentException", "java/lang/IndexOutOfBoundsException") (by decide)⟩) (by decide) (by decide) (hts _ k_c_L_15) (zTh.cast hT (q := (80, 84, "java/lang/IllegalArgumentException")) (by decide)) hce hcv hcl ?_
        refine lv_astore (lv' := [(6, .ref q9), (0, .ref mm), (1, .int p1), (2, .int p2), (3, .int p3), (4, .int p4), (5, .ref o)]) hx hb (z_d hL_insert_0 14 rfl) hl (by decide) rfl (fun ls hl => ?_)
        refine lv_iconst (v := 2) hx hb (z_d hL_insert_0 15 rfl) (by decide) ?_
        subst hQ
        exact z_lret hx hb hr hlocks hP hS (Nat.le_of_ble_eq_true rfl) (Nat.le_of_ble_eq_true rfl) (z_d hL_insert_0 16 rfl)
      · cases hE
        obtain rfl := Option.some.inj hk
        refine vx_catch (own := RL) (name := "java/lang/IllegalStateException") hown [⟨0, 14, 17, 13⟩, ⟨0, 14, 21, 15⟩] ⟨0, 14, 25, 17⟩ [] htab (fun z hz => (List.mem_cons.mp hz).elim (fun h => by subst h; exact Or.inr ⟨by decide, "java/lang/IndexOutOfBoundsException", hts _ k_c_L_13, hN ("java/lang/IllegalStateException", "java/lang/IndexOutOfBoundsException") (by decide)⟩) (fun hz => by rcases List.mem_singleton.mp hz with rfl; exact Or.inr ⟨by decide, "java/lang/IllegalArgumentException", hts _ k_c_L_15, hN ("java/lang/IllegalStateException", "java/lang/IllegalArgumentException") (by decide)⟩)) (by decide) (by decide) (hts _ k_c_L_17) (zTh.cast hT (q := (89, 93, "java/lang/IllegalStateException")) (by decide)) hce hcv hcl ?_
        refine lv_astore (lv' := [(6, .ref q9), (0, .ref mm), (1, .int p1), (2, .int p2), (3, .int p3), (4, .int p4), (5, .ref o)]) hx hb (z_d hL_insert_0 17 rfl) hl (by decide) rfl (fun ls hl => ?_)
        refine lv_iconst (v := 3) hx hb (z_d hL_insert_0 18 rfl) (by decide) ?_
        subst hQ
        exact z_lret hx hb hr hlocks hP hS (Nat.le_of_ble_eq_true rfl) (Nat.le_of_ble_eq_true rfl) (z_d hL_insert_0 19 rfl)
      · cases hk
  · rcases rr with v | n
    · cases hv
      obtain rfl := Option.some.inj hk
      refine lv_i2l (v := v.toInt64) hx hb (z_d hL_insert_0 8 rfl) rfl ?_
      refine z_last (Z := Z) (L := [w_SP Z mm u (x.1, R2.1, R2.2.1, R2.2.2.1, R2.2.2.2.1, R2.2.2.2.2.1, x.2.2.2.2.2.2.1, R2.2.2.2.2.2, x.2.2.2.2.2.2.2.2), w_ArrL Z.2.2.2 1 o f]) (L' := [w_SP Z mm u (x.1, R2.1, R2.2.1, R2.2.2.1, R2.2.2.2.1, R2.2.2.2.2.1, x.2.2.2.2.2.2.1, R2.2.2.2.2.2, x.2.2.2.2.2.2.2.2), w_ArrL Z.2.2.2 1 o (vp_updL f 0 v.toInt64)]) (n := 1) (f := f) hx hb hK hP hD hS 1 rfl (by unfold vp_in; decide) rfl (z_d hL_insert_0 9 rfl) (fun H locs hP hD hS => ?_)
      refine lv_goto (tgt := 29) hx hb (z_d hL_insert_0 10 rfl) (by decide) ?_
      refine lv_iconst (v := 0) hx hb (z_d hL_insert_0 20 rfl) (by decide) ?_
      subst hQ
      exact z_lret hx hb hr hlocks hP hS (Nat.le_of_ble_eq_true rfl) (Nat.le_of_ble_eq_true rfl) (z_d hL_insert_0 21 rfl)
    · rcases n with _ | _ | n <;> cases hv
theorem k_m_L_19 : Cond.methodLink RL 19 yX6_remove ∈ zG := zG_at 746 (by decide +kernel) (by decide +kernel)
theorem vt_X6_remove : zVt yX6_remove cX6_remove 2 (some .int) 1 := ⟨zG_at 747 (by decide +kernel) (by decide +kernel), zG_at 748 (by decide +kernel) (by decide +kernel), zG_at 75 (by decide +kernel) (by decide +kernel), zG_at 749 (by decide +kernel) (by decide +kernel), by decide +kernel⟩
def rm_L_remove : Room := { frames := 7, cells := 1, slots := 6, locals := 160 }
set_option maxRecDepth 100000 in
set_option maxHeartbeats 4000000 in
theorem c_L_remove (l : Launch) (hlt : l.stackTraces = false) (Z : zZ) (sa : Nat → Nat) (mm : Nat) (u : t_SPa) (o : Nat) (x : t_SP) (f : Nat → Int64) (p1 : Int32) (R : (Int32 ⊕ Nat) × t_Script × t_Script × t_Scenes × t_Pages × t_Hist) (hF : X6_remove x.1 x.2.1 x.2.2.1 x.2.2.2.1 x.2.2.2.2.1 x.2.2.2.2.2.1 x.2.2.2.2.2.2.1 x.2.2.2.2.2.2.2.1 x.2.2.2.2.2.2.2.2 p1 = some R) (k : Int32) (hk : kof [(0, 1), (2, 2)] R.1 = some k) : zLM l yL_remove (zwL yL_remove cL_remove 4 [(0, 9, 12, 13), (0, 9, 15, 17)]) rm_L_remove Z sa [.ref mm, .int p1, .ref o] (List.flatten [w_SP Z mm u x, w_ArrL Z.2.2.2 1 o f]) (List.flatten [w_SP Z mm u (x.1, R.2.1, R.2.2.1, R.2.2.2.1, x.2.2.2.2.1, R.2.2.2.2.1, x.2.2.2.2.2.2.1, R.2.2.2.2.2, x.2.2.2.2.2.2.2.2), w_ArrL Z.2.2.2 1 o (fof f R.1)]) (some (.int k)) := by
  refine zLM_of (by decide) (Nat.le_of_ble_eq_true rfl) (fun p e s m below meth c hx hb hr hml hown hts hlocks hK hT hN htab A hA Q hQ ls hl hP hD hS => ?_)
  subst hA
  have hl : lv_has ls 4 [(0, .ref mm), (1, .int p1), (2, .ref o)] := hl
  have hown : s.vm.findClass RL = some m.cls := hown
  obtain ⟨rr, R2⟩ := R
  have hk : kof [(0, 1), (2, 2)] rr = some k := hk
  refine lv_aload_n hx hb (z_d hL_remove_0 0 rfl) rfl (lv_at hl 2 rfl) ?_
  refine lv_iconst (v := 0) hx hb (z_d hL_remove_0 1 rfl) (by decide) ?_
  refine lv_aload_n hx hb (z_d hL_remove_0 2 rfl) rfl (lv_at hl 0 rfl) ?_
  refine lv_iload_n hx hb (z_d hL_remove_0 3 rfl) rfl (lv_at hl 1 rfl) ?_
  refine z_xm (L := [w_SP Z mm u x, w_ArrL Z.2.2.2 1 o f]) (L' := [w_SP Z mm u (x.1, R2.1, R2.2.1, R2.2.2.1, x.2.2.2.2.1, R2.2.2.2.1, x.2.2.2.2.2.2.1, R2.2.2.2.2, x.2.2.2.2.2.2.2.2), w_ArrL Z.2.2.2 1 o f]) (z_rX (As := [.int p1]) (rest := [.int 0, .ref o]) hx hb hml hown hts vt_X6_remove (c_X6_remove l hlt Z sa mm u.1 u.2.1 u.2.2.1 u.2.2.2.1 u.2.2.2.2.1 u.2.2.2.2.2.1 u.2.2.2.2.2.2.1 u.2.2.2.2.2.2.2.1 u.2.2.2.2.2.2.2.2.1 u.2.2.2.2.2.2.2.2.2.1 u.2.2.2.2.2.2.2.2.2.2 x.1 x.2.1 x.2.2.1 x.2.2.2.1 x.2.2.2.2.1 x.2.2.2.2.2.1 x.2.2.2.2.2.2.1 x.2.2.2.2.2.2.2.1 x.2.2.2.2.2.2.2.2 p1 _ hF) rfl rfl ⟨Nat.le_of_ble_eq_true rfl, Nat.le_of_ble_eq_true rfl⟩ k_m_L_19 hK (zTh.narrow hT (z_zA (zD_one hD 0 _ rfl))) (zP_reg hP 0 rfl) (zD_one hD 0 _ rfl) (z_recv (q := (RX6, TX6, 9)) (ci := 6) (q0 := 0) hK (zP_reg hP 0 rfl) rfl rfl) rfl hl.1 (Nat.le_of_ble_eq_true rfl) (z_d hL_remove_0 4 rfl) ⟨Nat.le_of_ble_eq_true rfl, Nat.le_of_ble_eq_true rfl⟩) hS hP hD 0 rfl rfl (adr_SP _ _ _ _ _) (fun E ce q9 H locs hE hP hD hS hce hcv hcl => ?_) (fun v H locs hv hP hD hS => ?_)
  · rcases rr with v | n
    · cases hE
    · rcases n with _ | _ | _ | n
      · cases hE
        obtain rfl := Option.some.inj hk
        refine vx_catch (own := RL) (name := "java/lang/IndexOutOfBoundsException") hown [] ⟨0, 9, 12, 13⟩ [⟨0, 9, 15, 17⟩] htab (fun z hz => nomatch hz) (by decide) (by decide) (hts _ k_c_L_13) (zTh.cast hT (q := (62, 66, "java/lang/IndexOutOfBoundsException")) (by decide)) hce hcv hcl ?_
        refine lv_astore_n (lv' := [(3, .ref q9), (0, .ref mm), (1, .int p1), (2, .ref o)]) hx hb (z_d hL_remove_0 8 rfl) rfl hl (by decide) rfl (fun ls hl => ?_)
        refine lv_iconst (v := 1) hx hb (z_d hL_remove_0 9 rfl) (by decide) ?_
        subst hQ
        exact z_lret hx hb hr hlocks hP hS (Nat.le_of_ble_eq_true rfl) (Nat.le_of_ble_eq_true rfl) (z_d hL_remove_0 10 rfl)
      · cases hk
      · cases hE
        obtain rfl := Option.some.inj hk
        refine vx_catch (own := RL) (name := "java/lang/IllegalStateException") hown [⟨0, 9, 12, 13⟩] ⟨0, 9, 15, 17⟩ [] htab (fun z hz => by rcases List.mem_singleton.mp hz with rfl; exact Or.inr ⟨by decide, "java/lang/IndexOutOfBoundsException", hts _ k_c_L_13, hN ("java/lang/IllegalStateException", "java/lang/IndexOutOfBoundsException") (by decide)⟩) (by decide) (by decide) (hts _ k_c_L_17) (zTh.cast hT (q := (89, 93, "java/lang/IllegalStateException")) (by decide)) hce hcv hcl ?_
        refine lv_astore_n (lv' := [(3, .ref q9), (0, .ref mm), (1, .int p1), (2, .ref o)]) hx hb (z_d hL_remove_0 11 rfl) rfl hl (by decide) rfl (fun ls hl => ?_)
        refine lv_iconst (v := 2) hx hb (z_d hL_remove_0 12 rfl) (by decide) ?_
        subst hQ
        exact z_lret hx hb hr hlocks hP hS (Nat.le_of_ble_eq_true rfl) (Nat.le_of_ble_eq_true rfl) (z_d hL_remove_0 13 rfl)
      · cases hk
  · rcases rr with v | n
    · cases hv
      obtain rfl := Option.some.inj hk
      refine lv_i2l (v := v.toInt64) hx hb (z_d hL_remove_0 5 rfl) rfl ?_
      refine z_last (Z := Z) (L := [w_SP Z mm u (x.1, R2.1, R2.2.1, R2.2.2.1, x.2.2.2.2.1, R2.2.2.2.1, x.2.2.2.2.2.2.1, R2.2.2.2.2, x.2.2.2.2.2.2.2.2), w_ArrL Z.2.2.2 1 o f]) (L' := [w_SP Z mm u (x.1, R2.1, R2.2.1, R2.2.2.1, x.2.2.2.2.1, R2.2.2.2.1, x.2.2.2.2.2.2.1, R2.2.2.2.2, x.2.2.2.2.2.2.2.2), w_ArrL Z.2.2.2 1 o (vp_updL f 0 v.toInt64)]) (n := 1) (f := f) hx hb hK hP hD hS 1 rfl (by unfold vp_in; decide) rfl (z_d hL_remove_0 6 rfl) (fun H locs hP hD hS => ?_)
      refine lv_goto (tgt := 18) hx hb (z_d hL_remove_0 7 rfl) (by decide) ?_
      refine lv_iconst (v := 0) hx hb (z_d hL_remove_0 14 rfl) (by decide) ?_
      subst hQ
      exact z_lret hx hb hr hlocks hP hS (Nat.le_of_ble_eq_true rfl) (Nat.le_of_ble_eq_true rfl) (z_d hL_remove_0 15 rfl)
    · rcases n with _ | _ | n <;> cases hv
theorem k_m_L_23 : Cond.methodLink RL 23 yX6_setLength ∈ zG := zG_at 765 (by decide +kernel) (by decide +kernel)
theorem vt_X6_setLength : zVt yX6_setLength cX6_setLength 3 (some .int) 2 := ⟨zG_at 766 (by decide +kernel) (by decide +kernel), zG_at 767 (by decide +kernel) (by decide +kernel), zG_at 75 (by decide +kernel) (by decide +kernel), zG_at 768 (by decide +kernel) (by decide +kernel), by decide +kernel⟩
def rm_L_setLength : Room := { frames := 7, cells := 1, slots := 6, locals := 161 }
set_option maxRecDepth 100000 in
set_option maxHeartbeats 4000000 in
theorem c_L_setLength (l : Launch) (hlt : l.stackTraces = false) (Z : zZ) (sa : Nat → Nat) (mm : Nat) (u : t_SPa) (o : Nat) (x : t_SP) (f : Nat → Int64) (p1 : Int32) (p2 : Int32) (R : (Int32 ⊕ Nat) × t_Script × t_Script × t_Scenes × t_Pages × t_Hist) (hF : X6_setLength x.1 x.2.1 x.2.2.1 x.2.2.2.1 x.2.2.2.2.1 x.2.2.2.2.2.1 x.2.2.2.2.2.2.1 x.2.2.2.2.2.2.2.1 x.2.2.2.2.2.2.2.2 p1 p2 = some R) (k : Int32) (hk : kof [(0, 1), (1, 2)] R.1 = some k) : zLM l yL_setLength (zwL yL_setLength cL_setLength 5 [(0, 10, 13, 13), (0, 10, 17, 15)]) rm_L_setLength Z sa [.ref mm, .int p1, .int p2, .ref o] (List.flatten [w_SP Z mm u x, w_ArrL Z.2.2.2 1 o f]) (List.flatten [w_SP Z mm u (x.1, R.2.1, R.2.2.1, R.2.2.2.1, x.2.2.2.2.1, R.2.2.2.2.1, x.2.2.2.2.2.2.1, R.2.2.2.2.2, x.2.2.2.2.2.2.2.2), w_ArrL Z.2.2.2 1 o (fof f R.1)]) (some (.int k)) := by
  refine zLM_of (by decide) (Nat.le_of_ble_eq_true rfl) (fun p e s m below meth c hx hb hr hml hown hts hlocks hK hT hN htab A hA Q hQ ls hl hP hD hS => ?_)
  subst hA
  have hl : lv_has ls 5 [(0, .ref mm), (1, .int p1), (2, .int p2), (3, .ref o)] := hl
  have hown : s.vm.findClass RL = some m.cls := hown
  obtain ⟨rr, R2⟩ := R
  have hk : kof [(0, 1), (1, 2)] rr = some k := hk
  refine lv_aload_n hx hb (z_d hL_setLength_0 0 rfl) rfl (lv_at hl 3 rfl) ?_
  refine lv_iconst (v := 0) hx hb (z_d hL_setLength_0 1 rfl) (by decide) ?_
  refine lv_aload_n hx hb (z_d hL_setLength_0 2 rfl) rfl (lv_at hl 0 rfl) ?_
  refine lv_iload_n hx hb (z_d hL_setLength_0 3 rfl) rfl (lv_at hl 1 rfl) ?_
  refine lv_iload_n hx hb (z_d hL_setLength_0 4 rfl) rfl (lv_at hl 2 rfl) ?_
  refine z_xm (L := [w_SP Z mm u x, w_ArrL Z.2.2.2 1 o f]) (L' := [w_SP Z mm u (x.1, R2.1, R2.2.1, R2.2.2.1, x.2.2.2.2.1, R2.2.2.2.1, x.2.2.2.2.2.2.1, R2.2.2.2.2, x.2.2.2.2.2.2.2.2), w_ArrL Z.2.2.2 1 o f]) (z_rX (As := [.int p1, .int p2]) (rest := [.int 0, .ref o]) hx hb hml hown hts vt_X6_setLength (c_X6_setLength l hlt Z sa mm u.1 u.2.1 u.2.2.1 u.2.2.2.1 u.2.2.2.2.1 u.2.2.2.2.2.1 u.2.2.2.2.2.2.1 u.2.2.2.2.2.2.2.1 u.2.2.2.2.2.2.2.2.1 u.2.2.2.2.2.2.2.2.2.1 u.2.2.2.2.2.2.2.2.2.2 x.1 x.2.1 x.2.2.1 x.2.2.2.1 x.2.2.2.2.1 x.2.2.2.2.2.1 x.2.2.2.2.2.2.1 x.2.2.2.2.2.2.2.1 x.2.2.2.2.2.2.2.2 p1 p2 _ hF) rfl rfl ⟨Nat.le_of_ble_eq_true rfl, Nat.le_of_ble_eq_true rfl⟩ k_m_L_23 hK (zTh.narrow hT (z_zA (zD_one hD 0 _ rfl))) (zP_reg hP 0 rfl) (zD_one hD 0 _ rfl) (z_recv (q := (RX6, TX6, 9)) (ci := 6) (q0 := 0) hK (zP_reg hP 0 rfl) rfl rfl) rfl hl.1 (Nat.le_of_ble_eq_true rfl) (z_d hL_setLength_0 5 rfl) ⟨Nat.le_of_ble_eq_true rfl, Nat.le_of_ble_eq_true rfl⟩) hS hP hD 0 rfl rfl (adr_SP _ _ _ _ _) (fun E ce q9 H locs hE hP hD hS hce hcv hcl => ?_) (fun v H locs hv hP hD hS => ?_)
  · rcases rr with v | n
    · cases hE
    · rcases n with _ | _ | _ | n
      · cases hE
        obtain rfl := Option.some.inj hk
        refine vx_catch (own := RL) (name := "java/lang/IndexOutOfBoundsException") hown [] ⟨0, 10, 13, 13⟩ [⟨0, 10, 17, 15⟩] htab (fun z hz => nomatch hz) (by decide) (by decide) (hts _ k_c_L_13) (zTh.cast hT (q := (62, 66, "java/lang/IndexOutOfBoundsException")) (by decide)) hce hcv hcl ?_
        refine lv_astore (lv' := [(4, .ref q9), (0, .ref mm), (1, .int p1), (2, .int p2), (3, .ref o)]) hx hb (z_d hL_setLength_0 9 rfl) hl (by decide) rfl (fun ls hl => ?_)
        refine lv_iconst (v := 1) hx hb (z_d hL_setLength_0 10 rfl) (by decide) ?_
        subst hQ
        exact z_lret hx hb hr hlocks hP hS (Nat.le_of_ble_eq_true rfl) (Nat.le_of_ble_eq_true rfl) (z_d hL_setLength_0 11 rfl)
      · cases hE
        obtain rfl := Option.some.inj hk
        refine vx_catch (own := RL) (name := "java/lang/IllegalArgumentException") hown [⟨0, 10, 13, 13⟩] ⟨0, 10, 17, 15⟩ [] htab (fun z hz => by rcases List.mem_singleton.mp hz with rfl; exact Or.inr ⟨by decide, "java/lang/IndexOutOfBoundsException", hts _ k_c_L_13, hN ("java/lang/IllegalArgumentException", "java/lang/IndexOutOfBoundsException") (by decide)⟩) (by decide) (by decide) (hts _ k_c_L_15) (zTh.cast hT (q := (80, 84, "java/lang/IllegalArgumentException")) (by decide)) hce hcv hcl ?_
        refine lv_astore (lv' := [(4, .ref q9), (0, .ref mm), (1, .int p1), (2, .int p2), (3, .ref o)]) hx hb (z_d hL_setLength_0 12 rfl) hl (by decide) rfl (fun ls hl => ?_)
        refine lv_iconst (v := 2) hx hb (z_d hL_setLength_0 13 rfl) (by decide) ?_
        subst hQ
        exact z_lret hx hb hr hlocks hP hS (Nat.le_of_ble_eq_true rfl) (Nat.le_of_ble_eq_true rfl) (z_d hL_setLength_0 14 rfl)
      · cases hk
      · cases hk
  · rcases rr with v | n
    · cases hv
      obtain rfl := Option.some.inj hk
      refine lv_i2l (v := v.toInt64) hx hb (z_d hL_setLength_0 6 rfl) rfl ?_
      refine z_last (Z := Z) (L := [w_SP Z mm u (x.1, R2.1, R2.2.1, R2.2.2.1, x.2.2.2.2.1, R2.2.2.2.1, x.2.2.2.2.2.2.1, R2.2.2.2.2, x.2.2.2.2.2.2.2.2), w_ArrL Z.2.2.2 1 o f]) (L' := [w_SP Z mm u (x.1, R2.1, R2.2.1, R2.2.2.1, x.2.2.2.2.1, R2.2.2.2.1, x.2.2.2.2.2.2.1, R2.2.2.2.2, x.2.2.2.2.2.2.2.2), w_ArrL Z.2.2.2 1 o (vp_updL f 0 v.toInt64)]) (n := 1) (f := f) hx hb hK hP hD hS 1 rfl (by unfold vp_in; decide) rfl (z_d hL_setLength_0 7 rfl) (fun H locs hP hD hS => ?_)
      refine lv_goto (tgt := 21) hx hb (z_d hL_setLength_0 8 rfl) (by decide) ?_
      refine lv_iconst (v := 0) hx hb (z_d hL_setLength_0 15 rfl) (by decide) ?_
      subst hQ
      exact z_lret hx hb hr hlocks hP hS (Nat.le_of_ble_eq_true rfl) (Nat.le_of_ble_eq_true rfl) (z_d hL_setLength_0 16 rfl)
    · rcases n with _ | _ | n <;> cases hv
theorem k_m_L_27 : Cond.methodLink RL 27 yX6_setPage ∈ zG := zG_at 773 (by decide +kernel) (by decide +kernel)
theorem vt_X6_setPage : zVt yX6_setPage cX6_setPage 3 (some .int) 1 := ⟨zG_at 774 (by decide +kernel) (by decide +kernel), zG_at 775 (by decide +kernel) (by decide +kernel), zG_at 75 (by decide +kernel) (by decide +kernel), zG_at 776 (by decide +kernel) (by decide +kernel), by decide +kernel⟩
def rm_L_setPage : Room := { frames := 7, cells := 1, slots := 6, locals := 161 }
set_option maxRecDepth 100000 in
set_option maxHeartbeats 4000000 in
theorem c_L_setPage (l : Launch) (hlt : l.stackTraces = false) (Z : zZ) (sa : Nat → Nat) (mm : Nat) (u : t_SPa) (o : Nat) (x : t_SP) (f : Nat → Int64) (p1 : Int32) (R : (Int32 ⊕ Nat) × t_Script × t_Script × t_Scenes × t_Pages × t_Hist) (hF : X6_setPage x.1 x.2.1 x.2.2.1 x.2.2.2.1 x.2.2.2.2.1 x.2.2.2.2.2.1 x.2.2.2.2.2.2.1 x.2.2.2.2.2.2.2.1 x.2.2.2.2.2.2.2.2 p1 = some R) (k : Int32) (hk : kof [(1, 1)] R.1 = some k) : zLM l yL_setPage (zwL yL_setPage cL_setPage 4 [(0, 9, 12, 15)]) rm_L_setPage Z sa [.ref mm, .int p1, .ref o] (List.flatten [w_SP Z mm u x, w_ArrL Z.2.2.2 1 o f]) (List.flatten [w_SP Z mm u (x.1, R.2.1, R.2.2.1, R.2.2.2.1, x.2.2.2.2.1, R.2.2.2.2.1, x.2.2.2.2.2.2.1, R.2.2.2.2.2, x.2.2.2.2.2.2.2.2), w_ArrL Z.2.2.2 1 o (fof f R.1)]) (some (.int k)) := by
  refine zLM_of (by decide) (Nat.le_of_ble_eq_true rfl) (fun p e s m below meth c hx hb hr hml hown hts hlocks hK hT hN htab A hA Q hQ ls hl hP hD hS => ?_)
  subst hA
  have hl : lv_has ls 4 [(0, .ref mm), (1, .int p1), (2, .ref o)] := hl
  have hown : s.vm.findClass RL = some m.cls := hown
  obtain ⟨rr, R2⟩ := R
  have hk : kof [(1, 1)] rr = some k := hk
  refine lv_aload_n hx hb (z_d hL_setPage_0 0 rfl) rfl (lv_at hl 2 rfl) ?_
  refine lv_iconst (v := 0) hx hb (z_d hL_setPage_0 1 rfl) (by decide) ?_
  refine lv_aload_n hx hb (z_d hL_setPage_0 2 rfl) rfl (lv_at hl 0 rfl) ?_
  refine lv_iload_n hx hb (z_d hL_setPage_0 3 rfl) rfl (lv_at hl 1 rfl) ?_
  refine z_xm (L := [w_SP Z mm u x, w_ArrL Z.2.2.2 1 o f]) (L' := [w_SP Z mm u (x.1, R2.1, R2.2.1, R2.2.2.1, x.2.2.2.2.1, R2.2.2.2.1, x.2.2.2.2.2.2.1, R2.2.2.2.2, x.2.2.2.2.2.2.2.2), w_ArrL Z.2.2.2 1 o f]) (z_rX (As := [.int p1]) (rest := [.int 0, .ref o]) hx hb hml hown hts vt_X6_setPage (c_X6_setPage l hlt Z sa mm u.1 u.2.1 u.2.2.1 u.2.2.2.1 u.2.2.2.2.1 u.2.2.2.2.2.1 u.2.2.2.2.2.2.1 u.2.2.2.2.2.2.2.1 u.2.2.2.2.2.2.2.2.1 u.2.2.2.2.2.2.2.2.2.1 u.2.2.2.2.2.2.2.2.2.2 x.1 x.2.1 x.2.2.1 x.2.2.2.1 x.2.2.2.2.1 x.2.2.2.2.2.1 x.2.2.2.2.2.2.1 x.2.2.2.2.2.2.2.1 x.2.2.2.2.2.2.2.2 p1 _ hF) rfl rfl ⟨Nat.le_of_ble_eq_true rfl, Nat.le_of_ble_eq_true rfl⟩ k_m_L_27 hK (zTh.narrow hT (z_zA (zD_one hD 0 _ rfl))) (zP_reg hP 0 rfl) (zD_one hD 0 _ rfl) (z_recv (q := (RX6, TX6, 9)) (ci := 6) (q0 := 0) hK (zP_reg hP 0 rfl) rfl rfl) rfl hl.1 (Nat.le_of_ble_eq_true rfl) (z_d hL_setPage_0 4 rfl) ⟨Nat.le_of_ble_eq_true rfl, Nat.le_of_ble_eq_true rfl⟩) hS hP hD 0 rfl rfl (adr_SP _ _ _ _ _) (fun E ce q9 H locs hE hP hD hS hce hcv hcl => ?_) (fun v H locs hv hP hD hS => ?_)
  · rcases rr with v | n
    · cases hE
    · rcases n with _ | _ | _ | n
      · cases hk
      · cases hE
        obtain rfl := Option.some.inj hk
        refine vx_catch (own := RL) (name := "java/lang/IllegalArgumentException") hown [] ⟨0, 9, 12, 15⟩ [] htab (fun z hz => nomatch hz) (by decide) (by decide) (hts _ k_c_L_15) (zTh.cast hT (q := (80, 84, "java/lang/IllegalArgumentException")) (by decide)) hce hcv hcl ?_
        refine lv_astore_n (lv' := [(3, .ref q9), (0, .ref mm), (1, .int p1), (2, .ref o)]) hx hb (z_d hL_setPage_0 8 rfl) rfl hl (by decide) rfl (fun ls hl => ?_)
        refine lv_iconst (v := 1) hx hb (z_d hL_setPage_0 9 rfl) (by decide) ?_
        subst hQ
        exact z_lret hx hb hr hlocks hP hS (Nat.le_of_ble_eq_true rfl) (Nat.le_of_ble_eq_true rfl) (z_d hL_setPage_0 10 rfl)
      · cases hk
      · cases hk
  · rcases rr with v | n
    · cases hv
      obtain rfl := Option.some.inj hk
      refine lv_i2l (v := v.toInt64) hx hb (z_d hL_setPage_0 5 rfl) rfl ?_
      refine z_last (Z := Z) (L := [w_SP Z mm u (x.1, R2.1, R2.2.1, R2.2.2.1, x.2.2.2.2.1, R2.2.2.2.1, x.2.2.2.2.2.2.1, R2.2.2.2.2, x.2.2.2.2.2.2.2.2), w_ArrL Z.2.2.2 1 o f]) (L' := [w_SP Z mm u (x.1, R2.1, R2.2.1, R2.2.2.1, x.2.2.2.2.1, R2.2.2.2.1, x.2.2.2.2.2.2.1, R2.2.2.2.2, x.2.2.2.2.2.2.2.2), w_ArrL Z.2.2.2 1 o (vp_updL f 0 v.toInt64)]) (n := 1) (f := f) hx hb hK hP hD hS 1 rfl (by unfold vp_in; decide) rfl (z_d hL_setPage_0 6 rfl) (fun H locs hP hD hS => ?_)
      refine lv_goto (tgt := 15) hx hb (z_d hL_setPage_0 7 rfl) (by decide) ?_
      refine lv_iconst (v := 0) hx hb (z_d hL_setPage_0 11 rfl) (by decide) ?_
      subst hQ
      exact z_lret hx hb hr hlocks hP hS (Nat.le_of_ble_eq_true rfl) (Nat.le_of_ble_eq_true rfl) (z_d hL_setPage_0 12 rfl)
    · rcases n with _ | _ | n <;> cases hv
theorem k_m_L_30 : Cond.methodLink RL 30 yX6_omit ∈ zG := zG_at 784 (by decide +kernel) (by decide +kernel)
theorem vt_X6_omit : zVt yX6_omit cX6_omit 5 (some .int) 1 := ⟨zG_at 785 (by decide +kernel) (by decide +kernel), zG_at 786 (by decide +kernel) (by decide +kernel), zG_at 75 (by decide +kernel) (by decide +kernel), zG_at 787 (by decide +kernel) (by decide +kernel), by decide +kernel⟩
def rm_L_omit : Room := { frames := 7, cells := 1, slots := 6, locals := 163 }
set_option maxRecDepth 100000 in
set_option maxHeartbeats 4000000 in
theorem c_L_omit (l : Launch) (hlt : l.stackTraces = false) (Z : zZ) (sa : Nat → Nat) (mm : Nat) (u : t_SPa) (o : Nat) (x : t_SP) (f : Nat → Int64) (p1 : Int32) (R : (Int32 ⊕ Nat) × t_Script × t_Script × t_Scenes × t_Pages × t_Hist) (hF : X6_omit x.1 x.2.1 x.2.2.1 x.2.2.2.1 x.2.2.2.2.1 x.2.2.2.2.2.1 x.2.2.2.2.2.2.1 x.2.2.2.2.2.2.2.1 x.2.2.2.2.2.2.2.2 p1 = some R) (k : Int32) (hk : kof [(0, 1), (2, 2)] R.1 = some k) : zLM l yL_omit (zwL yL_omit cL_omit 4 [(0, 9, 12, 13), (0, 9, 15, 17)]) rm_L_omit Z sa [.ref mm, .int p1, .ref o] (List.flatten [w_SP Z mm u x, w_ArrL Z.2.2.2 1 o f]) (List.flatten [w_SP Z mm u (x.1, R.2.1, R.2.2.1, R.2.2.2.1, x.2.2.2.2.1, R.2.2.2.2.1, x.2.2.2.2.2.2.1, R.2.2.2.2.2, x.2.2.2.2.2.2.2.2), w_ArrL Z.2.2.2 1 o (fof f R.1)]) (some (.int k)) := by
  refine zLM_of (by decide) (Nat.le_of_ble_eq_true rfl) (fun p e s m below meth c hx hb hr hml hown hts hlocks hK hT hN htab A hA Q hQ ls hl hP hD hS => ?_)
  subst hA
  have hl : lv_has ls 4 [(0, .ref mm), (1, .int p1), (2, .ref o)] := hl
  have hown : s.vm.findClass RL = some m.cls := hown
  obtain ⟨rr, R2⟩ := R
  have hk : kof [(0, 1), (2, 2)] rr = some k := hk
  refine lv_aload_n hx hb (z_d hL_omit_0 0 rfl) rfl (lv_at hl 2 rfl) ?_
  refine lv_iconst (v := 0) hx hb (z_d hL_omit_0 1 rfl) (by decide) ?_
  refine lv_aload_n hx hb (z_d hL_omit_0 2 rfl) rfl (lv_at hl 0 rfl) ?_
  refine lv_iload_n hx hb (z_d hL_omit_0 3 rfl) rfl (lv_at hl 1 rfl) ?_
  refine z_xm (L := [w_SP Z mm u x, w_ArrL Z.2.2.2 1 o f]) (L' := [w_SP Z mm u (x.1, R2.1, R2.2.1, R2.2.2.1, x.2.2.2.2.1, R2.2.2.2.1, x.2.2.2.2.2.2.1, R2.2.2.2.2, x.2.2.2.2.2.2.2.2), w_ArrL Z.2.2.2 1 o f]) (z_rX (As := [.int p1]) (rest := [.int 0, .ref o]) hx hb hml hown hts vt_X6_omit (c_X6_omit l hlt Z sa mm u.1 u.2.1 u.2.2.1 u.2.2.2.1 u.2.2.2.2.1 u.2.2.2.2.2.1 u.2.2.2.2.2.2.1 u.2.2.2.2.2.2.2.1 u.2.2.2.2.2.2.2.2.1 u.2.2.2.2.2.2.2.2.2.1 u.2.2.2.2.2.2.2.2.2.2 x.1 x.2.1 x.2.2.1 x.2.2.2.1 x.2.2.2.2.1 x.2.2.2.2.2.1 x.2.2.2.2.2.2.1 x.2.2.2.2.2.2.2.1 x.2.2.2.2.2.2.2.2 p1 _ hF) rfl rfl ⟨Nat.le_of_ble_eq_true rfl, Nat.le_of_ble_eq_true rfl⟩ k_m_L_30 hK (zTh.narrow hT (z_zA (zD_one hD 0 _ rfl))) (zP_reg hP 0 rfl) (zD_one hD 0 _ rfl) (z_recv (q := (RX6, TX6, 9)) (ci := 6) (q0 := 0) hK (zP_reg hP 0 rfl) rfl rfl) rfl hl.1 (Nat.le_of_ble_eq_true rfl) (z_d hL_omit_0 4 rfl) ⟨Nat.le_of_ble_eq_true rfl, Nat.le_of_ble_eq_true rfl⟩) hS hP hD 0 rfl rfl (adr_SP _ _ _ _ _) (fun E ce q9 H locs hE hP hD hS hce hcv hcl => ?_) (fun v H locs hv hP hD hS => ?_)
  · rcases rr with v | n
    · cases hE
    · rcases n with _ | _ | _ | n
      · cases hE
        obtain rfl := Option.some.inj hk
        refine vx_catch (own := RL) (name := "java/lang/IndexOutOfBoundsException") hown [] ⟨0, 9, 12, 13⟩ [⟨0, 9, 15, 17⟩] htab (fun z hz => nomatch hz) (by decide) (by decide) (hts _ k_c_L_13) (zTh.cast hT (q := (62, 66, "java/lang/IndexOutOfBoundsException")) (by decide)) hce hcv hcl ?_
        refine lv_astore_n (lv' := [(3, .ref q9), (0, .ref mm), (1, .int p1), (2, .ref o)]) hx hb (z_d hL_omit_0 8 rfl) rfl hl (by decide) rfl (fun ls hl => ?_)
        refine lv_iconst (v := 1) hx hb (z_d hL_omit_0 9 rfl) (by decide) ?_
        subst hQ
        exact z_lret hx hb hr hlocks hP hS (Nat.le_of_ble_eq_true rfl) (Nat.le_of_ble_eq_true rfl) (z_d hL_omit_0 10 rfl)
      · cases hk
      · cases hE
        obtain rfl := Option.some.inj hk
        refine vx_catch (own := RL) (name := "java/lang/IllegalStateException") hown [⟨0, 9, 12, 13⟩] ⟨0, 9, 15, 17⟩ [] htab (fun z hz => by rcases List.mem_singleton.mp hz with rfl; exact Or.inr ⟨by decide, "java/lang/IndexOutOfBoundsException", hts _ k_c_L_13, hN ("java/lang/IllegalStateException", "java/lang/IndexOutOfBoundsException") (by decide)⟩) (by decide) (by decide) (hts _ k_c_L_17) (zTh.cast hT (q := (89, 93, "java/lang/IllegalStateException")) (by decide)) hce hcv hcl ?_
        refine lv_astore_n (lv' := [(3, .ref q9), (0, .ref mm), (1, .int p1), (2, .ref o)]) hx hb (z_d hL_omit_0 11 rfl) rfl hl (by decide) rfl (fun ls hl => ?_)
        refine lv_iconst (v := 2) hx hb (z_d hL_omit_0 12 rfl) (by decide) ?_
        subst hQ
        exact z_lret hx hb hr hlocks hP hS (Nat.le_of_ble_eq_true rfl) (Nat.le_of_ble_eq_true rfl) (z_d hL_omit_0 13 rfl)
      · cases hk
  · rcases rr with v | n
    · cases hv
      obtain rfl := Option.some.inj hk
      refine lv_i2l (v := v.toInt64) hx hb (z_d hL_omit_0 5 rfl) rfl ?_
      refine z_last (Z := Z) (L := [w_SP Z mm u (x.1, R2.1, R2.2.1, R2.2.2.1, x.2.2.2.2.1, R2.2.2.2.1, x.2.2.2.2.2.2.1, R2.2.2.2.2, x.2.2.2.2.2.2.2.2), w_ArrL Z.2.2.2 1 o f]) (L' := [w_SP Z mm u (x.1, R2.1, R2.2.1, R2.2.2.1, x.2.2.2.2.1, R2.2.2.2.1, x.2.2.2.2.2.2.1, R2.2.2.2.2, x.2.2.2.2.2.2.2.2), w_ArrL Z.2.2.2 1 o (vp_updL f 0 v.toInt64)]) (n := 1) (f := f) hx hb hK hP hD hS 1 rfl (by unfold vp_in; decide) rfl (z_d hL_omit_0 6 rfl) (fun H locs hP hD hS => ?_)
      refine lv_goto (tgt := 18) hx hb (z_d hL_omit_0 7 rfl) (by decide) ?_
      refine lv_iconst (v := 0) hx hb (z_d hL_omit_0 14 rfl) (by decide) ?_
      subst hQ
      exact z_lret hx hb hr hlocks hP hS (Nat.le_of_ble_eq_true rfl) (Nat.le_of_ble_eq_true rfl) (z_d hL_omit_0 15 rfl)
    · rcases n with _ | _ | n <;> cases hv
theorem k_m_L_33 : Cond.methodLink RL 33 yX6_value ∈ zG := zG_at 802 (by decide +kernel) (by decide +kernel)
theorem vt_X6_value : zVt yX6_value cX6_value 2 (some .int) 1 := ⟨zG_at 803 (by decide +kernel) (by decide +kernel), zG_at 804 (by decide +kernel) (by decide +kernel), zG_at 75 (by decide +kernel) (by decide +kernel), zG_at 805 (by decide +kernel) (by decide +kernel), by decide +kernel⟩
def rm_L_value : Room := { frames := 7, cells := 1, slots := 6, locals := 103 }
set_option maxRecDepth 100000 in
set_option maxHeartbeats 4000000 in
theorem c_L_value (l : Launch) (hlt : l.stackTraces = false) (Z : zZ) (sa : Nat → Nat) (mm : Nat) (u : t_SPa) (o : Nat) (x : t_SP) (f : Nat → Int64) (p1 : Int32) (R : (Int32 ⊕ Nat)) (hF : X6_value x.1 x.2.1 x.2.2.1 x.2.2.2.1 x.2.2.2.2.1 x.2.2.2.2.2.1 x.2.2.2.2.2.2.1 x.2.2.2.2.2.2.2.1 x.2.2.2.2.2.2.2.2 p1 = some R) (k : Int32) (hk : kof [(1, 1)] R = some k) : zLM l yL_value (zwL yL_value cL_value 4 [(0, 9, 12, 15)]) rm_L_value Z sa [.ref mm, .int p1, .ref o] (List.flatten [w_SP Z mm u x, w_ArrL Z.2.2.2 1 o f]) (List.flatten [w_SP Z mm u x, w_ArrL Z.2.2.2 1 o (fof f R)]) (some (.int k)) := by
  refine zLM_of (by decide) (Nat.le_of_ble_eq_true rfl) (fun p e s m below meth c hx hb hr hml hown hts hlocks hK hT hN htab A hA Q hQ ls hl hP hD hS => ?_)
  subst hA
  have hl : lv_has ls 4 [(0, .ref mm), (1, .int p1), (2, .ref o)] := hl
  have hown : s.vm.findClass RL = some m.cls := hown
  have hk : kof [(1, 1)] R = some k := hk
  refine lv_aload_n hx hb (z_d hL_value_0 0 rfl) rfl (lv_at hl 2 rfl) ?_
  refine lv_iconst (v := 0) hx hb (z_d hL_value_0 1 rfl) (by decide) ?_
  refine lv_aload_n hx hb (z_d hL_value_0 2 rfl) rfl (lv_at hl 0 rfl) ?_
  refine lv_iload_n hx hb (z_d hL_value_0 3 rfl) rfl (lv_at hl 1 rfl) ?_
  refine z_xm (L := [w_SP Z mm u x, w_ArrL Z.2.2.2 1 o f]) (L' := [w_SP Z mm u x, w_ArrL Z.2.2.2 1 o f]) (z_rX (As := [.int p1]) (rest := [.int 0, .ref o]) hx hb hml hown hts vt_X6_value (c_X6_value l hlt Z sa mm u.1 u.2.1 u.2.2.1 u.2.2.2.1 u.2.2.2.2.1 u.2.2.2.2.2.1 u.2.2.2.2.2.2.1 u.2.2.2.2.2.2.2.1 u.2.2.2.2.2.2.2.2.1 u.2.2.2.2.2.2.2.2.2.1 u.2.2.2.2.2.2.2.2.2.2 x.1 x.2.1 x.2.2.1 x.2.2.2.1 x.2.2.2.2.1 x.2.2.2.2.2.1 x.2.2.2.2.2.2.1 x.2.2.2.2.2.2.2.1 x.2.2.2.2.2.2.2.2 p1 _ hF) rfl rfl ⟨Nat.le_of_ble_eq_true rfl, Nat.le_of_ble_eq_true rfl⟩ k_m_L_33 hK (zTh.narrow hT (z_zA (zD_one hD 0 _ rfl))) (zP_reg hP 0 rfl) (zD_one hD 0 _ rfl) (z_recv (q := (RX6, TX6, 9)) (ci := 6) (q0 := 0) hK (zP_reg hP 0 rfl) rfl rfl) rfl hl.1 (Nat.le_of_ble_eq_true rfl) (z_d hL_value_0 4 rfl) ⟨Nat.le_of_ble_eq_true rfl, Nat.le_of_ble_eq_true rfl⟩) hS hP hD 0 rfl rfl (adr_SP _ _ _ _ _) (fun E ce q9 H locs hE hP hD hS hce hcv hcl => ?_) (fun v H locs hv hP hD hS => ?_)
  · rcases R with v | n
    · cases hE
    · rcases n with _ | _ | _ | n
      · cases hk
      · cases hE
        obtain rfl := Option.some.inj hk
        refine vx_catch (own := RL) (name := "java/lang/IllegalArgumentException") hown [] ⟨0, 9, 12, 15⟩ [] htab (fun z hz => nomatch hz) (by decide) (by decide) (hts _ k_c_L_15) (zTh.cast hT (q := (80, 84, "java/lang/IllegalArgumentException")) (by decide)) hce hcv hcl ?_
        refine lv_astore_n (lv' := [(3, .ref q9), (0, .ref mm), (1, .int p1), (2, .ref o)]) hx hb (z_d hL_value_0 8 rfl) rfl hl (by decide) rfl (fun ls hl => ?_)
        refine lv_iconst (v := 1) hx hb (z_d hL_value_0 9 rfl) (by decide) ?_
        subst hQ
        exact z_lret hx hb hr hlocks hP hS (Nat.le_of_ble_eq_true rfl) (Nat.le_of_ble_eq_true rfl) (z_d hL_value_0 10 rfl)
      · cases hk
      · cases hk
  · rcases R with v | n
    · cases hv
      obtain rfl := Option.some.inj hk
      refine lv_i2l (v := v.toInt64) hx hb (z_d hL_value_0 5 rfl) rfl ?_
      refine z_last (Z := Z) (L := [w_SP Z mm u x, w_ArrL Z.2.2.2 1 o f]) (L' := [w_SP Z mm u x, w_ArrL Z.2.2.2 1 o (vp_updL f 0 v.toInt64)]) (n := 1) (f := f) hx hb hK hP hD hS 1 rfl (by unfold vp_in; decide) rfl (z_d hL_value_0 6 rfl) (fun H locs hP hD hS => ?_)
      refine lv_goto (tgt := 15) hx hb (z_d hL_value_0 7 rfl) (by decide) ?_
      refine lv_iconst (v := 0) hx hb (z_d hL_value_0 11 rfl) (by decide) ?_
      subst hQ
      exact z_lret hx hb hr hlocks hP hS (Nat.le_of_ble_eq_true rfl) (Nat.le_of_ble_eq_true rfl) (z_d hL_value_0 12 rfl)
    · rcases n with _ | _ | n <;> cases hv
theorem k_m_L_36 : Cond.methodLink RL 36 yX6_element ∈ zG := zG_at 811 (by decide +kernel) (by decide +kernel)
theorem vt_X6_element : zVt yX6_element cX6_element 3 (some .int) 2 := ⟨zG_at 812 (by decide +kernel) (by decide +kernel), zG_at 813 (by decide +kernel) (by decide +kernel), zG_at 75 (by decide +kernel) (by decide +kernel), zG_at 814 (by decide +kernel) (by decide +kernel), by decide +kernel⟩
def rm_L_element : Room := { frames := 7, cells := 1, slots := 6, locals := 109 }
set_option maxRecDepth 100000 in
set_option maxHeartbeats 4000000 in
theorem c_L_element (l : Launch) (hlt : l.stackTraces = false) (Z : zZ) (sa : Nat → Nat) (mm : Nat) (u : t_SPa) (o : Nat) (x : t_SP) (f : Nat → Int64) (p1 : Int32) (p2 : Int32) (R : (Int32 ⊕ Nat)) (hF : X6_element x.1 x.2.1 x.2.2.1 x.2.2.2.1 x.2.2.2.2.1 x.2.2.2.2.2.1 x.2.2.2.2.2.2.1 x.2.2.2.2.2.2.2.1 x.2.2.2.2.2.2.2.2 p1 p2 = some R) (k : Int32) (hk : kof [(0, 1), (1, 2)] R = some k) : zLM l yL_element (zwL yL_element cL_element 5 [(0, 10, 13, 13), (0, 10, 17, 15)]) rm_L_element Z sa [.ref mm, .int p1, .int p2, .ref o] (List.flatten [w_SP Z mm u x, w_ArrL Z.2.2.2 1 o f]) (List.flatten [w_SP Z mm u x, w_ArrL Z.2.2.2 1 o (fof f R)]) (some (.int k)) := by
  refine zLM_of (by decide) (Nat.le_of_ble_eq_true rfl) (fun p e s m below meth c hx hb hr hml hown hts hlocks hK hT hN htab A hA Q hQ ls hl hP hD hS => ?_)
  subst hA
  have hl : lv_has ls 5 [(0, .ref mm), (1, .int p1), (2, .int p2), (3, .ref o)] := hl
  have hown : s.vm.findClass RL = some m.cls := hown
  have hk : kof [(0, 1), (1, 2)] R = some k := hk
  refine lv_aload_n hx hb (z_d hL_element_0 0 rfl) rfl (lv_at hl 3 rfl) ?_
  refine lv_iconst (v := 0) hx hb (z_d hL_element_0 1 rfl) (by decide) ?_
  refine lv_aload_n hx hb (z_d hL_element_0 2 rfl) rfl (lv_at hl 0 rfl) ?_
  refine lv_iload_n hx hb (z_d hL_element_0 3 rfl) rfl (lv_at hl 1 rfl) ?_
  refine lv_iload_n hx hb (z_d hL_element_0 4 rfl) rfl (lv_at hl 2 rfl) ?_
  refine z_xm (L := [w_SP Z mm u x, w_ArrL Z.2.2.2 1 o f]) (L' := [w_SP Z mm u x, w_ArrL Z.2.2.2 1 o f]) (z_rX (As := [.int p1, .int p2]) (rest := [.int 0, .ref o]) hx hb hml hown hts vt_X6_element (c_X6_element l hlt Z sa mm u.1 u.2.1 u.2.2.1 u.2.2.2.1 u.2.2.2.2.1 u.2.2.2.2.2.1 u.2.2.2.2.2.2.1 u.2.2.2.2.2.2.2.1 u.2.2.2.2.2.2.2.2.1 u.2.2.2.2.2.2.2.2.2.1 u.2.2.2.2.2.2.2.2.2.2 x.1 x.2.1 x.2.2.1 x.2.2.2.1 x.2.2.2.2.1 x.2.2.2.2.2.1 x.2.2.2.2.2.2.1 x.2.2.2.2.2.2.2.1 x.2.2.2.2.2.2.2.2 p1 p2 _ hF) rfl rfl ⟨Nat.le_of_ble_eq_true rfl, Nat.le_of_ble_eq_true rfl⟩ k_m_L_36 hK (zTh.narrow hT (z_zA (zD_one hD 0 _ rfl))) (zP_reg hP 0 rfl) (zD_one hD 0 _ rfl) (z_recv (q := (RX6, TX6, 9)) (ci := 6) (q0 := 0) hK (zP_reg hP 0 rfl) rfl rfl) rfl hl.1 (Nat.le_of_ble_eq_true rfl) (z_d hL_element_0 5 rfl) ⟨Nat.le_of_ble_eq_true rfl, Nat.le_of_ble_eq_true rfl⟩) hS hP hD 0 rfl rfl (adr_SP _ _ _ _ _) (fun E ce q9 H locs hE hP hD hS hce hcv hcl => ?_) (fun v H locs hv hP hD hS => ?_)
  · rcases R with v | n
    · cases hE
    · rcases n with _ | _ | _ | n
      · cases hE
        obtain rfl := Option.some.inj hk
        refine vx_catch (own := RL) (name := "java/lang/IndexOutOfBoundsException") hown [] ⟨0, 10, 13, 13⟩ [⟨0, 10, 17, 15⟩] htab (fun z hz => nomatch hz) (by decide) (by decide) (hts _ k_c_L_13) (zTh.cast hT (q := (62, 66, "java/lang/IndexOutOfBoundsException")) (by decide)) hce hcv hcl ?_
        refine lv_astore (lv' := [(4, .ref q9), (0, .ref mm), (1, .int p1), (2, .int p2), (3, .ref o)]) hx hb (z_d hL_element_0 9 rfl) hl (by decide) rfl (fun ls hl => ?_)
        refine lv_iconst (v := 1) hx hb (z_d hL_element_0 10 rfl) (by decide) ?_
        subst hQ
        exact z_lret hx hb hr hlocks hP hS (Nat.le_of_ble_eq_true rfl) (Nat.le_of_ble_eq_true rfl) (z_d hL_element_0 11 rfl)
      · cases hE
        obtain rfl := Option.some.inj hk
        refine vx_catch (own := RL) (name := "java/lang/IllegalArgumentException") hown [⟨0, 10, 13, 13⟩] ⟨0, 10, 17, 15⟩ [] htab (fun z hz => by rcases List.mem_singleton.mp hz with rfl; exact Or.inr ⟨by decide, "java/lang/IndexOutOfBoundsException", hts _ k_c_L_13, hN ("java/lang/IllegalArgumentException", "java/lang/IndexOutOfBoundsException") (by decide)⟩) (by decide) (by decide) (hts _ k_c_L_15) (zTh.cast hT (q := (80, 84, "java/lang/IllegalArgumentException")) (by decide)) hce hcv hcl ?_
        refine lv_astore (lv' := [(4, .ref q9), (0, .ref mm), (1, .int p1), (2, .int p2), (3, .ref o)]) hx hb (z_d hL_element_0 12 rfl) hl (by decide) rfl (fun ls hl => ?_)
        refine lv_iconst (v := 2) hx hb (z_d hL_element_0 13 rfl) (by decide) ?_
        subst hQ
        exact z_lret hx hb hr hlocks hP hS (Nat.le_of_ble_eq_true rfl) (Nat.le_of_ble_eq_true rfl) (z_d hL_element_0 14 rfl)
      · cases hk
      · cases hk
  · rcases R with v | n
    · cases hv
      obtain rfl := Option.some.inj hk
      refine lv_i2l (v := v.toInt64) hx hb (z_d hL_element_0 6 rfl) rfl ?_
      refine z_last (Z := Z) (L := [w_SP Z mm u x, w_ArrL Z.2.2.2 1 o f]) (L' := [w_SP Z mm u x, w_ArrL Z.2.2.2 1 o (vp_updL f 0 v.toInt64)]) (n := 1) (f := f) hx hb hK hP hD hS 1 rfl (by unfold vp_in; decide) rfl (z_d hL_element_0 7 rfl) (fun H locs hP hD hS => ?_)
      refine lv_goto (tgt := 21) hx hb (z_d hL_element_0 8 rfl) (by decide) ?_
      refine lv_iconst (v := 0) hx hb (z_d hL_element_0 15 rfl) (by decide) ?_
      subst hQ
      exact z_lret hx hb hr hlocks hP hS (Nat.le_of_ble_eq_true rfl) (Nat.le_of_ble_eq_true rfl) (z_d hL_element_0 16 rfl)
    · rcases n with _ | _ | n <;> cases hv
theorem k_m_L_39 : Cond.methodLink RL 39 yX6_scene ∈ zG := zG_at 818 (by decide +kernel) (by decide +kernel)
theorem vt_X6_scene : zVt yX6_scene cX6_scene 3 (some .int) 2 := ⟨zG_at 819 (by decide +kernel) (by decide +kernel), zG_at 820 (by decide +kernel) (by decide +kernel), zG_at 75 (by decide +kernel) (by decide +kernel), zG_at 821 (by decide +kernel) (by decide +kernel), by decide +kernel⟩
def rm_L_scene : Room := { frames := 7, cells := 1, slots := 6, locals := 104 }
set_option maxRecDepth 100000 in
set_option maxHeartbeats 4000000 in
theorem c_L_scene (l : Launch) (hlt : l.stackTraces = false) (Z : zZ) (sa : Nat → Nat) (mm : Nat) (u : t_SPa) (o : Nat) (x : t_SP) (f : Nat → Int64) (p1 : Int32) (p2 : Int32) (R : (Int32 ⊕ Nat)) (hF : X6_scene x.1 x.2.1 x.2.2.1 x.2.2.2.1 x.2.2.2.2.1 x.2.2.2.2.2.1 x.2.2.2.2.2.2.1 x.2.2.2.2.2.2.2.1 x.2.2.2.2.2.2.2.2 p1 p2 = some R) (k : Int32) (hk : kof [(0, 1), (1, 2)] R = some k) : zLM l yL_scene (zwL yL_scene cL_scene 5 [(0, 10, 13, 13), (0, 10, 17, 15)]) rm_L_scene Z sa [.ref mm, .int p1, .int p2, .ref o] (List.flatten [w_SP Z mm u x, w_ArrL Z.2.2.2 1 o f]) (List.flatten [w_SP Z mm u x, w_ArrL Z.2.2.2 1 o (fof f R)]) (some (.int k)) := by
  refine zLM_of (by decide) (Nat.le_of_ble_eq_true rfl) (fun p e s m below meth c hx hb hr hml hown hts hlocks hK hT hN htab A hA Q hQ ls hl hP hD hS => ?_)
  subst hA
  have hl : lv_has ls 5 [(0, .ref mm), (1, .int p1), (2, .int p2), (3, .ref o)] := hl
  have hown : s.vm.findClass RL = some m.cls := hown
  have hk : kof [(0, 1), (1, 2)] R = some k := hk
  refine lv_aload_n hx hb (z_d hL_scene_0 0 rfl) rfl (lv_at hl 3 rfl) ?_
  refine lv_iconst (v := 0) hx hb (z_d hL_scene_0 1 rfl) (by decide) ?_
  refine lv_aload_n hx hb (z_d hL_scene_0 2 rfl) rfl (lv_at hl 0 rfl) ?_
  refine lv_iload_n hx hb (z_d hL_scene_0 3 rfl) rfl (lv_at hl 1 rfl) ?_
  refine lv_iload_n hx hb (z_d hL_scene_0 4 rfl) rfl (lv_at hl 2 rfl) ?_
  refine z_xm (L := [w_SP Z mm u x, w_ArrL Z.2.2.2 1 o f]) (L' := [w_SP Z mm u x, w_ArrL Z.2.2.2 1 o f]) (z_rX (As := [.int p1, .int p2]) (rest := [.int 0, .ref o]) hx hb hml hown hts vt_X6_scene (c_X6_scene l hlt Z sa mm u.1 u.2.1 u.2.2.1 u.2.2.2.1 u.2.2.2.2.1 u.2.2.2.2.2.1 u.2.2.2.2.2.2.1 u.2.2.2.2.2.2.2.1 u.2.2.2.2.2.2.2.2.1 u.2.2.2.2.2.2.2.2.2.1 u.2.2.2.2.2.2.2.2.2.2 x.1 x.2.1 x.2.2.1 x.2.2.2.1 x.2.2.2.2.1 x.2.2.2.2.2.1 x.2.2.2.2.2.2.1 x.2.2.2.2.2.2.2.1 x.2.2.2.2.2.2.2.2 p1 p2 _ hF) rfl rfl ⟨Nat.le_of_ble_eq_true rfl, Nat.le_of_ble_eq_true rfl⟩ k_m_L_39 hK (zTh.narrow hT (z_zA (zD_one hD 0 _ rfl))) (zP_reg hP 0 rfl) (zD_one hD 0 _ rfl) (z_recv (q := (RX6, TX6, 9)) (ci := 6) (q0 := 0) hK (zP_reg hP 0 rfl) rfl rfl) rfl hl.1 (Nat.le_of_ble_eq_true rfl) (z_d hL_scene_0 5 rfl) ⟨Nat.le_of_ble_eq_true rfl, Nat.le_of_ble_eq_true rfl⟩) hS hP hD 0 rfl rfl (adr_SP _ _ _ _ _) (fun E ce q9 H locs hE hP hD hS hce hcv hcl => ?_) (fun v H locs hv hP hD hS => ?_)
  · rcases R with v | n
    · cases hE
    · rcases n with _ | _ | _ | n
      · cases hE
        obtain rfl := Option.some.inj hk
        refine vx_catch (own := RL) (name := "java/lang/IndexOutOfBoundsException") hown [] ⟨0, 10, 13, 13⟩ [⟨0, 10, 17, 15⟩] htab (fun z hz => nomatch hz) (by decide) (by decide) (hts _ k_c_L_13) (zTh.cast hT (q := (62, 66, "java/lang/IndexOutOfBoundsException")) (by decide)) hce hcv hcl ?_
        refine lv_astore (lv' := [(4, .ref q9), (0, .ref mm), (1, .int p1), (2, .int p2), (3, .ref o)]) hx hb (z_d hL_scene_0 9 rfl) hl (by decide) rfl (fun ls hl => ?_)
        refine lv_iconst (v := 1) hx hb (z_d hL_scene_0 10 rfl) (by decide) ?_
        subst hQ
        exact z_lret hx hb hr hlocks hP hS (Nat.le_of_ble_eq_true rfl) (Nat.le_of_ble_eq_true rfl) (z_d hL_scene_0 11 rfl)
      · cases hE
        obtain rfl := Option.some.inj hk
        refine vx_catch (own := RL) (name := "java/lang/IllegalArgumentException") hown [⟨0, 10, 13, 13⟩] ⟨0, 10, 17, 15⟩ [] htab (fun z hz => by rcases List.mem_singleton.mp hz with rfl; exact Or.inr ⟨by decide, "java/lang/IndexOutOfBoundsException", hts _ k_c_L_13, hN ("java/lang/IllegalArgumentException", "java/lang/IndexOutOfBoundsException") (by decide)⟩) (by decide) (by decide) (hts _ k_c_L_15) (zTh.cast hT (q := (80, 84, "java/lang/IllegalArgumentException")) (by decide)) hce hcv hcl ?_
        refine lv_astore (lv' := [(4, .ref q9), (0, .ref mm), (1, .int p1), (2, .int p2), (3, .ref o)]) hx hb (z_d hL_scene_0 12 rfl) hl (by decide) rfl (fun ls hl => ?_)
        refine lv_iconst (v := 2) hx hb (z_d hL_scene_0 13 rfl) (by decide) ?_
        subst hQ
        exact z_lret hx hb hr hlocks hP hS (Nat.le_of_ble_eq_true rfl) (Nat.le_of_ble_eq_true rfl) (z_d hL_scene_0 14 rfl)
      · cases hk
      · cases hk
  · rcases R with v | n
    · cases hv
      obtain rfl := Option.some.inj hk
      refine lv_i2l (v := v.toInt64) hx hb (z_d hL_scene_0 6 rfl) rfl ?_
      refine z_last (Z := Z) (L := [w_SP Z mm u x, w_ArrL Z.2.2.2 1 o f]) (L' := [w_SP Z mm u x, w_ArrL Z.2.2.2 1 o (vp_updL f 0 v.toInt64)]) (n := 1) (f := f) hx hb hK hP hD hS 1 rfl (by unfold vp_in; decide) rfl (z_d hL_scene_0 7 rfl) (fun H locs hP hD hS => ?_)
      refine lv_goto (tgt := 21) hx hb (z_d hL_scene_0 8 rfl) (by decide) ?_
      refine lv_iconst (v := 0) hx hb (z_d hL_scene_0 15 rfl) (by decide) ?_
      subst hQ
      exact z_lret hx hb hr hlocks hP hS (Nat.le_of_ble_eq_true rfl) (Nat.le_of_ble_eq_true rfl) (z_d hL_scene_0 16 rfl)
    · rcases n with _ | _ | n <;> cases hv
theorem k_m_L_42 : Cond.methodLink RL 42 yX6_page ∈ zG := zG_at 825 (by decide +kernel) (by decide +kernel)
theorem vt_X6_page : zVt yX6_page cX6_page 3 (some .int) 2 := ⟨zG_at 826 (by decide +kernel) (by decide +kernel), zG_at 827 (by decide +kernel) (by decide +kernel), zG_at 75 (by decide +kernel) (by decide +kernel), zG_at 828 (by decide +kernel) (by decide +kernel), by decide +kernel⟩
def rm_L_page : Room := { frames := 7, cells := 1, slots := 6, locals := 104 }
set_option maxRecDepth 100000 in
set_option maxHeartbeats 4000000 in
theorem c_L_page (l : Launch) (hlt : l.stackTraces = false) (Z : zZ) (sa : Nat → Nat) (mm : Nat) (u : t_SPa) (o : Nat) (x : t_SP) (f : Nat → Int64) (p1 : Int32) (p2 : Int32) (R : (Int32 ⊕ Nat)) (hF : X6_page x.1 x.2.1 x.2.2.1 x.2.2.2.1 x.2.2.2.2.1 x.2.2.2.2.2.1 x.2.2.2.2.2.2.1 x.2.2.2.2.2.2.2.1 x.2.2.2.2.2.2.2.2 p1 p2 = some R) (k : Int32) (hk : kof [(0, 1), (1, 2)] R = some k) : zLM l yL_page (zwL yL_page cL_page 5 [(0, 10, 13, 13), (0, 10, 17, 15)]) rm_L_page Z sa [.ref mm, .int p1, .int p2, .ref o] (List.flatten [w_SP Z mm u x, w_ArrL Z.2.2.2 1 o f]) (List.flatten [w_SP Z mm u x, w_ArrL Z.2.2.2 1 o (fof f R)]) (some (.int k)) := by
  refine zLM_of (by decide) (Nat.le_of_ble_eq_true rfl) (fun p e s m below meth c hx hb hr hml hown hts hlocks hK hT hN htab A hA Q hQ ls hl hP hD hS => ?_)
  subst hA
  have hl : lv_has ls 5 [(0, .ref mm), (1, .int p1), (2, .int p2), (3, .ref o)] := hl
  have hown : s.vm.findClass RL = some m.cls := hown
  have hk : kof [(0, 1), (1, 2)] R = some k := hk
  refine lv_aload_n hx hb (z_d hL_page_0 0 rfl) rfl (lv_at hl 3 rfl) ?_
  refine lv_iconst (v := 0) hx hb (z_d hL_page_0 1 rfl) (by decide) ?_
  refine lv_aload_n hx hb (z_d hL_page_0 2 rfl) rfl (lv_at hl 0 rfl) ?_
  refine lv_iload_n hx hb (z_d hL_page_0 3 rfl) rfl (lv_at hl 1 rfl) ?_
  refine lv_iload_n hx hb (z_d hL_page_0 4 rfl) rfl (lv_at hl 2 rfl) ?_
  refine z_xm (L := [w_SP Z mm u x, w_ArrL Z.2.2.2 1 o f]) (L' := [w_SP Z mm u x, w_ArrL Z.2.2.2 1 o f]) (z_rX (As := [.int p1, .int p2]) (rest := [.int 0, .ref o]) hx hb hml hown hts vt_X6_page (c_X6_page l hlt Z sa mm u.1 u.2.1 u.2.2.1 u.2.2.2.1 u.2.2.2.2.1 u.2.2.2.2.2.1 u.2.2.2.2.2.2.1 u.2.2.2.2.2.2.2.1 u.2.2.2.2.2.2.2.2.1 u.2.2.2.2.2.2.2.2.2.1 u.2.2.2.2.2.2.2.2.2.2 x.1 x.2.1 x.2.2.1 x.2.2.2.1 x.2.2.2.2.1 x.2.2.2.2.2.1 x.2.2.2.2.2.2.1 x.2.2.2.2.2.2.2.1 x.2.2.2.2.2.2.2.2 p1 p2 _ hF) rfl rfl ⟨Nat.le_of_ble_eq_true rfl, Nat.le_of_ble_eq_true rfl⟩ k_m_L_42 hK (zTh.narrow hT (z_zA (zD_one hD 0 _ rfl))) (zP_reg hP 0 rfl) (zD_one hD 0 _ rfl) (z_recv (q := (RX6, TX6, 9)) (ci := 6) (q0 := 0) hK (zP_reg hP 0 rfl) rfl rfl) rfl hl.1 (Nat.le_of_ble_eq_true rfl) (z_d hL_page_0 5 rfl) ⟨Nat.le_of_ble_eq_true rfl, Nat.le_of_ble_eq_true rfl⟩) hS hP hD 0 rfl rfl (adr_SP _ _ _ _ _) (fun E ce q9 H locs hE hP hD hS hce hcv hcl => ?_) (fun v H locs hv hP hD hS => ?_)
  · rcases R with v | n
    · cases hE
    · rcases n with _ | _ | _ | n
      · cases hE
        obtain rfl := Option.some.inj hk
        refine vx_catch (own := RL) (name := "java/lang/IndexOutOfBoundsException") hown [] ⟨0, 10, 13, 13⟩ [⟨0, 10, 17, 15⟩] htab (fun z hz => nomatch hz) (by decide) (by decide) (hts _ k_c_L_13) (zTh.cast hT (q := (62, 66, "java/lang/IndexOutOfBoundsException")) (by decide)) hce hcv hcl ?_
        refine lv_astore (lv' := [(4, .ref q9), (0, .ref mm), (1, .int p1), (2, .int p2), (3, .ref o)]) hx hb (z_d hL_page_0 9 rfl) hl (by decide) rfl (fun ls hl => ?_)
        refine lv_iconst (v := 1) hx hb (z_d hL_page_0 10 rfl) (by decide) ?_
        subst hQ
        exact z_lret hx hb hr hlocks hP hS (Nat.le_of_ble_eq_true rfl) (Nat.le_of_ble_eq_true rfl) (z_d hL_page_0 11 rfl)
      · cases hE
        obtain rfl := Option.some.inj hk
        refine vx_catch (own := RL) (name := "java/lang/IllegalArgumentException") hown [⟨0, 10, 13, 13⟩] ⟨0, 10, 17, 15⟩ [] htab (fun z hz => by rcases List.mem_singleton.mp hz with rfl; exact Or.inr ⟨by decide, "java/lang/IndexOutOfBoundsException", hts _ k_c_L_13, hN ("java/lang/IllegalArgumentException", "java/lang/IndexOutOfBoundsException") (by decide)⟩) (by decide) (by decide) (hts _ k_c_L_15) (zTh.cast hT (q := (80, 84, "java/lang/IllegalArgumentException")) (by decide)) hce hcv hcl ?_
        refine lv_astore (lv' := [(4, .ref q9), (0, .ref mm), (1, .int p1), (2, .int p2), (3, .ref o)]) hx hb (z_d hL_page_0 12 rfl) hl (by decide) rfl (fun ls hl => ?_)
        refine lv_iconst (v := 2) hx hb (z_d hL_page_0 13 rfl) (by decide) ?_
        subst hQ
        exact z_lret hx hb hr hlocks hP hS (Nat.le_of_ble_eq_true rfl) (Nat.le_of_ble_eq_true rfl) (z_d hL_page_0 14 rfl)
      · cases hk
      · cases hk
  · rcases R with v | n
    · cases hv
      obtain rfl := Option.some.inj hk
      refine lv_i2l (v := v.toInt64) hx hb (z_d hL_page_0 6 rfl) rfl ?_
      refine z_last (Z := Z) (L := [w_SP Z mm u x, w_ArrL Z.2.2.2 1 o f]) (L' := [w_SP Z mm u x, w_ArrL Z.2.2.2 1 o (vp_updL f 0 v.toInt64)]) (n := 1) (f := f) hx hb hK hP hD hS 1 rfl (by unfold vp_in; decide) rfl (z_d hL_page_0 7 rfl) (fun H locs hP hD hS => ?_)
      refine lv_goto (tgt := 21) hx hb (z_d hL_page_0 8 rfl) (by decide) ?_
      refine lv_iconst (v := 0) hx hb (z_d hL_page_0 15 rfl) (by decide) ?_
      subst hQ
      exact z_lret hx hb hr hlocks hP hS (Nat.le_of_ble_eq_true rfl) (Nat.le_of_ble_eq_true rfl) (z_d hL_page_0 16 rfl)
    · rcases n with _ | _ | n <;> cases hv
theorem k_m_L_45 : Cond.methodLink RL 45 yX6_names ∈ zG := zG_at 833 (by decide +kernel) (by decide +kernel)
theorem vt_X6_names : zVt yX6_names cX6_names 5 (some .int) 2 := ⟨zG_at 834 (by decide +kernel) (by decide +kernel), zG_at 835 (by decide +kernel) (by decide +kernel), zG_at 75 (by decide +kernel) (by decide +kernel), zG_at 836 (by decide +kernel) (by decide +kernel), by decide +kernel⟩
def rm_L_names : Room := { frames := 7, cells := 1, slots := 6, locals := 106 }
set_option maxRecDepth 100000 in
set_option maxHeartbeats 4000000 in
theorem c_L_names (l : Launch) (hlt : l.stackTraces = false) (Z : zZ) (sa : Nat → Nat) (mm : Nat) (u : t_SPa) (o : Nat) (x : t_SP) (f : Nat → Int64) (p1 : Int32) (p2 : Int32) (R : (Int32 ⊕ Nat)) (hF : X6_names x.1 x.2.1 x.2.2.1 x.2.2.2.1 x.2.2.2.2.1 x.2.2.2.2.2.1 x.2.2.2.2.2.2.1 x.2.2.2.2.2.2.2.1 x.2.2.2.2.2.2.2.2 p1 p2 = some R) (k : Int32) (hk : kof [(1, 1)] R = some k) : zLM l yL_names (zwL yL_names cL_names 5 [(0, 10, 13, 15)]) rm_L_names Z sa [.ref mm, .int p1, .int p2, .ref o] (List.flatten [w_SP Z mm u x, w_ArrL Z.2.2.2 1 o f]) (List.flatten [w_SP Z mm u x, w_ArrL Z.2.2.2 1 o (fof f R)]) (some (.int k)) := by
  refine zLM_of (by decide) (Nat.le_of_ble_eq_true rfl) (fun p e s m below meth c hx hb hr hml hown hts hlocks hK hT hN htab A hA Q hQ ls hl hP hD hS => ?_)
  subst hA
  have hl : lv_has ls 5 [(0, .ref mm), (1, .int p1), (2, .int p2), (3, .ref o)] := hl
  have hown : s.vm.findClass RL = some m.cls := hown
  have hk : kof [(1, 1)] R = some k := hk
  refine lv_aload_n hx hb (z_d hL_names_0 0 rfl) rfl (lv_at hl 3 rfl) ?_
  refine lv_iconst (v := 0) hx hb (z_d hL_names_0 1 rfl) (by decide) ?_
  refine lv_aload_n hx hb (z_d hL_names_0 2 rfl) rfl (lv_at hl 0 rfl) ?_
  refine lv_iload_n hx hb (z_d hL_names_0 3 rfl) rfl (lv_at hl 1 rfl) ?_
  refine lv_iload_n hx hb (z_d hL_names_0 4 rfl) rfl (lv_at hl 2 rfl) ?_
  refine z_xm (L := [w_SP Z mm u x, w_ArrL Z.2.2.2 1 o f]) (L' := [w_SP Z mm u x, w_ArrL Z.2.2.2 1 o f]) (z_rX (As := [.int p1, .int p2]) (rest := [.int 0, .ref o]) hx hb hml hown hts vt_X6_names (c_X6_names l hlt Z sa mm u.1 u.2.1 u.2.2.1 u.2.2.2.1 u.2.2.2.2.1 u.2.2.2.2.2.1 u.2.2.2.2.2.2.1 u.2.2.2.2.2.2.2.1 u.2.2.2.2.2.2.2.2.1 u.2.2.2.2.2.2.2.2.2.1 u.2.2.2.2.2.2.2.2.2.2 x.1 x.2.1 x.2.2.1 x.2.2.2.1 x.2.2.2.2.1 x.2.2.2.2.2.1 x.2.2.2.2.2.2.1 x.2.2.2.2.2.2.2.1 x.2.2.2.2.2.2.2.2 p1 p2 _ hF) rfl rfl ⟨Nat.le_of_ble_eq_true rfl, Nat.le_of_ble_eq_true rfl⟩ k_m_L_45 hK (zTh.narrow hT (z_zA (zD_one hD 0 _ rfl))) (zP_reg hP 0 rfl) (zD_one hD 0 _ rfl) (z_recv (q := (RX6, TX6, 9)) (ci := 6) (q0 := 0) hK (zP_reg hP 0 rfl) rfl rfl) rfl hl.1 (Nat.le_of_ble_eq_true rfl) (z_d hL_names_0 5 rfl) ⟨Nat.le_of_ble_eq_true rfl, Nat.le_of_ble_eq_true rfl⟩) hS hP hD 0 rfl rfl (adr_SP _ _ _ _ _) (fun E ce q9 H locs hE hP hD hS hce hcv hcl => ?_) (fun v H locs hv hP hD hS => ?_)
  · rcases R with v | n
    · cases hE
    · rcases n with _ | _ | _ | n
      · cases hk
      · cases hE
        obtain rfl := Option.some.inj hk
        refine vx_catch (own := RL) (name := "java/lang/IllegalArgumentException") hown [] ⟨0, 10, 13, 15⟩ [] htab (fun z hz => nomatch hz) (by decide) (by decide) (hts _ k_c_L_15) (zTh.cast hT (q := (80, 84, "java/lang/IllegalArgumentException")) (by decide)) hce hcv hcl ?_
        refine lv_astore (lv' := [(4, .ref q9), (0, .ref mm), (1, .int p1), (2, .int p2), (3, .ref o)]) hx hb (z_d hL_names_0 9 rfl) hl (by decide) rfl (fun ls hl => ?_)
        refine lv_iconst (v := 1) hx hb (z_d hL_names_0 10 rfl) (by decide) ?_
        subst hQ
        exact z_lret hx hb hr hlocks hP hS (Nat.le_of_ble_eq_true rfl) (Nat.le_of_ble_eq_true rfl) (z_d hL_names_0 11 rfl)
      · cases hk
      · cases hk
  · rcases R with v | n
    · cases hv
      obtain rfl := Option.some.inj hk
      refine lv_i2l (v := v.toInt64) hx hb (z_d hL_names_0 6 rfl) rfl ?_
      refine z_last (Z := Z) (L := [w_SP Z mm u x, w_ArrL Z.2.2.2 1 o f]) (L' := [w_SP Z mm u x, w_ArrL Z.2.2.2 1 o (vp_updL f 0 v.toInt64)]) (n := 1) (f := f) hx hb hK hP hD hS 1 rfl (by unfold vp_in; decide) rfl (z_d hL_names_0 7 rfl) (fun H locs hP hD hS => ?_)
      refine lv_goto (tgt := 17) hx hb (z_d hL_names_0 8 rfl) (by decide) ?_
      refine lv_iconst (v := 0) hx hb (z_d hL_names_0 12 rfl) (by decide) ?_
      subst hQ
      exact z_lret hx hb hr hlocks hP hS (Nat.le_of_ble_eq_true rfl) (Nat.le_of_ble_eq_true rfl) (z_d hL_names_0 13 rfl)
    · rcases n with _ | _ | n <;> cases hv
theorem k_m_L_49 : Cond.methodLink RL 49 yX6_pagesWith ∈ zG := zG_at 841 (by decide +kernel) (by decide +kernel)
theorem vt_X6_pagesWith : zVt yX6_pagesWith cX6_pagesWith 2 (some .int) 1 := ⟨zG_at 842 (by decide +kernel) (by decide +kernel), zG_at 843 (by decide +kernel) (by decide +kernel), zG_at 75 (by decide +kernel) (by decide +kernel), zG_at 844 (by decide +kernel) (by decide +kernel), by decide +kernel⟩
def rm_L_pagesWith : Room := { frames := 7, cells := 1, slots := 6, locals := 134 }
set_option maxRecDepth 100000 in
set_option maxHeartbeats 4000000 in
theorem c_L_pagesWith (l : Launch) (hlt : l.stackTraces = false) (Z : zZ) (sa : Nat → Nat) (mm : Nat) (u : t_SPa) (o : Nat) (x : t_SP) (f : Nat → Int64) (p1 : Int32) (R : (Int32 ⊕ Nat) × t_Script × t_Pages) (hF : X6_pagesWith x.1 x.2.1 x.2.2.1 x.2.2.2.1 x.2.2.2.2.1 x.2.2.2.2.2.1 x.2.2.2.2.2.2.1 x.2.2.2.2.2.2.2.1 x.2.2.2.2.2.2.2.2 p1 = some R) (k : Int32) (hk : kof [(1, 1)] R.1 = some k) : zLM l yL_pagesWith (zwL yL_pagesWith cL_pagesWith 4 [(0, 9, 12, 15)]) rm_L_pagesWith Z sa [.ref mm, .int p1, .ref o] (List.flatten [w_SP Z mm u x, w_ArrL Z.2.2.2 1 o f]) (List.flatten [w_SP Z mm u (x.1, x.2.1, R.2.1, x.2.2.2.1, x.2.2.2.2.1, x.2.2.2.2.2.1, R.2.2, x.2.2.2.2.2.2.2.1, x.2.2.2.2.2.2.2.2), w_ArrL Z.2.2.2 1 o (fof f R.1)]) (some (.int k)) := by
  refine zLM_of (by decide) (Nat.le_of_ble_eq_true rfl) (fun p e s m below meth c hx hb hr hml hown hts hlocks hK hT hN htab A hA Q hQ ls hl hP hD hS => ?_)
  subst hA
  have hl : lv_has ls 4 [(0, .ref mm), (1, .int p1), (2, .ref o)] := hl
  have hown : s.vm.findClass RL = some m.cls := hown
  obtain ⟨rr, R2⟩ := R
  have hk : kof [(1, 1)] rr = some k := hk
  refine lv_aload_n hx hb (z_d hL_pagesWith_0 0 rfl) rfl (lv_at hl 2 rfl) ?_
  refine lv_iconst (v := 0) hx hb (z_d hL_pagesWith_0 1 rfl) (by decide) ?_
  refine lv_aload_n hx hb (z_d hL_pagesWith_0 2 rfl) rfl (lv_at hl 0 rfl) ?_
  refine lv_iload_n hx hb (z_d hL_pagesWith_0 3 rfl) rfl (lv_at hl 1 rfl) ?_
  refine z_xm (L := [w_SP Z mm u x, w_ArrL Z.2.2.2 1 o f]) (L' := [w_SP Z mm u (x.1, x.2.1, R2.1, x.2.2.2.1, x.2.2.2.2.1, x.2.2.2.2.2.1, R2.2, x.2.2.2.2.2.2.2.1, x.2.2.2.2.2.2.2.2), w_ArrL Z.2.2.2 1 o f]) (z_rX (As := [.int p1]) (rest := [.int 0, .ref o]) hx hb hml hown hts vt_X6_pagesWith (c_X6_pagesWith l hlt Z sa mm u.1 u.2.1 u.2.2.1 u.2.2.2.1 u.2.2.2.2.1 u.2.2.2.2.2.1 u.2.2.2.2.2.2.1 u.2.2.2.2.2.2.2.1 u.2.2.2.2.2.2.2.2.1 u.2.2.2.2.2.2.2.2.2.1 u.2.2.2.2.2.2.2.2.2.2 x.1 x.2.1 x.2.2.1 x.2.2.2.1 x.2.2.2.2.1 x.2.2.2.2.2.1 x.2.2.2.2.2.2.1 x.2.2.2.2.2.2.2.1 x.2.2.2.2.2.2.2.2 p1 _ hF) rfl rfl ⟨Nat.le_of_ble_eq_true rfl, Nat.le_of_ble_eq_true rfl⟩ k_m_L_49 hK (zTh.narrow hT (z_zA (zD_one hD 0 _ rfl))) (zP_reg hP 0 rfl) (zD_one hD 0 _ rfl) (z_recv (q := (RX6, TX6, 9)) (ci := 6) (q0 := 0) hK (zP_reg hP 0 rfl) rfl rfl) rfl hl.1 (Nat.le_of_ble_eq_true rfl) (z_d hL_pagesWith_0 4 rfl) ⟨Nat.le_of_ble_eq_true rfl, Nat.le_of_ble_eq_true rfl⟩) hS hP hD 0 rfl rfl (adr_SP _ _ _ _ _) (fun E ce q9 H locs hE hP hD hS hce hcv hcl => ?_) (fun v H locs hv hP hD hS => ?_)
  · rcases rr with v | n
    · cases hE
    · rcases n with _ | _ | _ | n
      · cases hk
      · cases hE
        obtain rfl := Option.some.inj hk
        refine vx_catch (own := RL) (name := "java/lang/IllegalArgumentException") hown [] ⟨0, 9, 12, 15⟩ [] htab (fun z hz => nomatch hz) (by decide) (by decide) (hts _ k_c_L_15) (zTh.cast hT (q := (80, 84, "java/lang/IllegalArgumentException")) (by decide)) hce hcv hcl ?_
        refine lv_astore_n (lv' := [(3, .ref q9), (0, .ref mm), (1, .int p1), (2, .ref o)]) hx hb (z_d hL_pagesWith_0 8 rfl) rfl hl (by decide) rfl (fun ls hl => ?_)
        refine lv_iconst (v := 1) hx hb (z_d hL_pagesWith_0 9 rfl) (by decide) ?_
        subst hQ
        exact z_lret hx hb hr hlocks hP hS (Nat.le_of_ble_eq_true rfl) (Nat.le_of_ble_eq_true rfl) (z_d hL_pagesWith_0 10 rfl)
      · cases hk
      · cases hk
  · rcases rr with v | n
    · cases hv
      obtain rfl := Option.some.inj hk
      refine lv_i2l (v := v.toInt64) hx hb (z_d hL_pagesWith_0 5 rfl) rfl ?_
      refine z_last (Z := Z) (L := [w_SP Z mm u (x.1, x.2.1, R2.1, x.2.2.2.1, x.2.2.2.2.1, x.2.2.2.2.2.1, R2.2, x.2.2.2.2.2.2.2.1, x.2.2.2.2.2.2.2.2), w_ArrL Z.2.2.2 1 o f]) (L' := [w_SP Z mm u (x.1, x.2.1, R2.1, x.2.2.2.1, x.2.2.2.2.1, x.2.2.2.2.2.1, R2.2, x.2.2.2.2.2.2.2.1, x.2.2.2.2.2.2.2.2), w_ArrL Z.2.2.2 1 o (vp_updL f 0 v.toInt64)]) (n := 1) (f := f) hx hb hK hP hD hS 1 rfl (by unfold vp_in; decide) rfl (z_d hL_pagesWith_0 6 rfl) (fun H locs hP hD hS => ?_)
      refine lv_goto (tgt := 15) hx hb (z_d hL_pagesWith_0 7 rfl) (by decide) ?_
      refine lv_iconst (v := 0) hx hb (z_d hL_pagesWith_0 11 rfl) (by decide) ?_
      subst hQ
      exact z_lret hx hb hr hlocks hP hS (Nat.le_of_ble_eq_true rfl) (Nat.le_of_ble_eq_true rfl) (z_d hL_pagesWith_0 12 rfl)
    · rcases n with _ | _ | n <;> cases hv
theorem k_m_L_52 : Cond.methodLink RL 52 yX6_smallestPage ∈ zG := zG_at 848 (by decide +kernel) (by decide +kernel)
theorem vt_X6_smallestPage : zVt yX6_smallestPage cX6_smallestPage 3 (some .int) 1 := ⟨zG_at 849 (by decide +kernel) (by decide +kernel), zG_at 850 (by decide +kernel) (by decide +kernel), zG_at 75 (by decide +kernel) (by decide +kernel), zG_at 851 (by decide +kernel) (by decide +kernel), by decide +kernel⟩
def rm_L_smallestPage : Room := { frames := 7, cells := 1, slots := 6, locals := 135 }
set_option maxRecDepth 100000 in
set_option maxHeartbeats 4000000 in
theorem c_L_smallestPage (l : Launch) (hlt : l.stackTraces = false) (Z : zZ) (sa : Nat → Nat) (mm : Nat) (u : t_SPa) (o : Nat) (x : t_SP) (f : Nat → Int64) (p1 : Int32) (R : (Int32 ⊕ Nat) × t_Script × t_Pages) (hF : X6_smallestPage x.1 x.2.1 x.2.2.1 x.2.2.2.1 x.2.2.2.2.1 x.2.2.2.2.2.1 x.2.2.2.2.2.2.1 x.2.2.2.2.2.2.2.1 x.2.2.2.2.2.2.2.2 p1 = some R) (k : Int32) (hk : kof [(1, 1)] R.1 = some k) : zLM l yL_smallestPage (zwL yL_smallestPage cL_smallestPage 4 [(0, 9, 12, 15)]) rm_L_smallestPage Z sa [.ref mm, .int p1, .ref o] (List.flatten [w_SP Z mm u x, w_ArrL Z.2.2.2 1 o f]) (List.flatten [w_SP Z mm u (x.1, x.2.1, R.2.1, x.2.2.2.1, x.2.2.2.2.1, x.2.2.2.2.2.1, R.2.2, x.2.2.2.2.2.2.2.1, x.2.2.2.2.2.2.2.2), w_ArrL Z.2.2.2 1 o (fof f R.1)]) (some (.int k)) := by
  refine zLM_of (by decide) (Nat.le_of_ble_eq_true rfl) (fun p e s m below meth c hx hb hr hml hown hts hlocks hK hT hN htab A hA Q hQ ls hl hP hD hS => ?_)
  subst hA
  have hl : lv_has ls 4 [(0, .ref mm), (1, .int p1), (2, .ref o)] := hl
  have hown : s.vm.findClass RL = some m.cls := hown
  obtain ⟨rr, R2⟩ := R
  have hk : kof [(1, 1)] rr = some k := hk
  refine lv_aload_n hx hb (z_d hL_smallestPage_0 0 rfl) rfl (lv_at hl 2 rfl) ?_
  refine lv_iconst (v := 0) hx hb (z_d hL_smallestPage_0 1 rfl) (by decide) ?_
  refine lv_aload_n hx hb (z_d hL_smallestPage_0 2 rfl) rfl (lv_at hl 0 rfl) ?_
  refine lv_iload_n hx hb (z_d hL_smallestPage_0 3 rfl) rfl (lv_at hl 1 rfl) ?_
  refine z_xm (L := [w_SP Z mm u x, w_ArrL Z.2.2.2 1 o f]) (L' := [w_SP Z mm u (x.1, x.2.1, R2.1, x.2.2.2.1, x.2.2.2.2.1, x.2.2.2.2.2.1, R2.2, x.2.2.2.2.2.2.2.1, x.2.2.2.2.2.2.2.2), w_ArrL Z.2.2.2 1 o f]) (z_rX (As := [.int p1]) (rest := [.int 0, .ref o]) hx hb hml hown hts vt_X6_smallestPage (c_X6_smallestPage l hlt Z sa mm u.1 u.2.1 u.2.2.1 u.2.2.2.1 u.2.2.2.2.1 u.2.2.2.2.2.1 u.2.2.2.2.2.2.1 u.2.2.2.2.2.2.2.1 u.2.2.2.2.2.2.2.2.1 u.2.2.2.2.2.2.2.2.2.1 u.2.2.2.2.2.2.2.2.2.2 x.1 x.2.1 x.2.2.1 x.2.2.2.1 x.2.2.2.2.1 x.2.2.2.2.2.1 x.2.2.2.2.2.2.1 x.2.2.2.2.2.2.2.1 x.2.2.2.2.2.2.2.2 p1 _ hF) rfl rfl ⟨Nat.le_of_ble_eq_true rfl, Nat.le_of_ble_eq_true rfl⟩ k_m_L_52 hK (zTh.narrow hT (z_zA (zD_one hD 0 _ rfl))) (zP_reg hP 0 rfl) (zD_one hD 0 _ rfl) (z_recv (q := (RX6, TX6, 9)) (ci := 6) (q0 := 0) hK (zP_reg hP 0 rfl) rfl rfl) rfl hl.1 (Nat.le_of_ble_eq_true rfl) (z_d hL_smallestPage_0 4 rfl) ⟨Nat.le_of_ble_eq_true rfl, Nat.le_of_ble_eq_true rfl⟩) hS hP hD 0 rfl rfl (adr_SP _ _ _ _ _) (fun E ce q9 H locs hE hP hD hS hce hcv hcl => ?_) (fun v H locs hv hP hD hS => ?_)
  · rcases rr with v | n
    · cases hE
    · rcases n with _ | _ | _ | n
      · cases hk
      · cases hE
        obtain rfl := Option.some.inj hk
        refine vx_catch (own := RL) (name := "java/lang/IllegalArgumentException") hown [] ⟨0, 9, 12, 15⟩ [] htab (fun z hz => nomatch hz) (by decide) (by decide) (hts _ k_c_L_15) (zTh.cast hT (q := (80, 84, "java/lang/IllegalArgumentException")) (by decide)) hce hcv hcl ?_
        refine lv_astore_n (lv' := [(3, .ref q9), (0, .ref mm), (1, .int p1), (2, .ref o)]) hx hb (z_d hL_smallestPage_0 8 rfl) rfl hl (by decide) rfl (fun ls hl => ?_)
        refine lv_iconst (v := 1) hx hb (z_d hL_smallestPage_0 9 rfl) (by decide) ?_
        subst hQ
        exact z_lret hx hb hr hlocks hP hS (Nat.le_of_ble_eq_true rfl) (Nat.le_of_ble_eq_true rfl) (z_d hL_smallestPage_0 10 rfl)
      · cases hk
      · cases hk
  · rcases rr with v | n
    · cases hv
      obtain rfl := Option.some.inj hk
      refine lv_i2l (v := v.toInt64) hx hb (z_d hL_smallestPage_0 5 rfl) rfl ?_
      refine z_last (Z := Z) (L := [w_SP Z mm u (x.1, x.2.1, R2.1, x.2.2.2.1, x.2.2.2.2.1, x.2.2.2.2.2.1, R2.2, x.2.2.2.2.2.2.2.1, x.2.2.2.2.2.2.2.2), w_ArrL Z.2.2.2 1 o f]) (L' := [w_SP Z mm u (x.1, x.2.1, R2.1, x.2.2.2.1, x.2.2.2.2.1, x.2.2.2.2.2.1, R2.2, x.2.2.2.2.2.2.2.1, x.2.2.2.2.2.2.2.2), w_ArrL Z.2.2.2 1 o (vp_updL f 0 v.toInt64)]) (n := 1) (f := f) hx hb hK hP hD hS 1 rfl (by unfold vp_in; decide) rfl (z_d hL_smallestPage_0 6 rfl) (fun H locs hP hD hS => ?_)
      refine lv_goto (tgt := 15) hx hb (z_d hL_smallestPage_0 7 rfl) (by decide) ?_
      refine lv_iconst (v := 0) hx hb (z_d hL_smallestPage_0 11 rfl) (by decide) ?_
      subst hQ
      exact z_lret hx hb hr hlocks hP hS (Nat.le_of_ble_eq_true rfl) (Nat.le_of_ble_eq_true rfl) (z_d hL_smallestPage_0 12 rfl)
    · rcases n with _ | _ | n <;> cases hv
theorem k_m_L_55 : Cond.methodLink RL 55 yX6_pagesBy ∈ zG := zG_at 856 (by decide +kernel) (by decide +kernel)
theorem vt_X6_pagesBy : zVt yX6_pagesBy cX6_pagesBy 3 (some .int) 2 := ⟨zG_at 857 (by decide +kernel) (by decide +kernel), zG_at 858 (by decide +kernel) (by decide +kernel), zG_at 75 (by decide +kernel) (by decide +kernel), zG_at 859 (by decide +kernel) (by decide +kernel), by decide +kernel⟩
def rm_L_pagesBy : Room := { frames := 7, cells := 1, slots := 6, locals := 135 }
set_option maxRecDepth 100000 in
set_option maxHeartbeats 4000000 in
theorem c_L_pagesBy (l : Launch) (hlt : l.stackTraces = false) (Z : zZ) (sa : Nat → Nat) (mm : Nat) (u : t_SPa) (o : Nat) (x : t_SP) (f : Nat → Int64) (p1 : Int32) (p2 : Int32) (R : (Int32 ⊕ Nat) × t_Script × t_Pages) (hF : X6_pagesBy x.1 x.2.1 x.2.2.1 x.2.2.2.1 x.2.2.2.2.1 x.2.2.2.2.2.1 x.2.2.2.2.2.2.1 x.2.2.2.2.2.2.2.1 x.2.2.2.2.2.2.2.2 p1 p2 = some R) (k : Int32) (hk : kof [(0, 1), (1, 2)] R.1 = some k) : zLM l yL_pagesBy (zwL yL_pagesBy cL_pagesBy 5 [(0, 10, 13, 13), (0, 10, 17, 15)]) rm_L_pagesBy Z sa [.ref mm, .int p1, .int p2, .ref o] (List.flatten [w_SP Z mm u x, w_ArrL Z.2.2.2 1 o f]) (List.flatten [w_SP Z mm u (x.1, x.2.1, R.2.1, x.2.2.2.1, x.2.2.2.2.1, x.2.2.2.2.2.1, R.2.2, x.2.2.2.2.2.2.2.1, x.2.2.2.2.2.2.2.2), w_ArrL Z.2.2.2 1 o (fof f R.1)]) (some (.int k)) := by
  refine zLM_of (by decide) (Nat.le_of_ble_eq_true rfl) (fun p e s m below meth c hx hb hr hml hown hts hlocks hK hT hN htab A hA Q hQ ls hl hP hD hS => ?_)
  subst hA
  have hl : lv_has ls 5 [(0, .ref mm), (1, .int p1), (2, .int p2), (3, .ref o)] := hl
  have hown : s.vm.findClass RL = some m.cls := hown
  obtain ⟨rr, R2⟩ := R
  have hk : kof [(0, 1), (1, 2)] rr = some k := hk
  refine lv_aload_n hx hb (z_d hL_pagesBy_0 0 rfl) rfl (lv_at hl 3 rfl) ?_
  refine lv_iconst (v := 0) hx hb (z_d hL_pagesBy_0 1 rfl) (by decide) ?_
  refine lv_aload_n hx hb (z_d hL_pagesBy_0 2 rfl) rfl (lv_at hl 0 rfl) ?_
  refine lv_iload_n hx hb (z_d hL_pagesBy_0 3 rfl) rfl (lv_at hl 1 rfl) ?_
  refine lv_iload_n hx hb (z_d hL_pagesBy_0 4 rfl) rfl (lv_at hl 2 rfl) ?_
  refine z_xm (L := [w_SP Z mm u x, w_ArrL Z.2.2.2 1 o f]) (L' := [w_SP Z mm u (x.1, x.2.1, R2.1, x.2.2.2.1, x.2.2.2.2.1, x.2.2.2.2.2.1, R2.2, x.2.2.2.2.2.2.2.1, x.2.2.2.2.2.2.2.2), w_ArrL Z.2.2.2 1 o f]) (z_rX (As := [.int p1, .int p2]) (rest := [.int 0, .ref o]) hx hb hml hown hts vt_X6_pagesBy (c_X6_pagesBy l hlt Z sa mm u.1 u.2.1 u.2.2.1 u.2.2.2.1 u.2.2.2.2.1 u.2.2.2.2.2.1 u.2.2.2.2.2.2.1 u.2.2.2.2.2.2.2.1 u.2.2.2.2.2.2.2.2.1 u.2.2.2.2.2.2.2.2.2.1 u.2.2.2.2.2.2.2.2.2.2 x.1 x.2.1 x.2.2.1 x.2.2.2.1 x.2.2.2.2.1 x.2.2.2.2.2.1 x.2.2.2.2.2.2.1 x.2.2.2.2.2.2.2.1 x.2.2.2.2.2.2.2.2 p1 p2 _ hF) rfl rfl ⟨Nat.le_of_ble_eq_true rfl, Nat.le_of_ble_eq_true rfl⟩ k_m_L_55 hK (zTh.narrow hT (z_zA (zD_one hD 0 _ rfl))) (zP_reg hP 0 rfl) (zD_one hD 0 _ rfl) (z_recv (q := (RX6, TX6, 9)) (ci := 6) (q0 := 0) hK (zP_reg hP 0 rfl) rfl rfl) rfl hl.1 (Nat.le_of_ble_eq_true rfl) (z_d hL_pagesBy_0 5 rfl) ⟨Nat.le_of_ble_eq_true rfl, Nat.le_of_ble_eq_true rfl⟩) hS hP hD 0 rfl rfl (adr_SP _ _ _ _ _) (fun E ce q9 H locs hE hP hD hS hce hcv hcl => ?_) (fun v H locs hv hP hD hS => ?_)
  · rcases rr with v | n
    · cases hE
    · rcases n with _ | _ | _ | n
      · cases hE
        obtain rfl := Option.some.inj hk
        refine vx_catch (own := RL) (name := "java/lang/IndexOutOfBoundsException") hown [] ⟨0, 10, 13, 13⟩ [⟨0, 10, 17, 15⟩] htab (fun z hz => nomatch hz) (by decide) (by decide) (hts _ k_c_L_13) (zTh.cast hT (q := (62, 66, "java/lang/IndexOutOfBoundsException")) (by decide)) hce hcv hcl ?_
        refine lv_astore (lv' := [(4, .ref q9), (0, .ref mm), (1, .int p1), (2, .int p2), (3, .ref o)]) hx hb (z_d hL_pagesBy_0 9 rfl) hl (by decide) rfl (fun ls hl => ?_)
        refine lv_iconst (v := 1) hx hb (z_d hL_pagesBy_0 10 rfl) (by decide) ?_
        subst hQ
        exact z_lret hx hb hr hlocks hP hS (Nat.le_of_ble_eq_true rfl) (Nat.le_of_ble_eq_true rfl) (z_d hL_pagesBy_0 11 rfl)
      · cases hE
        obtain rfl := Option.some.inj hk
        refine vx_catch (own := RL) (name := "java/lang/IllegalArgumentException") hown [⟨0, 10, 13, 13⟩] ⟨0, 10, 17, 15⟩ [] htab (fun z hz => by rcases List.mem_singleton.mp hz with rfl; exact Or.inr ⟨by decide, "java/lang/IndexOutOfBoundsException", hts _ k_c_L_13, hN ("java/lang/IllegalArgumentException", "java/lang/IndexOutOfBoundsException") (by decide)⟩) (by decide) (by decide) (hts _ k_c_L_15) (zTh.cast hT (q := (80, 84, "java/lang/IllegalArgumentException")) (by decide)) hce hcv hcl ?_
        refine lv_astore (lv' := [(4, .ref q9), (0, .ref mm), (1, .int p1), (2, .int p2), (3, .ref o)]) hx hb (z_d hL_pagesBy_0 12 rfl) hl (by decide) rfl (fun ls hl => ?_)
        refine lv_iconst (v := 2) hx hb (z_d hL_pagesBy_0 13 rfl) (by decide) ?_
        subst hQ
        exact z_lret hx hb hr hlocks hP hS (Nat.le_of_ble_eq_true rfl) (Nat.le_of_ble_eq_true rfl) (z_d hL_pagesBy_0 14 rfl)
      · cases hk
      · cases hk
  · rcases rr with v | n
    · cases hv
      obtain rfl := Option.some.inj hk
      refine lv_i2l (v := v.toInt64) hx hb (z_d hL_pagesBy_0 6 rfl) rfl ?_
      refine z_last (Z := Z) (L := [w_SP Z mm u (x.1, x.2.1, R2.1, x.2.2.2.1, x.2.2.2.2.1, x.2.2.2.2.2.1, R2.2, x.2.2.2.2.2.2.2.1, x.2.2.2.2.2.2.2.2), w_ArrL Z.2.2.2 1 o f]) (L' := [w_SP Z mm u (x.1, x.2.1, R2.1, x.2.2.2.1, x.2.2.2.2.1, x.2.2.2.2.2.1, R2.2, x.2.2.2.2.2.2.2.1, x.2.2.2.2.2.2.2.2), w_ArrL Z.2.2.2 1 o (vp_updL f 0 v.toInt64)]) (n := 1) (f := f) hx hb hK hP hD hS 1 rfl (by unfold vp_in; decide) rfl (z_d hL_pagesBy_0 7 rfl) (fun H locs hP hD hS => ?_)
      refine lv_goto (tgt := 21) hx hb (z_d hL_pagesBy_0 8 rfl) (by decide) ?_
      refine lv_iconst (v := 0) hx hb (z_d hL_pagesBy_0 15 rfl) (by decide) ?_
      subst hQ
      exact z_lret hx hb hr hlocks hP hS (Nat.le_of_ble_eq_true rfl) (Nat.le_of_ble_eq_true rfl) (z_d hL_pagesBy_0 16 rfl)
    · rcases n with _ | _ | n <;> cases hv
theorem k_m_L_58 : Cond.methodLink RL 58 yX6_greatestLength ∈ zG := zG_at 863 (by decide +kernel) (by decide +kernel)
theorem vt_X6_greatestLength : zVt yX6_greatestLength cX6_greatestLength 6 (some .int) 1 := ⟨zG_at 864 (by decide +kernel) (by decide +kernel), zG_at 865 (by decide +kernel) (by decide +kernel), zG_at 75 (by decide +kernel) (by decide +kernel), zG_at 866 (by decide +kernel) (by decide +kernel), by decide +kernel⟩
def rm_L_greatestLength : Room := { frames := 7, cells := 1, slots := 6, locals := 138 }
set_option maxRecDepth 100000 in
set_option maxHeartbeats 4000000 in
theorem c_L_greatestLength (l : Launch) (hlt : l.stackTraces = false) (Z : zZ) (sa : Nat → Nat) (mm : Nat) (u : t_SPa) (o : Nat) (x : t_SP) (f : Nat → Int64) (p1 : Int32) (R : (Int32 ⊕ Nat) × t_Script × t_Pages) (hF : X6_greatestLength x.1 x.2.1 x.2.2.1 x.2.2.2.1 x.2.2.2.2.1 x.2.2.2.2.2.1 x.2.2.2.2.2.2.1 x.2.2.2.2.2.2.2.1 x.2.2.2.2.2.2.2.2 p1 = some R) (k : Int32) (hk : kof [(0, 1)] R.1 = some k) : zLM l yL_greatestLength (zwL yL_greatestLength cL_greatestLength 4 [(0, 9, 12, 13)]) rm_L_greatestLength Z sa [.ref mm, .int p1, .ref o] (List.flatten [w_SP Z mm u x, w_ArrL Z.2.2.2 1 o f]) (List.flatten [w_SP Z mm u (x.1, x.2.1, R.2.1, x.2.2.2.1, x.2.2.2.2.1, x.2.2.2.2.2.1, R.2.2, x.2.2.2.2.2.2.2.1, x.2.2.2.2.2.2.2.2), w_ArrL Z.2.2.2 1 o (fof f R.1)]) (some (.int k)) := by
  refine zLM_of (by decide) (Nat.le_of_ble_eq_true rfl) (fun p e s m below meth c hx hb hr hml hown hts hlocks hK hT hN htab A hA Q hQ ls hl hP hD hS => ?_)
  subst hA
  have hl : lv_has ls 4 [(0, .ref mm), (1, .int p1), (2, .ref o)] := hl
  have hown : s.vm.findClass RL = some m.cls := hown
  obtain ⟨rr, R2⟩ := R
  have hk : kof [(0, 1)] rr = some k := hk
  refine lv_aload_n hx hb (z_d hL_greatestLength_0 0 rfl) rfl (lv_at hl 2 rfl) ?_
  refine lv_iconst (v := 0) hx hb (z_d hL_greatestLength_0 1 rfl) (by decide) ?_
  refine lv_aload_n hx hb (z_d hL_greatestLength_0 2 rfl) rfl (lv_at hl 0 rfl) ?_
  refine lv_iload_n hx hb (z_d hL_greatestLength_0 3 rfl) rfl (lv_at hl 1 rfl) ?_
  refine z_xm (L := [w_SP Z mm u x, w_ArrL Z.2.2.2 1 o f]) (L' := [w_SP Z mm u (x.1, x.2.1, R2.1, x.2.2.2.1, x.2.2.2.2.1, x.2.2.2.2.2.1, R2.2, x.2.2.2.2.2.2.2.1, x.2.2.2.2.2.2.2.2), w_ArrL Z.2.2.2 1 o f]) (z_rX (As := [.int p1]) (rest := [.int 0, .ref o]) hx hb hml hown hts vt_X6_greatestLength (c_X6_greatestLength l hlt Z sa mm u.1 u.2.1 u.2.2.1 u.2.2.2.1 u.2.2.2.2.1 u.2.2.2.2.2.1 u.2.2.2.2.2.2.1 u.2.2.2.2.2.2.2.1 u.2.2.2.2.2.2.2.2.1 u.2.2.2.2.2.2.2.2.2.1 u.2.2.2.2.2.2.2.2.2.2 x.1 x.2.1 x.2.2.1 x.2.2.2.1 x.2.2.2.2.1 x.2.2.2.2.2.1 x.2.2.2.2.2.2.1 x.2.2.2.2.2.2.2.1 x.2.2.2.2.2.2.2.2 p1 _ hF) rfl rfl ⟨Nat.le_of_ble_eq_true rfl, Nat.le_of_ble_eq_true rfl⟩ k_m_L_58 hK (zTh.narrow hT (z_zA (zD_one hD 0 _ rfl))) (zP_reg hP 0 rfl) (zD_one hD 0 _ rfl) (z_recv (q := (RX6, TX6, 9)) (ci := 6) (q0 := 0) hK (zP_reg hP 0 rfl) rfl rfl) rfl hl.1 (Nat.le_of_ble_eq_true rfl) (z_d hL_greatestLength_0 4 rfl) ⟨Nat.le_of_ble_eq_true rfl, Nat.le_of_ble_eq_true rfl⟩) hS hP hD 0 rfl rfl (adr_SP _ _ _ _ _) (fun E ce q9 H locs hE hP hD hS hce hcv hcl => ?_) (fun v H locs hv hP hD hS => ?_)
  · rcases rr with v | n
    · cases hE
    · rcases n with _ | _ | _ | n
      · cases hE
        obtain rfl := Option.some.inj hk
        refine vx_catch (own := RL) (name := "java/lang/IndexOutOfBoundsException") hown [] ⟨0, 9, 12, 13⟩ [] htab (fun z hz => nomatch hz) (by decide) (by decide) (hts _ k_c_L_13) (zTh.cast hT (q := (62, 66, "java/lang/IndexOutOfBoundsException")) (by decide)) hce hcv hcl ?_
        refine lv_astore_n (lv' := [(3, .ref q9), (0, .ref mm), (1, .int p1), (2, .ref o)]) hx hb (z_d hL_greatestLength_0 8 rfl) rfl hl (by decide) rfl (fun ls hl => ?_)
        refine lv_iconst (v := 1) hx hb (z_d hL_greatestLength_0 9 rfl) (by decide) ?_
        subst hQ
        exact z_lret hx hb hr hlocks hP hS (Nat.le_of_ble_eq_true rfl) (Nat.le_of_ble_eq_true rfl) (z_d hL_greatestLength_0 10 rfl)
      · cases hk
      · cases hk
      · cases hk
  · rcases rr with v | n
    · cases hv
      obtain rfl := Option.some.inj hk
      refine lv_i2l (v := v.toInt64) hx hb (z_d hL_greatestLength_0 5 rfl) rfl ?_
      refine z_last (Z := Z) (L := [w_SP Z mm u (x.1, x.2.1, R2.1, x.2.2.2.1, x.2.2.2.2.1, x.2.2.2.2.2.1, R2.2, x.2.2.2.2.2.2.2.1, x.2.2.2.2.2.2.2.2), w_ArrL Z.2.2.2 1 o f]) (L' := [w_SP Z mm u (x.1, x.2.1, R2.1, x.2.2.2.1, x.2.2.2.2.1, x.2.2.2.2.2.1, R2.2, x.2.2.2.2.2.2.2.1, x.2.2.2.2.2.2.2.2), w_ArrL Z.2.2.2 1 o (vp_updL f 0 v.toInt64)]) (n := 1) (f := f) hx hb hK hP hD hS 1 rfl (by unfold vp_in; decide) rfl (z_d hL_greatestLength_0 6 rfl) (fun H locs hP hD hS => ?_)
      refine lv_goto (tgt := 15) hx hb (z_d hL_greatestLength_0 7 rfl) (by decide) ?_
      refine lv_iconst (v := 0) hx hb (z_d hL_greatestLength_0 11 rfl) (by decide) ?_
      subst hQ
      exact z_lret hx hb hr hlocks hP hS (Nat.le_of_ble_eq_true rfl) (Nat.le_of_ble_eq_true rfl) (z_d hL_greatestLength_0 12 rfl)
    · rcases n with _ | _ | n <;> cases hv
theorem k_m_L_61 : Cond.methodLink RL 61 yX6_append ∈ zG := zG_at 870 (by decide +kernel) (by decide +kernel)
theorem vt_X6_append : zVt yX6_append cX6_append 2 (some .int) 1 := ⟨zG_at 871 (by decide +kernel) (by decide +kernel), zG_at 872 (by decide +kernel) (by decide +kernel), zG_at 75 (by decide +kernel) (by decide +kernel), zG_at 873 (by decide +kernel) (by decide +kernel), by decide +kernel⟩
def rm_L_append : Room := { frames := 7, cells := 1, slots := 6, locals := 103 }
set_option maxRecDepth 100000 in
set_option maxHeartbeats 4000000 in
theorem c_L_append (l : Launch) (hlt : l.stackTraces = false) (Z : zZ) (sa : Nat → Nat) (mm : Nat) (u : t_SPa) (o : Nat) (x : t_SP) (f : Nat → Int64) (p1 : Int32) (R : (Int32 ⊕ Nat) × Int32 × Rw) (hF : X6_append x.1 x.2.1 x.2.2.1 x.2.2.2.1 x.2.2.2.2.1 x.2.2.2.2.2.1 x.2.2.2.2.2.2.1 x.2.2.2.2.2.2.2.1 x.2.2.2.2.2.2.2.2 p1 = some R) (k : Int32) (hk : kof [(1, 1), (2, 2)] R.1 = some k) : zLM l yL_append (zwL yL_append cL_append 4 [(0, 9, 12, 15), (0, 9, 15, 17)]) rm_L_append Z sa [.ref mm, .int p1, .ref o] (List.flatten [w_SP Z mm u x, w_ArrL Z.2.2.2 1 o f]) (List.flatten [w_SP Z mm u (R.2.1, x.2.1, x.2.2.1, x.2.2.2.1, x.2.2.2.2.1, x.2.2.2.2.2.1, x.2.2.2.2.2.2.1, x.2.2.2.2.2.2.2.1, R.2.2), w_ArrL Z.2.2.2 1 o (fof f R.1)]) (some (.int k)) := by
  refine zLM_of (by decide) (Nat.le_of_ble_eq_true rfl) (fun p e s m below meth c hx hb hr hml hown hts hlocks hK hT hN htab A hA Q hQ ls hl hP hD hS => ?_)
  subst hA
  have hl : lv_has ls 4 [(0, .ref mm), (1, .int p1), (2, .ref o)] := hl
  have hown : s.vm.findClass RL = some m.cls := hown
  obtain ⟨rr, R2⟩ := R
  have hk : kof [(1, 1), (2, 2)] rr = some k := hk
  refine lv_aload_n hx hb (z_d hL_append_0 0 rfl) rfl (lv_at hl 2 rfl) ?_
  refine lv_iconst (v := 0) hx hb (z_d hL_append_0 1 rfl) (by decide) ?_
  refine lv_aload_n hx hb (z_d hL_append_0 2 rfl) rfl (lv_at hl 0 rfl) ?_
  refine lv_iload_n hx hb (z_d hL_append_0 3 rfl) rfl (lv_at hl 1 rfl) ?_
  refine z_xm (L := [w_SP Z mm u x, w_ArrL Z.2.2.2 1 o f]) (L' := [w_SP Z mm u (R2.1, x.2.1, x.2.2.1, x.2.2.2.1, x.2.2.2.2.1, x.2.2.2.2.2.1, x.2.2.2.2.2.2.1, x.2.2.2.2.2.2.2.1, R2.2), w_ArrL Z.2.2.2 1 o f]) (z_rX (As := [.int p1]) (rest := [.int 0, .ref o]) hx hb hml hown hts vt_X6_append (c_X6_append l hlt Z sa mm u.1 u.2.1 u.2.2.1 u.2.2.2.1 u.2.2.2.2.1 u.2.2.2.2.2.1 u.2.2.2.2.2.2.1 u.2.2.2.2.2.2.2.1 u.2.2.2.2.2.2.2.2.1 u.2.2.2.2.2.2.2.2.2.1 u.2.2.2.2.2.2.2.2.2.2 x.1 x.2.1 x.2.2.1 x.2.2.2.1 x.2.2.2.2.1 x.2.2.2.2.2.1 x.2.2.2.2.2.2.1 x.2.2.2.2.2.2.2.1 x.2.2.2.2.2.2.2.2 p1 _ hF) rfl rfl ⟨Nat.le_of_ble_eq_true rfl, Nat.le_of_ble_eq_true rfl⟩ k_m_L_61 hK (zTh.narrow hT (z_zA (zD_one hD 0 _ rfl))) (zP_reg hP 0 rfl) (zD_one hD 0 _ rfl) (z_recv (q := (RX6, TX6, 9)) (ci := 6) (q0 := 0) hK (zP_reg hP 0 rfl) rfl rfl) rfl hl.1 (Nat.le_of_ble_eq_true rfl) (z_d hL_append_0 4 rfl) ⟨Nat.le_of_ble_eq_true rfl, Nat.le_of_ble_eq_true rfl⟩) hS hP hD 0 rfl rfl (adr_SP _ _ _ _ _) (fun E ce q9 H locs hE hP hD hS hce hcv hcl => ?_) (fun v H locs hv hP hD hS => ?_)
  · rcases rr with v | n
    · cases hE
    · rcases n with _ | _ | _ | n
      · cases hk
      · cases hE
        obtain rfl := Option.some.inj hk
        refine vx_catch (own := RL) (name := "java/lang/IllegalArgumentException") hown [] ⟨0, 9, 12, 15⟩ [⟨0, 9, 15, 17⟩] htab (fun z hz => nomatch hz) (by decide) (by decide) (hts _ k_c_L_15) (zTh.cast hT (q := (80, 84, "java/lang/IllegalArgumentException")) (by decide)) hce hcv hcl ?_
        refine lv_astore_n (lv' := [(3, .ref q9), (0, .ref mm), (1, .int p1), (2, .ref o)]) hx hb (z_d hL_append_0 8 rfl) rfl hl (by decide) rfl (fun ls hl => ?_)
        refine lv_iconst (v := 1) hx hb (z_d hL_append_0 9 rfl) (by decide) ?_
        subst hQ
        exact z_lret hx hb hr hlocks hP hS (Nat.le_of_ble_eq_true rfl) (Nat.le_of_ble_eq_true rfl) (z_d hL_append_0 10 rfl)
      · cases hE
        obtain rfl := Option.some.inj hk
        refine vx_catch (own := RL) (name := "java/lang/IllegalStateException") hown [⟨0, 9, 12, 15⟩] ⟨0, 9, 15, 17⟩ [] htab (fun z hz => by rcases List.mem_singleton.mp hz with rfl; exact Or.inr ⟨by decide, "java/lang/IllegalArgumentException", hts _ k_c_L_15, hN ("java/lang/IllegalStateException", "java/lang/IllegalArgumentException") (by decide)⟩) (by decide) (by decide) (hts _ k_c_L_17) (zTh.cast hT (q := (89, 93, "java/lang/IllegalStateException")) (by decide)) hce hcv hcl ?_
        refine lv_astore_n (lv' := [(3, .ref q9), (0, .ref mm), (1, .int p1), (2, .ref o)]) hx hb (z_d hL_append_0 11 rfl) rfl hl (by decide) rfl (fun ls hl => ?_)
        refine lv_iconst (v := 2) hx hb (z_d hL_append_0 12 rfl) (by decide) ?_
        subst hQ
        exact z_lret hx hb hr hlocks hP hS (Nat.le_of_ble_eq_true rfl) (Nat.le_of_ble_eq_true rfl) (z_d hL_append_0 13 rfl)
      · cases hk
  · rcases rr with v | n
    · cases hv
      obtain rfl := Option.some.inj hk
      refine lv_i2l (v := v.toInt64) hx hb (z_d hL_append_0 5 rfl) rfl ?_
      refine z_last (Z := Z) (L := [w_SP Z mm u (R2.1, x.2.1, x.2.2.1, x.2.2.2.1, x.2.2.2.2.1, x.2.2.2.2.2.1, x.2.2.2.2.2.2.1, x.2.2.2.2.2.2.2.1, R2.2), w_ArrL Z.2.2.2 1 o f]) (L' := [w_SP Z mm u (R2.1, x.2.1, x.2.2.1, x.2.2.2.1, x.2.2.2.2.1, x.2.2.2.2.2.1, x.2.2.2.2.2.2.1, x.2.2.2.2.2.2.2.1, R2.2), w_ArrL Z.2.2.2 1 o (vp_updL f 0 v.toInt64)]) (n := 1) (f := f) hx hb hK hP hD hS 1 rfl (by unfold vp_in; decide) rfl (z_d hL_append_0 6 rfl) (fun H locs hP hD hS => ?_)
      refine lv_goto (tgt := 18) hx hb (z_d hL_append_0 7 rfl) (by decide) ?_
      refine lv_iconst (v := 0) hx hb (z_d hL_append_0 14 rfl) (by decide) ?_
      subst hQ
      exact z_lret hx hb hr hlocks hP hS (Nat.le_of_ble_eq_true rfl) (Nat.le_of_ble_eq_true rfl) (z_d hL_append_0 15 rfl)
    · rcases n with _ | _ | n <;> cases hv
theorem k_m_L_64 : Cond.methodLink RL 64 yX6_undo ∈ zG := zG_at 879 (by decide +kernel) (by decide +kernel)
theorem vt_X6_undo : zVt yX6_undo cX6_undo 1 (some .int) 0 := ⟨zG_at 880 (by decide +kernel) (by decide +kernel), zG_at 881 (by decide +kernel) (by decide +kernel), zG_at 75 (by decide +kernel) (by decide +kernel), zG_at 882 (by decide +kernel) (by decide +kernel), by decide +kernel⟩
def rm_L_undo : Room := { frames := 7, cells := 1, slots := 6, locals := 139 }
set_option maxRecDepth 100000 in
set_option maxHeartbeats 4000000 in
theorem c_L_undo (l : Launch) (hlt : l.stackTraces = false) (Z : zZ) (sa : Nat → Nat) (mm : Nat) (u : t_SPa) (o : Nat) (x : t_SP) (f : Nat → Int64) (R : (Int32 ⊕ Nat) × t_Script × t_Scenes × t_Pages × t_Hist) (hF : X6_undo x.1 x.2.1 x.2.2.1 x.2.2.2.1 x.2.2.2.2.1 x.2.2.2.2.2.1 x.2.2.2.2.2.2.1 x.2.2.2.2.2.2.2.1 x.2.2.2.2.2.2.2.2 = some R) (k : Int32) (hk : kof [(2, 1)] R.1 = some k) : zLM l yL_undo (zwL yL_undo cL_undo 3 [(0, 8, 11, 17)]) rm_L_undo Z sa [.ref mm, .ref o] (List.flatten [w_SP Z mm u x, w_ArrL Z.2.2.2 1 o f]) (List.flatten [w_SP Z mm u (x.1, R.2.1, x.2.2.1, R.2.2.1, x.2.2.2.2.1, R.2.2.2.1, x.2.2.2.2.2.2.1, R.2.2.2.2, x.2.2.2.2.2.2.2.2), w_ArrL Z.2.2.2 1 o (fof f R.1)]) (some (.int k)) := by
  refine zLM_of (by decide) (Nat.le_of_ble_eq_true rfl) (fun p e s m below meth c hx hb hr hml hown hts hlocks hK hT hN htab A hA Q hQ ls hl hP hD hS => ?_)
  subst hA
  have hl : lv_has ls 3 [(0, .ref mm), (1, .ref o)] := hl
  have hown : s.vm.findClass RL = some m.cls := hown
  obtain ⟨rr, R2⟩ := R
  have hk : kof [(2, 1)] rr = some k := hk
  refine lv_aload_n hx hb (z_d hL_undo_0 0 rfl) rfl (lv_at hl 1 rfl) ?_
  refine lv_iconst (v := 0) hx hb (z_d hL_undo_0 1 rfl) (by decide) ?_
  refine lv_aload_n hx hb (z_d hL_undo_0 2 rfl) rfl (lv_at hl 0 rfl) ?_
  refine z_xm (L := [w_SP Z mm u x, w_ArrL Z.2.2.2 1 o f]) (L' := [w_SP Z mm u (x.1, R2.1, x.2.2.1, R2.2.1, x.2.2.2.2.1, R2.2.2.1, x.2.2.2.2.2.2.1, R2.2.2.2, x.2.2.2.2.2.2.2.2), w_ArrL Z.2.2.2 1 o f]) (z_rX (As := []) (rest := [.int 0, .ref o]) hx hb hml hown hts vt_X6_undo (c_X6_undo l hlt Z sa mm u.1 u.2.1 u.2.2.1 u.2.2.2.1 u.2.2.2.2.1 u.2.2.2.2.2.1 u.2.2.2.2.2.2.1 u.2.2.2.2.2.2.2.1 u.2.2.2.2.2.2.2.2.1 u.2.2.2.2.2.2.2.2.2.1 u.2.2.2.2.2.2.2.2.2.2 x.1 x.2.1 x.2.2.1 x.2.2.2.1 x.2.2.2.2.1 x.2.2.2.2.2.1 x.2.2.2.2.2.2.1 x.2.2.2.2.2.2.2.1 x.2.2.2.2.2.2.2.2  _ hF) rfl rfl ⟨Nat.le_of_ble_eq_true rfl, Nat.le_of_ble_eq_true rfl⟩ k_m_L_64 hK (zTh.narrow hT (z_zA (zD_one hD 0 _ rfl))) (zP_reg hP 0 rfl) (zD_one hD 0 _ rfl) (z_recv (q := (RX6, TX6, 9)) (ci := 6) (q0 := 0) hK (zP_reg hP 0 rfl) rfl rfl) rfl hl.1 (Nat.le_of_ble_eq_true rfl) (z_d hL_undo_0 3 rfl) ⟨Nat.le_of_ble_eq_true rfl, Nat.le_of_ble_eq_true rfl⟩) hS hP hD 0 rfl rfl (adr_SP _ _ _ _ _) (fun E ce q9 H locs hE hP hD hS hce hcv hcl => ?_) (fun v H locs hv hP hD hS => ?_)
  · rcases rr with v | n
    · cases hE
    · rcases n with _ | _ | _ | n
      · cases hk
      · cases hk
      · cases hE
        obtain rfl := Option.some.inj hk
        refine vx_catch (own := RL) (name := "java/lang/IllegalStateException") hown [] ⟨0, 8, 11, 17⟩ [] htab (fun z hz => nomatch hz) (by decide) (by decide) (hts _ k_c_L_17) (zTh.cast hT (q := (89, 93, "java/lang/IllegalStateException")) (by decide)) hce hcv hcl ?_
        refine lv_astore_n (lv' := [(2, .ref q9), (0, .ref mm), (1, .ref o)]) hx hb (z_d hL_undo_0 7 rfl) rfl hl (by decide) rfl (fun ls hl => ?_)
        refine lv_iconst (v := 1) hx hb (z_d hL_undo_0 8 rfl) (by decide) ?_
        subst hQ
        exact z_lret hx hb hr hlocks hP hS (Nat.le_of_ble_eq_true rfl) (Nat.le_of_ble_eq_true rfl) (z_d hL_undo_0 9 rfl)
      · cases hk
  · rcases rr with v | n
    · cases hv
      obtain rfl := Option.some.inj hk
      refine lv_i2l (v := v.toInt64) hx hb (z_d hL_undo_0 4 rfl) rfl ?_
      refine z_last (Z := Z) (L := [w_SP Z mm u (x.1, R2.1, x.2.2.1, R2.2.1, x.2.2.2.2.1, R2.2.2.1, x.2.2.2.2.2.2.1, R2.2.2.2, x.2.2.2.2.2.2.2.2), w_ArrL Z.2.2.2 1 o f]) (L' := [w_SP Z mm u (x.1, R2.1, x.2.2.1, R2.2.1, x.2.2.2.2.1, R2.2.2.1, x.2.2.2.2.2.2.1, R2.2.2.2, x.2.2.2.2.2.2.2.2), w_ArrL Z.2.2.2 1 o (vp_updL f 0 v.toInt64)]) (n := 1) (f := f) hx hb hK hP hD hS 1 rfl (by unfold vp_in; decide) rfl (z_d hL_undo_0 5 rfl) (fun H locs hP hD hS => ?_)
      refine lv_goto (tgt := 14) hx hb (z_d hL_undo_0 6 rfl) (by decide) ?_
      refine lv_iconst (v := 0) hx hb (z_d hL_undo_0 10 rfl) (by decide) ?_
      subst hQ
      exact z_lret hx hb hr hlocks hP hS (Nat.le_of_ble_eq_true rfl) (Nat.le_of_ble_eq_true rfl) (z_d hL_undo_0 11 rfl)
    · rcases n with _ | _ | n <;> cases hv

theorem k_c_L_101 : Cond.classLink RL 101 "java/lang/IndexOutOfBoundsException" ∈ zG := zG_at 291 (by decide +kernel) (by decide +kernel)
theorem k_c_L_103 : Cond.classLink RL 103 "java/lang/IllegalArgumentException" ∈ zG := zG_at 292 (by decide +kernel) (by decide +kernel)
theorem k_c_L_106 : Cond.classLink RL 106 "java/lang/IllegalStateException" ∈ zG := zG_at 293 (by decide +kernel) (by decide +kernel)
theorem zXc_cast : ∀ q ∈ zXc, Cond.castable q.2.2 q.2.2 ∈ vx_atS RX6 q.2.1 q.2.2 zXn := by decide +kernel
theorem zTh.cast {sa : Nat → Nat} {A : Nat → Prop} {s : State} {H : Heap} {args : Array Value} (h : zTh sa A s H) {q : Nat × Nat × String} (hq : q ∈ zXc) : (Cond.castable q.2.2 q.2.2).before args s = true := vx_ot_at (State.WarmedH.refl s) rfl (zXc_ot q hq _ (zXc_cast q hq)) (h.2.1 q hq _ (zXc_cast q hq))
theorem adr_SP (Z : zZ) (mm : Nat) (u : t_SPa) (x' x : t_SP) : (w_SP Z mm u x').map (·.1) = (w_SP Z mm u x).map (·.1) := zadr_cons rfl (zadr_cons (adr_Script _ _ _ _) (zadr_cons (adr_Script _ _ _ _) (zadr_cons (adr_Scenes _ _ _ _) (zadr_cons (adr_Scenes _ _ _ _) (zadr_cons (adr_Pages _ _ _ _) (zadr_cons (adr_Pages _ _ _ _) (zadr_cons (adr_Hist _ _ _ _ _ _ _) (zadr_cons rfl rfl))))))))
theorem k_i_L_48 : Cond.constant RL 48 (-100001) ∈ zG := zG_at 583 (by decide +kernel) (by decide +kernel)
theorem k_i_L_105 : Cond.constant RL 105 (-100002) ∈ zG := zG_at 584 (by decide +kernel) (by decide +kernel)
theorem k_i_L_57 : Cond.constant RL 57 (-100003) ∈ zG := zG_at 585 (by decide +kernel) (by decide +kernel)
def L_inserts (x : t_SP) (p1 : Int32) (p2 : Int32) (p3 : Int32) (p4 : Int32) : Option (Int32 × t_SP) := (X6_insert x.1 x.2.1 x.2.2.1 x.2.2.2.1 x.2.2.2.2.1 x.2.2.2.2.2.1 x.2.2.2.2.2.2.1 x.2.2.2.2.2.2.2.1 x.2.2.2.2.2.2.2.2 p1 p2 p3 p4).bind fun R => (kcode [(0, -100001), (1, -100002), (2, -100003)] R.1).bind fun k => some (k, (x.1, R.2.1, R.2.2.1, R.2.2.2.1, R.2.2.2.2.1, R.2.2.2.2.2.1, x.2.2.2.2.2.2.1, R.2.2.2.2.2.2, x.2.2.2.2.2.2.2.2))
theorem k_m_L_97 : Cond.methodLink RL 97 yX6_insert ∈ zG := zG_at 294 (by decide +kernel) (by decide +kernel)
theorem vt_X6_insert : zVt yX6_insert cX6_insert 5 (some .int) 4 := ⟨zG_at 295 (by decide +kernel) (by decide +kernel), zG_at 296 (by decide +kernel) (by decide +kernel), zG_at 26 (by decide +kernel) (by decide +kernel), zG_at 297 (by decide +kernel) (by decide +kernel), by decide +kernel⟩
def rm_L_inserts : Room := { frames := 7, cells := 1, slots := 6, locals := 163 }
set_option maxRecDepth 100000 in
set_option maxHeartbeats 4000000 in
theorem c_L_inserts (l : Launch) (hlt : l.stackTraces = false) (Z : zZ) (sa : Nat → Nat) (mm : Nat) (u : t_SPa) (x : t_SP) (p1 : Int32) (p2 : Int32) (p3 : Int32) (p4 : Int32) (R : Int32 × t_SP) (hF0 : L_inserts x p1 p2 p3 p4 = some R) : zLM l yL_inserts (zwL yL_inserts cL_inserts 6 [(0, 9, 10, 101), (0, 9, 15, 103), (0, 9, 20, 106)]) rm_L_inserts Z sa [.ref mm, .int p1, .int p2, .int p3, .int p4] (List.flatten [w_SP Z mm u x]) (List.flatten [w_SP Z mm u R.2]) (some (.int R.1)) := by
  unfold L_inserts at hF0
  refine z_bnd hF0 (fun R9 hF hF1 => ?_)
  refine z_bnd hF1 (fun k hk hF2 => ?_)
  obtain rfl := Option.some.inj hF2
  obtain ⟨rr, R2⟩ := R9
  have hk : kcode [(0, -100001), (1, -100002), (2, -100003)] rr = some k := hk
  refine zLM_of (by decide) (Nat.le_of_ble_eq_true rfl) (fun p e s m below meth c hx hb hr hml hown hts hlocks hK hT hN htab A hA Q hQ ls hl hP hD hS => ?_)
  subst hA
  have hl : lv_has ls 6 [(0, .ref mm), (1, .int p1), (2, .int p2), (3, .int p3), (4, .int p4)] := hl
  have hown : s.vm.findClass RL = some m.cls := hown
  refine lv_aload_n hx hb (z_d hL_inserts_0 0 rfl) rfl (lv_at hl 0 rfl) ?_
  refine lv_iload_n hx hb (z_d hL_inserts_0 1 rfl) rfl (lv_at hl 1 rfl) ?_
  refine lv_iload_n hx hb (z_d hL_inserts_0 2 rfl) rfl (lv_at hl 2 rfl) ?_
  refine lv_iload_n hx hb (z_d hL_inserts_0 3 rfl) rfl (lv_at hl 3 rfl) ?_
  refine lv_iload hx hb (z_d hL_inserts_0 4 rfl) (lv_at hl 4 rfl) ?_
  refine z_xm (L := [w_SP Z mm u x]) (L' := [w_SP Z mm u (x.1, R2.1, R2.2.1, R2.2.2.1, R2.2.2.2.1, R2.2.2.2.2.1, x.2.2.2.2.2.2.1, R2.2.2.2.2.2, x.2.2.2.2.2.2.2.2)]) (z_rX (As := [.int p1, .int p2, .int p3, .int p4]) (rest := []) hx hb hml hown hts vt_X6_insert (c_X6_insert l hlt Z sa mm u.1 u.2.1 u.2.2.1 u.2.2.2.1 u.2.2.2.2.1 u.2.2.2.2.2.1 u.2.2.2.2.2.2.1 u.2.2.2.2.2.2.2.1 u.2.2.2.2.2.2.2.2.1 u.2.2.2.2.2.2.2.2.2.1 u.2.2.2.2.2.2.2.2.2.2 x.1 x.2.1 x.2.2.1 x.2.2.2.1 x.2.2.2.2.1 x.2.2.2.2.2.1 x.2.2.2.2.2.2.1 x.2.2.2.2.2.2.2.1 x.2.2.2.2.2.2.2.2 p1 p2 p3 p4 _ hF) rfl rfl ⟨Nat.le_of_ble_eq_true rfl, Nat.le_of_ble_eq_true rfl⟩ k_m_L_97 hK (zTh.narrow hT (z_zA (zD_one hD 0 _ rfl))) (zP_reg hP 0 rfl) (zD_one hD 0 _ rfl) (z_recv (q := (RX6, TX6, 9)) (ci := 6) (q0 := 0) hK (zP_reg hP 0 rfl) rfl rfl) rfl hl.1 (Nat.le_of_ble_eq_true rfl) (z_d hL_inserts_0 5 rfl) ⟨Nat.le_of_ble_eq_true rfl, Nat.le_of_ble_eq_true rfl⟩) hS hP hD 0 rfl rfl (adr_SP _ _ _ _ _) (fun E ce q9 H locs hE hP hD hS hce hcv hcl => ?_) (fun v H locs hv hP hD hS => ?_)
  · rcases rr with v | n
    · cases hE
    · rcases n with _ | _ | _ | n
      · cases hE
        obtain rfl := Option.some.inj hk
        refine vx_catch (own := RL) (name := "java/lang/IndexOutOfBoundsException") hown [] ⟨0, 9, 10, 101⟩ [⟨0, 9, 15, 103⟩, ⟨0, 9, 20, 106⟩] htab (fun z hz => nomatch hz) (by decide) (by decide) (hts _ k_c_L_101) (zTh.cast hT (q := (62, 66, "java/lang/IndexOutOfBoundsException")) (by decide)) hce hcv hcl ?_
        refine lv_astore (lv' := [(5, .ref q9), (0, .ref mm), (1, .int p1), (2, .int p2), (3, .int p3), (4, .int p4)]) hx hb (z_d hL_inserts_0 7 rfl) hl (by decide) rfl (fun ls hl => ?_)
        refine lv_ldc (v := -100001) hx hb hown (hts _ k_i_L_48) (z_d hL_inserts_0 8 rfl) ?_
        subst hQ
        exact z_lret hx hb hr hlocks hP hS (Nat.le_of_ble_eq_true rfl) (Nat.le_of_ble_eq_true rfl) (z_d hL_inserts_0 9 rfl)
      · cases hE
        obtain rfl := Option.some.inj hk
        refine vx_catch (own := RL) (name := "java/lang/IllegalArgumentException") hown [⟨0, 9, 10, 101⟩] ⟨0, 9, 15, 103⟩ [⟨0, 9, 20, 106⟩] htab (fun z hz => by rcases List.mem_singleton.mp hz with rfl; exact Or.inr ⟨by decide, "java/lang/IndexOutOfBoundsException", hts _ k_c_L_101, hN ("java/lang/IllegalArgumentException", "java/lang/IndexOutOfBoundsException") (by decide)⟩) (by decide) (by decide) (hts _ k_c_L_103) (zTh.cast hT (q := (80, 84, "java/lang/IllegalArgumentException")) (by decide)) hce hcv hcl ?_
        refine lv_astore (lv' := [(5, .ref q9), (0, .ref mm), (1, .int p1), (2, .int p2), (3, .int p3), (4, .int p4)]) hx hb (z_d hL_inserts_0 10 rfl) hl (by decide) rfl (fun ls hl => ?_)
        refine lv_ldc (v := -100002) hx hb hown (hts _ k_i_L_105) (z_d hL_inserts_0 11 rfl) ?_
        subst hQ
        exact z_lret hx hb hr hlocks hP hS (Nat.le_of_ble_eq_true rfl) (Nat.le_of_ble_eq_true rfl) (z_d hL_inserts_0 12 rfl)
      · cases hE
        obtain rfl := Option.some.inj hk
        refine vx_catch (own := RL) (name := "java/lang/IllegalStateException") hown [⟨0, 9, 10, 101⟩, ⟨0, 9, 15, 103⟩] ⟨0, 9, 20, 106⟩ [] htab (fun z hz => (List.mem_cons.mp hz).elim (fun h => by subst h; exact Or.inr ⟨by decide, "java/lang/IndexOutOfBoundsException", hts _ k_c_L_101, hN ("java/lang/IllegalStateException", "java/lang/IndexOutOfBoundsException") (by decide)⟩) (fun hz => by rcases List.mem_singleton.mp hz with rfl; exact Or.inr ⟨by decide, "java/lang/IllegalArgumentException", hts _ k_c_L_103, hN ("java/lang/IllegalStateException", "java/lang/IllegalArgumentException") (by decide)⟩)) (by decide) (by decide) (hts _ k_c_L_106) (zTh.cast hT (q := (89, 93, "java/lang/IllegalStateException")) (by decide)) hce hcv hcl ?_
        refine lv_astore (lv' := [(5, .ref q9), (0, .ref mm), (1, .int p1), (2, .int p2), (3, .int p3), (4, .int p4)]) hx hb (z_d hL_inserts_0 13 rfl) hl (by decide) rfl (fun ls hl => ?_)
        refine lv_ldc (v := -100003) hx hb hown (hts _ k_i_L_57) (z_d hL_inserts_0 14 rfl) ?_
        subst hQ
        exact z_lret hx hb hr hlocks hP hS (Nat.le_of_ble_eq_true rfl) (Nat.le_of_ble_eq_true rfl) (z_d hL_inserts_0 15 rfl)
      · cases hk
  · rcases rr with v | n
    · cases hv
      obtain rfl := Option.some.inj hk
      subst hQ
      exact z_lret hx hb hr hlocks hP hS (Nat.le_of_ble_eq_true rfl) (Nat.le_of_ble_eq_true rfl) (z_d hL_inserts_0 6 rfl)
    · rcases n with _ | _ | n <;> cases hv
def L_drops (x : t_SP) (p1 : Int32) : Option (Int32 × t_SP) := (X6_remove x.1 x.2.1 x.2.2.1 x.2.2.2.1 x.2.2.2.2.1 x.2.2.2.2.2.1 x.2.2.2.2.2.2.1 x.2.2.2.2.2.2.2.1 x.2.2.2.2.2.2.2.2 p1).bind fun R => (kcode [(0, -100001), (2, -100003)] R.1).bind fun k => some (k, (x.1, R.2.1, R.2.2.1, R.2.2.2.1, x.2.2.2.2.1, R.2.2.2.2.1, x.2.2.2.2.2.2.1, R.2.2.2.2.2, x.2.2.2.2.2.2.2.2))
theorem k_m_L_108 : Cond.methodLink RL 108 yX6_remove ∈ zG := zG_at 601 (by decide +kernel) (by decide +kernel)
theorem vt_X6_remove : zVt yX6_remove cX6_remove 2 (some .int) 1 := ⟨zG_at 602 (by decide +kernel) (by decide +kernel), zG_at 603 (by decide +kernel) (by decide +kernel), zG_at 26 (by decide +kernel) (by decide +kernel), zG_at 604 (by decide +kernel) (by decide +kernel), by decide +kernel⟩
def rm_L_drops : Room := { frames := 7, cells := 1, slots := 6, locals := 160 }
set_option maxRecDepth 100000 in
set_option maxHeartbeats 4000000 in
theorem c_L_drops (l : Launch) (hlt : l.stackTraces = false) (Z : zZ) (sa : Nat → Nat) (mm : Nat) (u : t_SPa) (x : t_SP) (p1 : Int32) (R : Int32 × t_SP) (hF0 : L_drops x p1 = some R) : zLM l yL_drops (zwL yL_drops cL_drops 3 [(0, 5, 6, 101), (0, 5, 10, 106)]) rm_L_drops Z sa [.ref mm, .int p1] (List.flatten [w_SP Z mm u x]) (List.flatten [w_SP Z mm u R.2]) (some (.int R.1)) := by
  unfold L_drops at hF0
  refine z_bnd hF0 (fun R9 hF hF1 => ?_)
  refine z_bnd hF1 (fun k hk hF2 => ?_)
  obtain rfl := Option.some.inj hF2
  obtain ⟨rr, R2⟩ := R9
  have hk : kcode [(0, -100001), (2, -100003)] rr = some k := hk
  refine zLM_of (by decide) (Nat.le_of_ble_eq_true rfl) (fun p e s m below meth c hx hb hr hml hown hts hlocks hK hT hN htab A hA Q hQ ls hl hP hD hS => ?_)
  subst hA
  have hl : lv_has ls 3 [(0, .ref mm), (1, .int p1)] := hl
  have hown : s.vm.findClass RL = some m.cls := hown
  refine lv_aload_n hx hb (z_d hL_drops_0 0 rfl) rfl (lv_at hl 0 rfl) ?_
  refine lv_iload_n hx hb (z_d hL_drops_0 1 rfl) rfl (lv_at hl 1 rfl) ?_
  refine z_xm (L := [w_SP Z mm u x]) (L' := [w_SP Z mm u (x.1, R2.1, R2.2.1, R2.2.2.1, x.2.2.2.2.1, R2.2.2.2.1, x.2.2.2.2.2.2.1, R2.2.2.2.2, x.2.2.2.2.2.2.2.2)]) (z_rX (As := [.int p1]) (rest := []) hx hb hml hown hts vt_X6_remove (c_X6_remove l hlt Z sa mm u.1 u.2.1 u.2.2.1 u.2.2.2.1 u.2.2.2.2.1 u.2.2.2.2.2.1 u.2.2.2.2.2.2.1 u.2.2.2.2.2.2.2.1 u.2.2.2.2.2.2.2.2.1 u.2.2.2.2.2.2.2.2.2.1 u.2.2.2.2.2.2.2.2.2.2 x.1 x.2.1 x.2.2.1 x.2.2.2.1 x.2.2.2.2.1 x.2.2.2.2.2.1 x.2.2.2.2.2.2.1 x.2.2.2.2.2.2.2.1 x.2.2.2.2.2.2.2.2 p1 _ hF) rfl rfl ⟨Nat.le_of_ble_eq_true rfl, Nat.le_of_ble_eq_true rfl⟩ k_m_L_108 hK (zTh.narrow hT (z_zA (zD_one hD 0 _ rfl))) (zP_reg hP 0 rfl) (zD_one hD 0 _ rfl) (z_recv (q := (RX6, TX6, 9)) (ci := 6) (q0 := 0) hK (zP_reg hP 0 rfl) rfl rfl) rfl hl.1 (Nat.le_of_ble_eq_true rfl) (z_d hL_drops_0 2 rfl) ⟨Nat.le_of_ble_eq_true rfl, Nat.le_of_ble_eq_true rfl⟩) hS hP hD 0 rfl rfl (adr_SP _ _ _ _ _) (fun E ce q9 H locs hE hP hD hS hce hcv hcl => ?_) (fun v H locs hv hP hD hS => ?_)
  · rcases rr with v | n
    · cases hE
    · rcases n with _ | _ | _ | n
      · cases hE
        obtain rfl := Option.some.inj hk
        refine vx_catch (own := RL) (name := "java/lang/IndexOutOfBoundsException") hown [] ⟨0, 5, 6, 101⟩ [⟨0, 5, 10, 106⟩] htab (fun z hz => nomatch hz) (by decide) (by decide) (hts _ k_c_L_101) (zTh.cast hT (q := (62, 66, "java/lang/IndexOutOfBoundsException")) (by decide)) hce hcv hcl ?_
        refine lv_astore_n (lv' := [(2, .ref q9), (0, .ref mm), (1, .int p1)]) hx hb (z_d hL_drops_0 4 rfl) rfl hl (by decide) rfl (fun ls hl => ?_)
        refine lv_ldc (v := -100001) hx hb hown (hts _ k_i_L_48) (z_d hL_drops_0 5 rfl) ?_
        subst hQ
        exact z_lret hx hb hr hlocks hP hS (Nat.le_of_ble_eq_true rfl) (Nat.le_of_ble_eq_true rfl) (z_d hL_drops_0 6 rfl)
      · cases hk
      · cases hE
        obtain rfl := Option.some.inj hk
        refine vx_catch (own := RL) (name := "java/lang/IllegalStateException") hown [⟨0, 5, 6, 101⟩] ⟨0, 5, 10, 106⟩ [] htab (fun z hz => by rcases List.mem_singleton.mp hz with rfl; exact Or.inr ⟨by decide, "java/lang/IndexOutOfBoundsException", hts _ k_c_L_101, hN ("java/lang/IllegalStateException", "java/lang/IndexOutOfBoundsException") (by decide)⟩) (by decide) (by decide) (hts _ k_c_L_106) (zTh.cast hT (q := (89, 93, "java/lang/IllegalStateException")) (by decide)) hce hcv hcl ?_
        refine lv_astore_n (lv' := [(2, .ref q9), (0, .ref mm), (1, .int p1)]) hx hb (z_d hL_drops_0 7 rfl) rfl hl (by decide) rfl (fun ls hl => ?_)
        refine lv_ldc (v := -100003) hx hb hown (hts _ k_i_L_57) (z_d hL_drops_0 8 rfl) ?_
        subst hQ
        exact z_lret hx hb hr hlocks hP hS (Nat.le_of_ble_eq_true rfl) (Nat.le_of_ble_eq_true rfl) (z_d hL_drops_0 9 rfl)
      · cases hk
  · rcases rr with v | n
    · cases hv
      obtain rfl := Option.some.inj hk
      subst hQ
      exact z_lret hx hb hr hlocks hP hS (Nat.le_of_ble_eq_true rfl) (Nat.le_of_ble_eq_true rfl) (z_d hL_drops_0 3 rfl)
    · rcases n with _ | _ | n <;> cases hv
def L_lengths (x : t_SP) (p1 : Int32) (p2 : Int32) : Option (Int32 × t_SP) := (X6_setLength x.1 x.2.1 x.2.2.1 x.2.2.2.1 x.2.2.2.2.1 x.2.2.2.2.2.1 x.2.2.2.2.2.2.1 x.2.2.2.2.2.2.2.1 x.2.2.2.2.2.2.2.2 p1 p2).bind fun R => (kcode [(0, -100001), (1, -100002)] R.1).bind fun k => some (k, (x.1, R.2.1, R.2.2.1, R.2.2.2.1, x.2.2.2.2.1, R.2.2.2.2.1, x.2.2.2.2.2.2.1, R.2.2.2.2.2, x.2.2.2.2.2.2.2.2))
theorem k_m_L_112 : Cond.methodLink RL 112 yX6_setLength ∈ zG := zG_at 625 (by decide +kernel) (by decide +kernel)
theorem vt_X6_setLength : zVt yX6_setLength cX6_setLength 3 (some .int) 2 := ⟨zG_at 626 (by decide +kernel) (by decide +kernel), zG_at 627 (by decide +kernel) (by decide +kernel), zG_at 26 (by decide +kernel) (by decide +kernel), zG_at 628 (by decide +kernel) (by decide +kernel), by decide +kernel⟩
def rm_L_lengths : Room := { frames := 7, cells := 1, slots := 6, locals := 161 }
set_option maxRecDepth 100000 in
set_option maxHeartbeats 4000000 in
theorem c_L_lengths (l : Launch) (hlt : l.stackTraces = false) (Z : zZ) (sa : Nat → Nat) (mm : Nat) (u : t_SPa) (x : t_SP) (p1 : Int32) (p2 : Int32) (R : Int32 × t_SP) (hF0 : L_lengths x p1 p2 = some R) : zLM l yL_lengths (zwL yL_lengths cL_lengths 4 [(0, 6, 7, 101), (0, 6, 11, 103)]) rm_L_lengths Z sa [.ref mm, .int p1, .int p2] (List.flatten [w_SP Z mm u x]) (List.flatten [w_SP Z mm u R.2]) (some (.int R.1)) := by
  unfold L_lengths at hF0
  refine z_bnd hF0 (fun R9 hF hF1 => ?_)
  refine z_bnd hF1 (fun k hk hF2 => ?_)
  obtain rfl := Option.some.inj hF2
  obtain ⟨rr, R2⟩ := R9
  have hk : kcode [(0, -100001), (1, -100002)] rr = some k := hk
  refine zLM_of (by decide) (Nat.le_of_ble_eq_true rfl) (fun p e s m below meth c hx hb hr hml hown hts hlocks hK hT hN htab A hA Q hQ ls hl hP hD hS => ?_)
  subst hA
  have hl : lv_has ls 4 [(0, .ref mm), (1, .int p1), (2, .int p2)] := hl
  have hown : s.vm.findClass RL = some m.cls := hown
  refine lv_aload_n hx hb (z_d hL_lengths_0 0 rfl) rfl (lv_at hl 0 rfl) ?_
  refine lv_iload_n hx hb (z_d hL_lengths_0 1 rfl) rfl (lv_at hl 1 rfl) ?_
  refine lv_iload_n hx hb (z_d hL_lengths_0 2 rfl) rfl (lv_at hl 2 rfl) ?_
  refine z_xm (L := [w_SP Z mm u x]) (L' := [w_SP Z mm u (x.1, R2.1, R2.2.1, R2.2.2.1, x.2.2.2.2.1, R2.2.2.2.1, x.2.2.2.2.2.2.1, R2.2.2.2.2, x.2.2.2.2.2.2.2.2)]) (z_rX (As := [.int p1, .int p2]) (rest := []) hx hb hml hown hts vt_X6_setLength (c_X6_setLength l hlt Z sa mm u.1 u.2.1 u.2.2.1 u.2.2.2.1 u.2.2.2.2.1 u.2.2.2.2.2.1 u.2.2.2.2.2.2.1 u.2.2.2.2.2.2.2.1 u.2.2.2.2.2.2.2.2.1 u.2.2.2.2.2.2.2.2.2.1 u.2.2.2.2.2.2.2.2.2.2 x.1 x.2.1 x.2.2.1 x.2.2.2.1 x.2.2.2.2.1 x.2.2.2.2.2.1 x.2.2.2.2.2.2.1 x.2.2.2.2.2.2.2.1 x.2.2.2.2.2.2.2.2 p1 p2 _ hF) rfl rfl ⟨Nat.le_of_ble_eq_true rfl, Nat.le_of_ble_eq_true rfl⟩ k_m_L_112 hK (zTh.narrow hT (z_zA (zD_one hD 0 _ rfl))) (zP_reg hP 0 rfl) (zD_one hD 0 _ rfl) (z_recv (q := (RX6, TX6, 9)) (ci := 6) (q0 := 0) hK (zP_reg hP 0 rfl) rfl rfl) rfl hl.1 (Nat.le_of_ble_eq_true rfl) (z_d hL_lengths_0 3 rfl) ⟨Nat.le_of_ble_eq_true rfl, Nat.le_of_ble_eq_true rfl⟩) hS hP hD 0 rfl rfl (adr_SP _ _ _ _ _) (fun E ce q9 H locs hE hP hD hS hce hcv hcl => ?_) (fun v H locs hv hP hD hS => ?_)
  · rcases rr with v | n
    · cases hE
    · rcases n with _ | _ | _ | n
      · cases hE
        obtain rfl := Option.some.inj hk
        refine vx_catch (own := RL) (name := "java/lang/IndexOutOfBoundsException") hown [] ⟨0, 6, 7, 101⟩ [⟨0, 6, 11, 103⟩] htab (fun z hz => nomatch hz) (by decide) (by decide) (hts _ k_c_L_101) (zTh.cast hT (q := (62, 66, "java/lang/IndexOutOfBoundsException")) (by decide)) hce hcv hcl ?_
        refine lv_astore_n (lv' := [(3, .ref q9), (0, .ref mm), (1, .int p1), (2, .int p2)]) hx hb (z_d hL_lengths_0 5 rfl) rfl hl (by decide) rfl (fun ls hl => ?_)
        refine lv_ldc (v := -100001) hx hb hown (hts _ k_i_L_48) (z_d hL_lengths_0 6 rfl) ?_
        subst hQ
        exact z_lret hx hb hr hlocks hP hS (Nat.le_of_ble_eq_true rfl) (Nat.le_of_ble_eq_true rfl) (z_d hL_lengths_0 7 rfl)
      · cases hE
        obtain rfl := Option.some.inj hk
        refine vx_catch (own := RL) (name := "java/lang/IllegalArgumentException") hown [⟨0, 6, 7, 101⟩] ⟨0, 6, 11, 103⟩ [] htab (fun z hz => by rcases List.mem_singleton.mp hz with rfl; exact Or.inr ⟨by decide, "java/lang/IndexOutOfBoundsException", hts _ k_c_L_101, hN ("java/lang/IllegalArgumentException", "java/lang/IndexOutOfBoundsException") (by decide)⟩) (by decide) (by decide) (hts _ k_c_L_103) (zTh.cast hT (q := (80, 84, "java/lang/IllegalArgumentException")) (by decide)) hce hcv hcl ?_
        refine lv_astore_n (lv' := [(3, .ref q9), (0, .ref mm), (1, .int p1), (2, .int p2)]) hx hb (z_d hL_lengths_0 8 rfl) rfl hl (by decide) rfl (fun ls hl => ?_)
        refine lv_ldc (v := -100002) hx hb hown (hts _ k_i_L_105) (z_d hL_lengths_0 9 rfl) ?_
        subst hQ
        exact z_lret hx hb hr hlocks hP hS (Nat.le_of_ble_eq_true rfl) (Nat.le_of_ble_eq_true rfl) (z_d hL_lengths_0 10 rfl)
      · cases hk
      · cases hk
  · rcases rr with v | n
    · cases hv
      obtain rfl := Option.some.inj hk
      subst hQ
      exact z_lret hx hb hr hlocks hP hS (Nat.le_of_ble_eq_true rfl) (Nat.le_of_ble_eq_true rfl) (z_d hL_lengths_0 4 rfl)
    · rcases n with _ | _ | n <;> cases hv
def L_sizes (x : t_SP) (p1 : Int32) : Option (Int32 × t_SP) := (X6_setPage x.1 x.2.1 x.2.2.1 x.2.2.2.1 x.2.2.2.2.1 x.2.2.2.2.2.1 x.2.2.2.2.2.2.1 x.2.2.2.2.2.2.2.1 x.2.2.2.2.2.2.2.2 p1).bind fun R => (kcode [(1, -100002)] R.1).bind fun k => some (k, (x.1, R.2.1, R.2.2.1, R.2.2.2.1, x.2.2.2.2.1, R.2.2.2.2.1, x.2.2.2.2.2.2.1, R.2.2.2.2.2, x.2.2.2.2.2.2.2.2))
theorem k_m_L_115 : Cond.methodLink RL 115 yX6_setPage ∈ zG := zG_at 638 (by decide +kernel) (by decide +kernel)
theorem vt_X6_setPage : zVt yX6_setPage cX6_setPage 3 (some .int) 1 := ⟨zG_at 639 (by decide +kernel) (by decide +kernel), zG_at 640 (by decide +kernel) (by decide +kernel), zG_at 26 (by decide +kernel) (by decide +kernel), zG_at 641 (by decide +kernel) (by decide +kernel), by decide +kernel⟩
def rm_L_sizes : Room := { frames := 7, cells := 1, slots := 6, locals := 161 }
set_option maxRecDepth 100000 in
set_option maxHeartbeats 4000000 in
theorem c_L_sizes (l : Launch) (hlt : l.stackTraces = false) (Z : zZ) (sa : Nat → Nat) (mm : Nat) (u : t_SPa) (x : t_SP) (p1 : Int32) (R : Int32 × t_SP) (hF0 : L_sizes x p1 = some R) : zLM l yL_sizes (zwL yL_sizes cL_sizes 3 [(0, 5, 6, 103)]) rm_L_sizes Z sa [.ref mm, .int p1] (List.flatten [w_SP Z mm u x]) (List.flatten [w_SP Z mm u R.2]) (some (.int R.1)) := by
  unfold L_sizes at hF0
  refine z_bnd hF0 (fun R9 hF hF1 => ?_)
  refine z_bnd hF1 (fun k hk hF2 => ?_)
  obtain rfl := Option.some.inj hF2
  obtain ⟨rr, R2⟩ := R9
  have hk : kcode [(1, -100002)] rr = some k := hk
  refine zLM_of (by decide) (Nat.le_of_ble_eq_true rfl) (fun p e s m below meth c hx hb hr hml hown hts hlocks hK hT hN htab A hA Q hQ ls hl hP hD hS => ?_)
  subst hA
  have hl : lv_has ls 3 [(0, .ref mm), (1, .int p1)] := hl
  have hown : s.vm.findClass RL = some m.cls := hown
  refine lv_aload_n hx hb (z_d hL_sizes_0 0 rfl) rfl (lv_at hl 0 rfl) ?_
  refine lv_iload_n hx hb (z_d hL_sizes_0 1 rfl) rfl (lv_at hl 1 rfl) ?_
  refine z_xm (L := [w_SP Z mm u x]) (L' := [w_SP Z mm u (x.1, R2.1, R2.2.1, R2.2.2.1, x.2.2.2.2.1, R2.2.2.2.1, x.2.2.2.2.2.2.1, R2.2.2.2.2, x.2.2.2.2.2.2.2.2)]) (z_rX (As := [.int p1]) (rest := []) hx hb hml hown hts vt_X6_setPage (c_X6_setPage l hlt Z sa mm u.1 u.2.1 u.2.2.1 u.2.2.2.1 u.2.2.2.2.1 u.2.2.2.2.2.1 u.2.2.2.2.2.2.1 u.2.2.2.2.2.2.2.1 u.2.2.2.2.2.2.2.2.1 u.2.2.2.2.2.2.2.2.2.1 u.2.2.2.2.2.2.2.2.2.2 x.1 x.2.1 x.2.2.1 x.2.2.2.1 x.2.2.2.2.1 x.2.2.2.2.2.1 x.2.2.2.2.2.2.1 x.2.2.2.2.2.2.2.1 x.2.2.2.2.2.2.2.2 p1 _ hF) rfl rfl ⟨Nat.le_of_ble_eq_true rfl, Nat.le_of_ble_eq_true rfl⟩ k_m_L_115 hK (zTh.narrow hT (z_zA (zD_one hD 0 _ rfl))) (zP_reg hP 0 rfl) (zD_one hD 0 _ rfl) (z_recv (q := (RX6, TX6, 9)) (ci := 6) (q0 := 0) hK (zP_reg hP 0 rfl) rfl rfl) rfl hl.1 (Nat.le_of_ble_eq_true rfl) (z_d hL_sizes_0 2 rfl) ⟨Nat.le_of_ble_eq_true rfl, Nat.le_of_ble_eq_true rfl⟩) hS hP hD 0 rfl rfl (adr_SP _ _ _ _ _) (fun E ce q9 H locs hE hP hD hS hce hcv hcl => ?_) (fun v H locs hv hP hD hS => ?_)
  · rcases rr with v | n
    · cases hE
    · rcases n with _ | _ | _ | n
      · cases hk
      · cases hE
        obtain rfl := Option.some.inj hk
        refine vx_catch (own := RL) (name := "java/lang/IllegalArgumentException") hown [] ⟨0, 5, 6, 103⟩ [] htab (fun z hz => nomatch hz) (by decide) (by decide) (hts _ k_c_L_103) (zTh.cast hT (q := (80, 84, "java/lang/IllegalArgumentException")) (by decide)) hce hcv hcl ?_
        refine lv_astore_n (lv' := [(2, .ref q9), (0, .ref mm), (1, .int p1)]) hx hb (z_d hL_sizes_0 4 rfl) rfl hl (by decide) rfl (fun ls hl => ?_)
        refine lv_ldc (v := -100002) hx hb hown (hts _ k_i_L_105) (z_d hL_sizes_0 5 rfl) ?_
        subst hQ
        exact z_lret hx hb hr hlocks hP hS (Nat.le_of_ble_eq_true rfl) (Nat.le_of_ble_eq_true rfl) (z_d hL_sizes_0 6 rfl)
      · cases hk
      · cases hk
  · rcases rr with v | n
    · cases hv
      obtain rfl := Option.some.inj hk
      subst hQ
      exact z_lret hx hb hr hlocks hP hS (Nat.le_of_ble_eq_true rfl) (Nat.le_of_ble_eq_true rfl) (z_d hL_sizes_0 3 rfl)
    · rcases n with _ | _ | n <;> cases hv
def L_omits (x : t_SP) (p1 : Int32) : Option (Int32 × t_SP) := (X6_omit x.1 x.2.1 x.2.2.1 x.2.2.2.1 x.2.2.2.2.1 x.2.2.2.2.2.1 x.2.2.2.2.2.2.1 x.2.2.2.2.2.2.2.1 x.2.2.2.2.2.2.2.2 p1).bind fun R => (kcode [(0, -100001), (2, -100003)] R.1).bind fun k => some (k, (x.1, R.2.1, R.2.2.1, R.2.2.2.1, x.2.2.2.2.1, R.2.2.2.2.1, x.2.2.2.2.2.2.1, R.2.2.2.2.2, x.2.2.2.2.2.2.2.2))
theorem k_m_L_118 : Cond.methodLink RL 118 yX6_omit ∈ zG := zG_at 661 (by decide +kernel) (by decide +kernel)
theorem vt_X6_omit : zVt yX6_omit cX6_omit 5 (some .int) 1 := ⟨zG_at 662 (by decide +kernel) (by decide +kernel), zG_at 663 (by decide +kernel) (by decide +kernel), zG_at 26 (by decide +kernel) (by decide +kernel), zG_at 664 (by decide +kernel) (by decide +kernel), by decide +kernel⟩
def rm_L_omits : Room := { frames := 7, cells := 1, slots := 6, locals := 163 }
set_option maxRecDepth 100000 in
set_option maxHeartbeats 4000000 in
theorem c_L_omits (l : Launch) (hlt : l.stackTraces = false) (Z : zZ) (sa : Nat → Nat) (mm : Nat) (u : t_SPa) (x : t_SP) (p1 : Int32) (R : Int32 × t_SP) (hF0 : L_omits x p1 = some R) : zLM l yL_omits (zwL yL_omits cL_omits 3 [(0, 5, 6, 101), (0, 5, 10, 106)]) rm_L_omits Z sa [.ref mm, .int p1] (List.flatten [w_SP Z mm u x]) (List.flatten [w_SP Z mm u R.2]) (some (.int R.1)) := by
  unfold L_omits at hF0
  refine z_bnd hF0 (fun R9 hF hF1 => ?_)
  refine z_bnd hF1 (fun k hk hF2 => ?_)
  obtain rfl := Option.some.inj hF2
  obtain ⟨rr, R2⟩ := R9
  have hk : kcode [(0, -100001), (2, -100003)] rr = some k := hk
  refine zLM_of (by decide) (Nat.le_of_ble_eq_true rfl) (fun p e s m below meth c hx hb hr hml hown hts hlocks hK hT hN htab A hA Q hQ ls hl hP hD hS => ?_)
  subst hA
  have hl : lv_has ls 3 [(0, .ref mm), (1, .int p1)] := hl
  have hown : s.vm.findClass RL = some m.cls := hown
  refine lv_aload_n hx hb (z_d hL_omits_0 0 rfl) rfl (lv_at hl 0 rfl) ?_
  refine lv_iload_n hx hb (z_d hL_omits_0 1 rfl) rfl (lv_at hl 1 rfl) ?_
  refine z_xm (L := [w_SP Z mm u x]) (L' := [w_SP Z mm u (x.1, R2.1, R2.2.1, R2.2.2.1, x.2.2.2.2.1, R2.2.2.2.1, x.2.2.2.2.2.2.1, R2.2.2.2.2, x.2.2.2.2.2.2.2.2)]) (z_rX (As := [.int p1]) (rest := []) hx hb hml hown hts vt_X6_omit (c_X6_omit l hlt Z sa mm u.1 u.2.1 u.2.2.1 u.2.2.2.1 u.2.2.2.2.1 u.2.2.2.2.2.1 u.2.2.2.2.2.2.1 u.2.2.2.2.2.2.2.1 u.2.2.2.2.2.2.2.2.1 u.2.2.2.2.2.2.2.2.2.1 u.2.2.2.2.2.2.2.2.2.2 x.1 x.2.1 x.2.2.1 x.2.2.2.1 x.2.2.2.2.1 x.2.2.2.2.2.1 x.2.2.2.2.2.2.1 x.2.2.2.2.2.2.2.1 x.2.2.2.2.2.2.2.2 p1 _ hF) rfl rfl ⟨Nat.le_of_ble_eq_true rfl, Nat.le_of_ble_eq_true rfl⟩ k_m_L_118 hK (zTh.narrow hT (z_zA (zD_one hD 0 _ rfl))) (zP_reg hP 0 rfl) (zD_one hD 0 _ rfl) (z_recv (q := (RX6, TX6, 9)) (ci := 6) (q0 := 0) hK (zP_reg hP 0 rfl) rfl rfl) rfl hl.1 (Nat.le_of_ble_eq_true rfl) (z_d hL_omits_0 2 rfl) ⟨Nat.le_of_ble_eq_true rfl, Nat.le_of_ble_eq_true rfl⟩) hS hP hD 0 rfl rfl (adr_SP _ _ _ _ _) (fun E ce q9 H locs hE hP hD hS hce hcv hcl => ?_) (fun v H locs hv hP hD hS => ?_)
  · rcases rr with v | n
    · cases hE
    · rcases n with _ | _ | _ | n
      · cases hE
        obtain rfl := Option.some.inj hk
        refine vx_catch (own := RL) (name := "java/lang/IndexOutOfBoundsException") hown [] ⟨0, 5, 6, 101⟩ [⟨0, 5, 10, 106⟩] htab (fun z hz => nomatch hz) (by decide) (by decide) (hts _ k_c_L_101) (zTh.cast hT (q := (62, 66, "java/lang/IndexOutOfBoundsException")) (by decide)) hce hcv hcl ?_
        refine lv_astore_n (lv' := [(2, .ref q9), (0, .ref mm), (1, .int p1)]) hx hb (z_d hL_omits_0 4 rfl) rfl hl (by decide) rfl (fun ls hl => ?_)
        refine lv_ldc (v := -100001) hx hb hown (hts _ k_i_L_48) (z_d hL_omits_0 5 rfl) ?_
        subst hQ
        exact z_lret hx hb hr hlocks hP hS (Nat.le_of_ble_eq_true rfl) (Nat.le_of_ble_eq_true rfl) (z_d hL_omits_0 6 rfl)
      · cases hk
      · cases hE
        obtain rfl := Option.some.inj hk
        refine vx_catch (own := RL) (name := "java/lang/IllegalStateException") hown [⟨0, 5, 6, 101⟩] ⟨0, 5, 10, 106⟩ [] htab (fun z hz => by rcases List.mem_singleton.mp hz with rfl; exact Or.inr ⟨by decide, "java/lang/IndexOutOfBoundsException", hts _ k_c_L_101, hN ("java/lang/IllegalStateException", "java/lang/IndexOutOfBoundsException") (by decide)⟩) (by decide) (by decide) (hts _ k_c_L_106) (zTh.cast hT (q := (89, 93, "java/lang/IllegalStateException")) (by decide)) hce hcv hcl ?_
        refine lv_astore_n (lv' := [(2, .ref q9), (0, .ref mm), (1, .int p1)]) hx hb (z_d hL_omits_0 7 rfl) rfl hl (by decide) rfl (fun ls hl => ?_)
        refine lv_ldc (v := -100003) hx hb hown (hts _ k_i_L_57) (z_d hL_omits_0 8 rfl) ?_
        subst hQ
        exact z_lret hx hb hr hlocks hP hS (Nat.le_of_ble_eq_true rfl) (Nat.le_of_ble_eq_true rfl) (z_d hL_omits_0 9 rfl)
      · cases hk
  · rcases rr with v | n
    · cases hv
      obtain rfl := Option.some.inj hk
      subst hQ
      exact z_lret hx hb hr hlocks hP hS (Nat.le_of_ble_eq_true rfl) (Nat.le_of_ble_eq_true rfl) (z_d hL_omits_0 3 rfl)
    · rcases n with _ | _ | n <;> cases hv
def L_elementOf (x : t_SP) (p1 : Int32) (p2 : Int32) : Option Int32 := (X6_element x.1 x.2.1 x.2.2.1 x.2.2.2.1 x.2.2.2.2.1 x.2.2.2.2.2.1 x.2.2.2.2.2.2.1 x.2.2.2.2.2.2.2.1 x.2.2.2.2.2.2.2.2 p1 p2).bind fun R => kcode [(0, -100001), (1, -100002)] R
theorem k_m_L_124 : Cond.methodLink RL 124 yX6_element ∈ zG := zG_at 696 (by decide +kernel) (by decide +kernel)
theorem vt_X6_element : zVt yX6_element cX6_element 3 (some .int) 2 := ⟨zG_at 697 (by decide +kernel) (by decide +kernel), zG_at 698 (by decide +kernel) (by decide +kernel), zG_at 26 (by decide +kernel) (by decide +kernel), zG_at 699 (by decide +kernel) (by decide +kernel), by decide +kernel⟩
def rm_L_elementOf : Room := { frames := 7, cells := 1, slots := 6, locals := 109 }
set_option maxRecDepth 100000 in
set_option maxHeartbeats 4000000 in
theorem c_L_elementOf (l : Launch) (hlt : l.stackTraces = false) (Z : zZ) (sa : Nat → Nat) (mm : Nat) (u : t_SPa) (x : t_SP) (p1 : Int32) (p2 : Int32) (R : Int32) (hF0 : L_elementOf x p1 p2 = some R) : zLM l yL_elementOf (zwL yL_elementOf cL_elementOf 4 [(0, 6, 7, 101), (0, 6, 11, 103)]) rm_L_elementOf Z sa [.ref mm, .int p1, .int p2] (List.flatten [w_SP Z mm u x]) (List.flatten [w_SP Z mm u x]) (some (.int R)) := by
  unfold L_elementOf at hF0
  refine z_bnd hF0 (fun R9 hF hF1 => ?_)
  obtain ⟨rr, hrr⟩ : ∃ rr, rr = R9 := ⟨_, rfl⟩
  subst hrr
  obtain ⟨k, hk0⟩ : ∃ k, k = R := ⟨_, rfl⟩
  subst hk0
  have hk : kcode [(0, -100001), (1, -100002)] rr = some k := hF1
  refine zLM_of (by decide) (Nat.le_of_ble_eq_true rfl) (fun p e s m below meth c hx hb hr hml hown hts hlocks hK hT hN htab A hA Q hQ ls hl hP hD hS => ?_)
  subst hA
  have hl : lv_has ls 4 [(0, .ref mm), (1, .int p1), (2, .int p2)] := hl
  have hown : s.vm.findClass RL = some m.cls := hown
  refine lv_aload_n hx hb (z_d hL_elementOf_0 0 rfl) rfl (lv_at hl 0 rfl) ?_
  refine lv_iload_n hx hb (z_d hL_elementOf_0 1 rfl) rfl (lv_at hl 1 rfl) ?_
  refine lv_iload_n hx hb (z_d hL_elementOf_0 2 rfl) rfl (lv_at hl 2 rfl) ?_
  refine z_xm (L := [w_SP Z mm u x]) (L' := [w_SP Z mm u x]) (z_rX (As := [.int p1, .int p2]) (rest := []) hx hb hml hown hts vt_X6_element (c_X6_element l hlt Z sa mm u.1 u.2.1 u.2.2.1 u.2.2.2.1 u.2.2.2.2.1 u.2.2.2.2.2.1 u.2.2.2.2.2.2.1 u.2.2.2.2.2.2.2.1 u.2.2.2.2.2.2.2.2.1 u.2.2.2.2.2.2.2.2.2.1 u.2.2.2.2.2.2.2.2.2.2 x.1 x.2.1 x.2.2.1 x.2.2.2.1 x.2.2.2.2.1 x.2.2.2.2.2.1 x.2.2.2.2.2.2.1 x.2.2.2.2.2.2.2.1 x.2.2.2.2.2.2.2.2 p1 p2 _ hF) rfl rfl ⟨Nat.le_of_ble_eq_true rfl, Nat.le_of_ble_eq_true rfl⟩ k_m_L_124 hK (zTh.narrow hT (z_zA (zD_one hD 0 _ rfl))) (zP_reg hP 0 rfl) (zD_one hD 0 _ rfl) (z_recv (q := (RX6, TX6, 9)) (ci := 6) (q0 := 0) hK (zP_reg hP 0 rfl) rfl rfl) rfl hl.1 (Nat.le_of_ble_eq_true rfl) (z_d hL_elementOf_0 3 rfl) ⟨Nat.le_of_ble_eq_true rfl, Nat.le_of_ble_eq_true rfl⟩) hS hP hD 0 rfl rfl (adr_SP _ _ _ _ _) (fun E ce q9 H locs hE hP hD hS hce hcv hcl => ?_) (fun v H locs hv hP hD hS => ?_)
  · rcases rr with v | n
    · cases hE
    · rcases n with _ | _ | _ | n
      · cases hE
        obtain rfl := Option.some.inj hk
        refine vx_catch (own := RL) (name := "java/lang/IndexOutOfBoundsException") hown [] ⟨0, 6, 7, 101⟩ [⟨0, 6, 11, 103⟩] htab (fun z hz => nomatch hz) (by decide) (by decide) (hts _ k_c_L_101) (zTh.cast hT (q := (62, 66, "java/lang/IndexOutOfBoundsException")) (by decide)) hce hcv hcl ?_
        refine lv_astore_n (lv' := [(3, .ref q9), (0, .ref mm), (1, .int p1), (2, .int p2)]) hx hb (z_d hL_elementOf_0 5 rfl) rfl hl (by decide) rfl (fun ls hl => ?_)
        refine lv_ldc (v := -100001) hx hb hown (hts _ k_i_L_48) (z_d hL_elementOf_0 6 rfl) ?_
        subst hQ
        exact z_lret hx hb hr hlocks hP hS (Nat.le_of_ble_eq_true rfl) (Nat.le_of_ble_eq_true rfl) (z_d hL_elementOf_0 7 rfl)
      · cases hE
        obtain rfl := Option.some.inj hk
        refine vx_catch (own := RL) (name := "java/lang/IllegalArgumentException") hown [⟨0, 6, 7, 101⟩] ⟨0, 6, 11, 103⟩ [] htab (fun z hz => by rcases List.mem_singleton.mp hz with rfl; exact Or.inr ⟨by decide, "java/lang/IndexOutOfBoundsException", hts _ k_c_L_101, hN ("java/lang/IllegalArgumentException", "java/lang/IndexOutOfBoundsException") (by decide)⟩) (by decide) (by decide) (hts _ k_c_L_103) (zTh.cast hT (q := (80, 84, "java/lang/IllegalArgumentException")) (by decide)) hce hcv hcl ?_
        refine lv_astore_n (lv' := [(3, .ref q9), (0, .ref mm), (1, .int p1), (2, .int p2)]) hx hb (z_d hL_elementOf_0 8 rfl) rfl hl (by decide) rfl (fun ls hl => ?_)
        refine lv_ldc (v := -100002) hx hb hown (hts _ k_i_L_105) (z_d hL_elementOf_0 9 rfl) ?_
        subst hQ
        exact z_lret hx hb hr hlocks hP hS (Nat.le_of_ble_eq_true rfl) (Nat.le_of_ble_eq_true rfl) (z_d hL_elementOf_0 10 rfl)
      · cases hk
      · cases hk
  · rcases rr with v | n
    · cases hv
      obtain rfl := Option.some.inj hk
      subst hQ
      exact z_lret hx hb hr hlocks hP hS (Nat.le_of_ble_eq_true rfl) (Nat.le_of_ble_eq_true rfl) (z_d hL_elementOf_0 4 rfl)
    · rcases n with _ | _ | n <;> cases hv
def L_sceneOf (x : t_SP) (p1 : Int32) (p2 : Int32) : Option Int32 := (X6_scene x.1 x.2.1 x.2.2.1 x.2.2.2.1 x.2.2.2.2.1 x.2.2.2.2.2.1 x.2.2.2.2.2.2.1 x.2.2.2.2.2.2.2.1 x.2.2.2.2.2.2.2.2 p1 p2).bind fun R => kcode [(0, -100001), (1, -100002)] R
theorem k_m_L_127 : Cond.methodLink RL 127 yX6_scene ∈ zG := zG_at 709 (by decide +kernel) (by decide +kernel)
theorem vt_X6_scene : zVt yX6_scene cX6_scene 3 (some .int) 2 := ⟨zG_at 710 (by decide +kernel) (by decide +kernel), zG_at 711 (by decide +kernel) (by decide +kernel), zG_at 26 (by decide +kernel) (by decide +kernel), zG_at 712 (by decide +kernel) (by decide +kernel), by decide +kernel⟩
def rm_L_sceneOf : Room := { frames := 7, cells := 1, slots := 6, locals := 104 }
set_option maxRecDepth 100000 in
set_option maxHeartbeats 4000000 in
theorem c_L_sceneOf (l : Launch) (hlt : l.stackTraces = false) (Z : zZ) (sa : Nat → Nat) (mm : Nat) (u : t_SPa) (x : t_SP) (p1 : Int32) (p2 : Int32) (R : Int32) (hF0 : L_sceneOf x p1 p2 = some R) : zLM l yL_sceneOf (zwL yL_sceneOf cL_sceneOf 4 [(0, 6, 7, 101), (0, 6, 11, 103)]) rm_L_sceneOf Z sa [.ref mm, .int p1, .int p2] (List.flatten [w_SP Z mm u x]) (List.flatten [w_SP Z mm u x]) (some (.int R)) := by
  unfold L_sceneOf at hF0
  refine z_bnd hF0 (fun R9 hF hF1 => ?_)
  obtain ⟨rr, hrr⟩ : ∃ rr, rr = R9 := ⟨_, rfl⟩
  subst hrr
  obtain ⟨k, hk0⟩ : ∃ k, k = R := ⟨_, rfl⟩
  subst hk0
  have hk : kcode [(0, -100001), (1, -100002)] rr = some k := hF1
  refine zLM_of (by decide) (Nat.le_of_ble_eq_true rfl) (fun p e s m below meth c hx hb hr hml hown hts hlocks hK hT hN htab A hA Q hQ ls hl hP hD hS => ?_)
  subst hA
  have hl : lv_has ls 4 [(0, .ref mm), (1, .int p1), (2, .int p2)] := hl
  have hown : s.vm.findClass RL = some m.cls := hown
  refine lv_aload_n hx hb (z_d hL_sceneOf_0 0 rfl) rfl (lv_at hl 0 rfl) ?_
  refine lv_iload_n hx hb (z_d hL_sceneOf_0 1 rfl) rfl (lv_at hl 1 rfl) ?_
  refine lv_iload_n hx hb (z_d hL_sceneOf_0 2 rfl) rfl (lv_at hl 2 rfl) ?_
  refine z_xm (L := [w_SP Z mm u x]) (L' := [w_SP Z mm u x]) (z_rX (As := [.int p1, .int p2]) (rest := []) hx hb hml hown hts vt_X6_scene (c_X6_scene l hlt Z sa mm u.1 u.2.1 u.2.2.1 u.2.2.2.1 u.2.2.2.2.1 u.2.2.2.2.2.1 u.2.2.2.2.2.2.1 u.2.2.2.2.2.2.2.1 u.2.2.2.2.2.2.2.2.1 u.2.2.2.2.2.2.2.2.2.1 u.2.2.2.2.2.2.2.2.2.2 x.1 x.2.1 x.2.2.1 x.2.2.2.1 x.2.2.2.2.1 x.2.2.2.2.2.1 x.2.2.2.2.2.2.1 x.2.2.2.2.2.2.2.1 x.2.2.2.2.2.2.2.2 p1 p2 _ hF) rfl rfl ⟨Nat.le_of_ble_eq_true rfl, Nat.le_of_ble_eq_true rfl⟩ k_m_L_127 hK (zTh.narrow hT (z_zA (zD_one hD 0 _ rfl))) (zP_reg hP 0 rfl) (zD_one hD 0 _ rfl) (z_recv (q := (RX6, TX6, 9)) (ci := 6) (q0 := 0) hK (zP_reg hP 0 rfl) rfl rfl) rfl hl.1 (Nat.le_of_ble_eq_true rfl) (z_d hL_sceneOf_0 3 rfl) ⟨Nat.le_of_ble_eq_true rfl, Nat.le_of_ble_eq_true rfl⟩) hS hP hD 0 rfl rfl (adr_SP _ _ _ _ _) (fun E ce q9 H locs hE hP hD hS hce hcv hcl => ?_) (fun v H locs hv hP hD hS => ?_)
  · rcases rr with v | n
    · cases hE
    · rcases n with _ | _ | _ | n
      · cases hE
        obtain rfl := Option.some.inj hk
        refine vx_catch (own := RL) (name := "java/lang/IndexOutOfBoundsException") hown [] ⟨0, 6, 7, 101⟩ [⟨0, 6, 11, 103⟩] htab (fun z hz => nomatch hz) (by decide) (by decide) (hts _ k_c_L_101) (zTh.cast hT (q := (62, 66, "java/lang/IndexOutOfBoundsException")) (by decide)) hce hcv hcl ?_
        refine lv_astore_n (lv' := [(3, .ref q9), (0, .ref mm), (1, .int p1), (2, .int p2)]) hx hb (z_d hL_sceneOf_0 5 rfl) rfl hl (by decide) rfl (fun ls hl => ?_)
        refine lv_ldc (v := -100001) hx hb hown (hts _ k_i_L_48) (z_d hL_sceneOf_0 6 rfl) ?_
        subst hQ
        exact z_lret hx hb hr hlocks hP hS (Nat.le_of_ble_eq_true rfl) (Nat.le_of_ble_eq_true rfl) (z_d hL_sceneOf_0 7 rfl)
      · cases hE
        obtain rfl := Option.some.inj hk
        refine vx_catch (own := RL) (name := "java/lang/IllegalArgumentException") hown [⟨0, 6, 7, 101⟩] ⟨0, 6, 11, 103⟩ [] htab (fun z hz => by rcases List.mem_singleton.mp hz with rfl; exact Or.inr ⟨by decide, "java/lang/IndexOutOfBoundsException", hts _ k_c_L_101, hN ("java/lang/IllegalArgumentException", "java/lang/IndexOutOfBoundsException") (by decide)⟩) (by decide) (by decide) (hts _ k_c_L_103) (zTh.cast hT (q := (80, 84, "java/lang/IllegalArgumentException")) (by decide)) hce hcv hcl ?_
        refine lv_astore_n (lv' := [(3, .ref q9), (0, .ref mm), (1, .int p1), (2, .int p2)]) hx hb (z_d hL_sceneOf_0 8 rfl) rfl hl (by decide) rfl (fun ls hl => ?_)
        refine lv_ldc (v := -100002) hx hb hown (hts _ k_i_L_105) (z_d hL_sceneOf_0 9 rfl) ?_
        subst hQ
        exact z_lret hx hb hr hlocks hP hS (Nat.le_of_ble_eq_true rfl) (Nat.le_of_ble_eq_true rfl) (z_d hL_sceneOf_0 10 rfl)
      · cases hk
      · cases hk
  · rcases rr with v | n
    · cases hv
      obtain rfl := Option.some.inj hk
      subst hQ
      exact z_lret hx hb hr hlocks hP hS (Nat.le_of_ble_eq_true rfl) (Nat.le_of_ble_eq_true rfl) (z_d hL_sceneOf_0 4 rfl)
    · rcases n with _ | _ | n <;> cases hv
def L_namesBy (x : t_SP) (p1 : Int32) (p2 : Int32) : Option Int32 := (X6_names x.1 x.2.1 x.2.2.1 x.2.2.2.1 x.2.2.2.2.1 x.2.2.2.2.2.1 x.2.2.2.2.2.2.1 x.2.2.2.2.2.2.2.1 x.2.2.2.2.2.2.2.2 p1 p2).bind fun R => kcode [(1, -100002)] R
theorem k_m_L_130 : Cond.methodLink RL 130 yX6_names ∈ zG := zG_at 724 (by decide +kernel) (by decide +kernel)
theorem vt_X6_names : zVt yX6_names cX6_names 5 (some .int) 2 := ⟨zG_at 725 (by decide +kernel) (by decide +kernel), zG_at 726 (by decide +kernel) (by decide +kernel), zG_at 26 (by decide +kernel) (by decide +kernel), zG_at 727 (by decide +kernel) (by decide +kernel), by decide +kernel⟩
def rm_L_namesBy : Room := { frames := 7, cells := 1, slots := 6, locals := 106 }
set_option maxRecDepth 100000 in
set_option maxHeartbeats 4000000 in
theorem c_L_namesBy (l : Launch) (hlt : l.stackTraces = false) (Z : zZ) (sa : Nat → Nat) (mm : Nat) (u : t_SPa) (x : t_SP) (p1 : Int32) (p2 : Int32) (R : Int32) (hF0 : L_namesBy x p1 p2 = some R) : zLM l yL_namesBy (zwL yL_namesBy cL_namesBy 4 [(0, 6, 7, 103)]) rm_L_namesBy Z sa [.ref mm, .int p1, .int p2] (List.flatten [w_SP Z mm u x]) (List.flatten [w_SP Z mm u x]) (some (.int R)) := by
  unfold L_namesBy at hF0
  refine z_bnd hF0 (fun R9 hF hF1 => ?_)
  obtain ⟨rr, hrr⟩ : ∃ rr, rr = R9 := ⟨_, rfl⟩
  subst hrr
  obtain ⟨k, hk0⟩ : ∃ k, k = R := ⟨_, rfl⟩
  subst hk0
  have hk : kcode [(1, -100002)] rr = some k := hF1
  refine zLM_of (by decide) (Nat.le_of_ble_eq_true rfl) (fun p e s m below meth c hx hb hr hml hown hts hlocks hK hT hN htab A hA Q hQ ls hl hP hD hS => ?_)
  subst hA
  have hl : lv_has ls 4 [(0, .ref mm), (1, .int p1), (2, .int p2)] := hl
  have hown : s.vm.findClass RL = some m.cls := hown
  refine lv_aload_n hx hb (z_d hL_namesBy_0 0 rfl) rfl (lv_at hl 0 rfl) ?_
  refine lv_iload_n hx hb (z_d hL_namesBy_0 1 rfl) rfl (lv_at hl 1 rfl) ?_
  refine lv_iload_n hx hb (z_d hL_namesBy_0 2 rfl) rfl (lv_at hl 2 rfl) ?_
  refine z_xm (L := [w_SP Z mm u x]) (L' := [w_SP Z mm u x]) (z_rX (As := [.int p1, .int p2]) (rest := []) hx hb hml hown hts vt_X6_names (c_X6_names l hlt Z sa mm u.1 u.2.1 u.2.2.1 u.2.2.2.1 u.2.2.2.2.1 u.2.2.2.2.2.1 u.2.2.2.2.2.2.1 u.2.2.2.2.2.2.2.1 u.2.2.2.2.2.2.2.2.1 u.2.2.2.2.2.2.2.2.2.1 u.2.2.2.2.2.2.2.2.2.2 x.1 x.2.1 x.2.2.1 x.2.2.2.1 x.2.2.2.2.1 x.2.2.2.2.2.1 x.2.2.2.2.2.2.1 x.2.2.2.2.2.2.2.1 x.2.2.2.2.2.2.2.2 p1 p2 _ hF) rfl rfl ⟨Nat.le_of_ble_eq_true rfl, Nat.le_of_ble_eq_true rfl⟩ k_m_L_130 hK (zTh.narrow hT (z_zA (zD_one hD 0 _ rfl))) (zP_reg hP 0 rfl) (zD_one hD 0 _ rfl) (z_recv (q := (RX6, TX6, 9)) (ci := 6) (q0 := 0) hK (zP_reg hP 0 rfl) rfl rfl) rfl hl.1 (Nat.le_of_ble_eq_true rfl) (z_d hL_namesBy_0 3 rfl) ⟨Nat.le_of_ble_eq_true rfl, Nat.le_of_ble_eq_true rfl⟩) hS hP hD 0 rfl rfl (adr_SP _ _ _ _ _) (fun E ce q9 H locs hE hP hD hS hce hcv hcl => ?_) (fun v H locs hv hP hD hS => ?_)
  · rcases rr with v | n
    · cases hE
    · rcases n with _ | _ | _ | n
      · cases hk
      · cases hE
        obtain rfl := Option.some.inj hk
        refine vx_catch (own := RL) (name := "java/lang/IllegalArgumentException") hown [] ⟨0, 6, 7, 103⟩ [] htab (fun z hz => nomatch hz) (by decide) (by decide) (hts _ k_c_L_103) (zTh.cast hT (q := (80, 84, "java/lang/IllegalArgumentException")) (by decide)) hce hcv hcl ?_
        refine lv_astore_n (lv' := [(3, .ref q9), (0, .ref mm), (1, .int p1), (2, .int p2)]) hx hb (z_d hL_namesBy_0 5 rfl) rfl hl (by decide) rfl (fun ls hl => ?_)
        refine lv_ldc (v := -100002) hx hb hown (hts _ k_i_L_105) (z_d hL_namesBy_0 6 rfl) ?_
        subst hQ
        exact z_lret hx hb hr hlocks hP hS (Nat.le_of_ble_eq_true rfl) (Nat.le_of_ble_eq_true rfl) (z_d hL_namesBy_0 7 rfl)
      · cases hk
      · cases hk
  · rcases rr with v | n
    · cases hv
      obtain rfl := Option.some.inj hk
      subst hQ
      exact z_lret hx hb hr hlocks hP hS (Nat.le_of_ble_eq_true rfl) (Nat.le_of_ble_eq_true rfl) (z_d hL_namesBy_0 4 rfl)
    · rcases n with _ | _ | n <;> cases hv
def N_valueOf (x : t_SP) (p1 : Int32) : Option Int32 := X6n_value x.1 x.2.1 x.2.2.1 x.2.2.2.1 x.2.2.2.2.1 x.2.2.2.2.2.1 x.2.2.2.2.2.2.1 x.2.2.2.2.2.2.2.1 x.2.2.2.2.2.2.2.2 p1
theorem k_m_L_121 : Cond.methodLink RL 121 yX6_value ∈ zG := zG_at 735 (by decide +kernel) (by decide +kernel)
theorem vt_X6_value : zVt yX6_value cX6_value 2 (some .int) 1 := ⟨zG_at 736 (by decide +kernel) (by decide +kernel), zG_at 737 (by decide +kernel) (by decide +kernel), zG_at 26 (by decide +kernel) (by decide +kernel), zG_at 738 (by decide +kernel) (by decide +kernel), by decide +kernel⟩
def rm_N_valueOf : Room := { frames := 2, cells := 0, slots := 0, locals := 42 }
set_option maxRecDepth 100000 in
set_option maxHeartbeats 4000000 in
theorem c_N_valueOf (l : Launch) (Z : zZ) (mm : Nat) (u : t_SPa) (x : t_SP) (p1 : Int32) (R : Int32) (hF : N_valueOf x p1 = some R) : zLR l yL_valueOf (zwL yL_valueOf cL_valueOf 3 [(0, 5, 6, 103)]) rm_N_valueOf Z [.ref mm, .int p1] (List.flatten [w_SP Z mm u x]) (some (.int R)) := by
  refine zLR_of (by decide) (Nat.le_of_ble_eq_true rfl) (fun p e s m below meth c hx hb hr hml hown hts hlocks hK Q hQ ls hl hP hS => ?_)
  have hl : lv_has ls 3 [(0, .ref mm), (1, .int p1)] := hl
  have hown : s.vm.findClass RL = some m.cls := hown
  refine lv_aload_n hx hb (z_d hL_valueOf_0 0 rfl) rfl (lv_at hl 0 rfl) ?_
  refine lv_iload_n hx hb (z_d hL_valueOf_0 1 rfl) rfl (lv_at hl 1 rfl) ?_
  refine z_ro_i (z_rV (As := [.int p1]) (rest := []) hx hb hml hown hts vt_X6_value (c_X6n_value l Z mm u.1 u.2.1 u.2.2.1 u.2.2.2.1 u.2.2.2.2.1 u.2.2.2.2.2.1 u.2.2.2.2.2.2.1 u.2.2.2.2.2.2.2.1 u.2.2.2.2.2.2.2.2.1 u.2.2.2.2.2.2.2.2.2.1 u.2.2.2.2.2.2.2.2.2.2 x.1 x.2.1 x.2.2.1 x.2.2.2.1 x.2.2.2.2.1 x.2.2.2.2.2.1 x.2.2.2.2.2.2.1 x.2.2.2.2.2.2.2.1 x.2.2.2.2.2.2.2.2 p1 _ hF) rfl rfl ⟨Nat.le_of_ble_eq_true rfl, Nat.le_of_ble_eq_true rfl⟩ k_m_L_121 zPro_blind (z_recv (q := (RX6, TX6, 9)) (ci := 6) (q0 := 0) hK (zP_reg hP 0 rfl) rfl rfl) (z_prec hK (zP_reg hP 0 rfl)) rfl hl.1 (Nat.le_of_ble_eq_true rfl) (z_d hL_valueOf_0 2 rfl) ⟨Nat.le_of_ble_eq_true rfl, Nat.le_of_ble_eq_true rfl⟩) hS hP (fun H locs hP hS => ?_)
  subst hQ
  exact z_lretR hx hb hr hlocks hS (z_d hL_valueOf_0 3 rfl)
def N_elementOf (x : t_SP) (p1 : Int32) (p2 : Int32) : Option Int32 := X6n_element x.1 x.2.1 x.2.2.1 x.2.2.2.1 x.2.2.2.2.1 x.2.2.2.2.2.1 x.2.2.2.2.2.2.1 x.2.2.2.2.2.2.2.1 x.2.2.2.2.2.2.2.2 p1 p2
def rm_N_elementOf : Room := { frames := 5, cells := 0, slots := 0, locals := 109 }
set_option maxRecDepth 100000 in
set_option maxHeartbeats 4000000 in
theorem c_N_elementOf (l : Launch) (Z : zZ) (mm : Nat) (u : t_SPa) (x : t_SP) (p1 : Int32) (p2 : Int32) (R : Int32) (hF : N_elementOf x p1 p2 = some R) : zLR l yL_elementOf (zwL yL_elementOf cL_elementOf 4 [(0, 6, 7, 101), (0, 6, 11, 103)]) rm_N_elementOf Z [.ref mm, .int p1, .int p2] (List.flatten [w_SP Z mm u x]) (some (.int R)) := by
  refine zLR_of (by decide) (Nat.le_of_ble_eq_true rfl) (fun p e s m below meth c hx hb hr hml hown hts hlocks hK Q hQ ls hl hP hS => ?_)
  have hl : lv_has ls 4 [(0, .ref mm), (1, .int p1), (2, .int p2)] := hl
  have hown : s.vm.findClass RL = some m.cls := hown
  refine lv_aload_n hx hb (z_d hL_elementOf_0 0 rfl) rfl (lv_at hl 0 rfl) ?_
  refine lv_iload_n hx hb (z_d hL_elementOf_0 1 rfl) rfl (lv_at hl 1 rfl) ?_
  refine lv_iload_n hx hb (z_d hL_elementOf_0 2 rfl) rfl (lv_at hl 2 rfl) ?_
  refine z_ro_i (z_rV (As := [.int p1, .int p2]) (rest := []) hx hb hml hown hts vt_X6_element (c_X6n_element l Z mm u.1 u.2.1 u.2.2.1 u.2.2.2.1 u.2.2.2.2.1 u.2.2.2.2.2.1 u.2.2.2.2.2.2.1 u.2.2.2.2.2.2.2.1 u.2.2.2.2.2.2.2.2.1 u.2.2.2.2.2.2.2.2.2.1 u.2.2.2.2.2.2.2.2.2.2 x.1 x.2.1 x.2.2.1 x.2.2.2.1 x.2.2.2.2.1 x.2.2.2.2.2.1 x.2.2.2.2.2.2.1 x.2.2.2.2.2.2.2.1 x.2.2.2.2.2.2.2.2 p1 p2 _ hF) rfl rfl ⟨Nat.le_of_ble_eq_true rfl, Nat.le_of_ble_eq_true rfl⟩ k_m_L_124 zPro_blind (z_recv (q := (RX6, TX6, 9)) (ci := 6) (q0 := 0) hK (zP_reg hP 0 rfl) rfl rfl) (z_prec hK (zP_reg hP 0 rfl)) rfl hl.1 (Nat.le_of_ble_eq_true rfl) (z_d hL_elementOf_0 3 rfl) ⟨Nat.le_of_ble_eq_true rfl, Nat.le_of_ble_eq_true rfl⟩) hS hP (fun H locs hP hS => ?_)
  subst hQ
  exact z_lretR hx hb hr hlocks hS (z_d hL_elementOf_0 4 rfl)
def N_sceneOf (x : t_SP) (p1 : Int32) (p2 : Int32) : Option Int32 := X6n_scene x.1 x.2.1 x.2.2.1 x.2.2.2.1 x.2.2.2.2.1 x.2.2.2.2.2.1 x.2.2.2.2.2.2.1 x.2.2.2.2.2.2.2.1 x.2.2.2.2.2.2.2.2 p1 p2
def rm_N_sceneOf : Room := { frames := 4, cells := 0, slots := 0, locals := 87 }
set_option maxRecDepth 100000 in
set_option maxHeartbeats 4000000 in
theorem c_N_sceneOf (l : Launch) (Z : zZ) (mm : Nat) (u : t_SPa) (x : t_SP) (p1 : Int32) (p2 : Int32) (R : Int32) (hF : N_sceneOf x p1 p2 = some R) : zLR l yL_sceneOf (zwL yL_sceneOf cL_sceneOf 4 [(0, 6, 7, 101), (0, 6, 11, 103)]) rm_N_sceneOf Z [.ref mm, .int p1, .int p2] (List.flatten [w_SP Z mm u x]) (some (.int R)) := by
  refine zLR_of (by decide) (Nat.le_of_ble_eq_true rfl) (fun p e s m below meth c hx hb hr hml hown hts hlocks hK Q hQ ls hl hP hS => ?_)
  have hl : lv_has ls 4 [(0, .ref mm), (1, .int p1), (2, .int p2)] := hl
  have hown : s.vm.findClass RL = some m.cls := hown
  refine lv_aload_n hx hb (z_d hL_sceneOf_0 0 rfl) rfl (lv_at hl 0 rfl) ?_
  refine lv_iload_n hx hb (z_d hL_sceneOf_0 1 rfl) rfl (lv_at hl 1 rfl) ?_
  refine lv_iload_n hx hb (z_d hL_sceneOf_0 2 rfl) rfl (lv_at hl 2 rfl) ?_
  refine z_ro_i (z_rV (As := [.int p1, .int p2]) (rest := []) hx hb hml hown hts vt_X6_scene (c_X6n_scene l Z mm u.1 u.2.1 u.2.2.1 u.2.2.2.1 u.2.2.2.2.1 u.2.2.2.2.2.1 u.2.2.2.2.2.2.1 u.2.2.2.2.2.2.2.1 u.2.2.2.2.2.2.2.2.1 u.2.2.2.2.2.2.2.2.2.1 u.2.2.2.2.2.2.2.2.2.2 x.1 x.2.1 x.2.2.1 x.2.2.2.1 x.2.2.2.2.1 x.2.2.2.2.2.1 x.2.2.2.2.2.2.1 x.2.2.2.2.2.2.2.1 x.2.2.2.2.2.2.2.2 p1 p2 _ hF) rfl rfl ⟨Nat.le_of_ble_eq_true rfl, Nat.le_of_ble_eq_true rfl⟩ k_m_L_127 zPro_blind (z_recv (q := (RX6, TX6, 9)) (ci := 6) (q0 := 0) hK (zP_reg hP 0 rfl) rfl rfl) (z_prec hK (zP_reg hP 0 rfl)) rfl hl.1 (Nat.le_of_ble_eq_true rfl) (z_d hL_sceneOf_0 3 rfl) ⟨Nat.le_of_ble_eq_true rfl, Nat.le_of_ble_eq_true rfl⟩) hS hP (fun H locs hP hS => ?_)
  subst hQ
  exact z_lretR hx hb hr hlocks hS (z_d hL_sceneOf_0 4 rfl)
def N_namesBy (x : t_SP) (p1 : Int32) (p2 : Int32) : Option Int32 := X6n_names x.1 x.2.1 x.2.2.1 x.2.2.2.1 x.2.2.2.2.1 x.2.2.2.2.2.1 x.2.2.2.2.2.2.1 x.2.2.2.2.2.2.2.1 x.2.2.2.2.2.2.2.2 p1 p2
def rm_N_namesBy : Room := { frames := 2, cells := 0, slots := 0, locals := 45 }
set_option maxRecDepth 100000 in
set_option maxHeartbeats 4000000 in
theorem c_N_namesBy (l : Launch) (Z : zZ) (mm : Nat) (u : t_SPa) (x : t_SP) (p1 : Int32) (p2 : Int32) (R : Int32) (hF : N_namesBy x p1 p2 = some R) : zLR l yL_namesBy (zwL yL_namesBy cL_namesBy 4 [(0, 6, 7, 103)]) rm_N_namesBy Z [.ref mm, .int p1, .int p2] (List.flatten [w_SP Z mm u x]) (some (.int R)) := by
  refine zLR_of (by decide) (Nat.le_of_ble_eq_true rfl) (fun p e s m below meth c hx hb hr hml hown hts hlocks hK Q hQ ls hl hP hS => ?_)
  have hl : lv_has ls 4 [(0, .ref mm), (1, .int p1), (2, .int p2)] := hl
  have hown : s.vm.findClass RL = some m.cls := hown
  refine lv_aload_n hx hb (z_d hL_namesBy_0 0 rfl) rfl (lv_at hl 0 rfl) ?_
  refine lv_iload_n hx hb (z_d hL_namesBy_0 1 rfl) rfl (lv_at hl 1 rfl) ?_
  refine lv_iload_n hx hb (z_d hL_namesBy_0 2 rfl) rfl (lv_at hl 2 rfl) ?_
  refine z_ro_i (z_rV (As := [.int p1, .int p2]) (rest := []) hx hb hml hown hts vt_X6_names (c_X6n_names l Z mm u.1 u.2.1 u.2.2.1 u.2.2.2.1 u.2.2.2.2.1 u.2.2.2.2.2.1 u.2.2.2.2.2.2.1 u.2.2.2.2.2.2.2.1 u.2.2.2.2.2.2.2.2.1 u.2.2.2.2.2.2.2.2.2.1 u.2.2.2.2.2.2.2.2.2.2 x.1 x.2.1 x.2.2.1 x.2.2.2.1 x.2.2.2.2.1 x.2.2.2.2.2.1 x.2.2.2.2.2.2.1 x.2.2.2.2.2.2.2.1 x.2.2.2.2.2.2.2.2 p1 p2 _ hF) rfl rfl ⟨Nat.le_of_ble_eq_true rfl, Nat.le_of_ble_eq_true rfl⟩ k_m_L_130 zPro_blind (z_recv (q := (RX6, TX6, 9)) (ci := 6) (q0 := 0) hK (zP_reg hP 0 rfl) rfl rfl) (z_prec hK (zP_reg hP 0 rfl)) rfl hl.1 (Nat.le_of_ble_eq_true rfl) (z_d hL_namesBy_0 3 rfl) ⟨Nat.le_of_ble_eq_true rfl, Nat.le_of_ble_eq_true rfl⟩) hS hP (fun H locs hP hS => ?_)
  subst hQ
  exact z_lretR hx hb hr hlocks hS (z_d hL_namesBy_0 4 rfl)
theorem zflat1 (w : va_W) : List.flatten [w] = w := by simp
abbrev rm_P_lockScenes : Room := rm_X6_lockScenes
def P_lockScenes (x : t_SP) : Option (Int32 × t_SP) := (X6_lockScenes x.1 x.2.1 x.2.2.1 x.2.2.2.1 x.2.2.2.2.1 x.2.2.2.2.2.1 x.2.2.2.2.2.2.1 x.2.2.2.2.2.2.2.1 x.2.2.2.2.2.2.2.2).bind fun R => some (R.1, (x.1, R.2.1, R.2.2.1, R.2.2.2.1, x.2.2.2.2.1, R.2.2.2.2.1, x.2.2.2.2.2.2.1, R.2.2.2.2.2, x.2.2.2.2.2.2.2.2))
theorem c_P_lockScenes (l : Launch) (Z : zZ) (mm : Nat) (u : t_SPa) (x : t_SP) (R : Int32 × t_SP) (hF0 : P_lockScenes x  = some R) : zMU l yX6_lockScenes (zw yX6_lockScenes cX6_lockScenes 4 (some .int)) rm_X6_lockScenes Z [.ref mm] (List.flatten [w_SP Z mm u x]) (List.flatten [w_SP Z mm u R.2]) (some (.int R.1)) := by
  unfold P_lockScenes at hF0
  refine z_bnd hF0 (fun R9 hF hF1 => ?_)
  obtain rfl := Option.some.inj hF1
  rw [zflat1, zflat1]
  exact c_X6_lockScenes l Z mm u.1 u.2.1 u.2.2.1 u.2.2.2.1 u.2.2.2.2.1 u.2.2.2.2.2.1 u.2.2.2.2.2.2.1 u.2.2.2.2.2.2.2.1 u.2.2.2.2.2.2.2.2.1 u.2.2.2.2.2.2.2.2.2.1 u.2.2.2.2.2.2.2.2.2.2 x.1 x.2.1 x.2.2.1 x.2.2.2.1 x.2.2.2.2.1 x.2.2.2.2.2.1 x.2.2.2.2.2.2.1 x.2.2.2.2.2.2.2.1 x.2.2.2.2.2.2.2.2  _ hF
abbrev rm_P_lockPages : Room := rm_X6_lockPages
def P_lockPages (x : t_SP) : Option (Int32 × t_SP) := (X6_lockPages x.1 x.2.1 x.2.2.1 x.2.2.2.1 x.2.2.2.2.1 x.2.2.2.2.2.1 x.2.2.2.2.2.2.1 x.2.2.2.2.2.2.2.1 x.2.2.2.2.2.2.2.2).bind fun R => some (R.1, (x.1, R.2.1, R.2.2.1, R.2.2.2.1, x.2.2.2.2.1, R.2.2.2.2.1, x.2.2.2.2.2.2.1, R.2.2.2.2.2, x.2.2.2.2.2.2.2.2))
theorem c_P_lockPages (l : Launch) (Z : zZ) (mm : Nat) (u : t_SPa) (x : t_SP) (R : Int32 × t_SP) (hF0 : P_lockPages x  = some R) : zMU l yX6_lockPages (zw yX6_lockPages cX6_lockPages 4 (some .int)) rm_X6_lockPages Z [.ref mm] (List.flatten [w_SP Z mm u x]) (List.flatten [w_SP Z mm u R.2]) (some (.int R.1)) := by
  unfold P_lockPages at hF0
  refine z_bnd hF0 (fun R9 hF hF1 => ?_)
  obtain rfl := Option.some.inj hF1
  rw [zflat1, zflat1]
  exact c_X6_lockPages l Z mm u.1 u.2.1 u.2.2.1 u.2.2.2.1 u.2.2.2.2.1 u.2.2.2.2.2.1 u.2.2.2.2.2.2.1 u.2.2.2.2.2.2.2.1 u.2.2.2.2.2.2.2.2.1 u.2.2.2.2.2.2.2.2.2.1 u.2.2.2.2.2.2.2.2.2.2 x.1 x.2.1 x.2.2.1 x.2.2.2.1 x.2.2.2.2.1 x.2.2.2.2.2.1 x.2.2.2.2.2.2.1 x.2.2.2.2.2.2.2.1 x.2.2.2.2.2.2.2.2  _ hF
abbrev rm_P_find : Room := rm_X6_find
def P_find (x : t_SP) (p1 : Int32) (p2 : Int32) (p3 : Int32) : Option Int32 := X6_find x.1 x.2.1 x.2.2.1 x.2.2.2.1 x.2.2.2.2.1 x.2.2.2.2.2.1 x.2.2.2.2.2.2.1 x.2.2.2.2.2.2.2.1 x.2.2.2.2.2.2.2.2 p1 p2 p3
theorem c_P_find (l : Launch) (Z : zZ) (mm : Nat) (u : t_SPa) (x : t_SP) (p1 : Int32) (p2 : Int32) (p3 : Int32) (R : Int32) (hF : P_find x p1 p2 p3 = some R) : zRO l yX6_find (zw yX6_find cX6_find 5 (some .int)) rm_X6_find Z [.ref mm, .int p1, .int p2, .int p3] (List.flatten [w_SP Z mm u x]) (some (.int R)) := by
  rw [zflat1]
  exact c_X6_find l Z mm u.1 u.2.1 u.2.2.1 u.2.2.2.1 u.2.2.2.2.1 u.2.2.2.2.2.1 u.2.2.2.2.2.2.1 u.2.2.2.2.2.2.2.1 u.2.2.2.2.2.2.2.2.1 u.2.2.2.2.2.2.2.2.2.1 u.2.2.2.2.2.2.2.2.2.2 x.1 x.2.1 x.2.2.1 x.2.2.2.1 x.2.2.2.2.1 x.2.2.2.2.2.1 x.2.2.2.2.2.2.1 x.2.2.2.2.2.2.2.1 x.2.2.2.2.2.2.2.2 p1 p2 p3 _ hF

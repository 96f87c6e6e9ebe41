-- the law's own start, loop and end
theorem k_c_L_8 : Cond.classLink RL 8 RX6 ∈ zG := zG_at 90 (by decide +kernel) (by decide +kernel)
theorem k_c_L_69 : Cond.classLink RL 69 RX7 ∈ zG := zG_at 888 (by decide +kernel) (by decide +kernel)
theorem k_n_X6 : Cond.instantiable RX6 9 ∈ zG := zG_at 91 (by decide +kernel) (by decide +kernel)
theorem k_n_X7 : Cond.instantiable RX7 19 ∈ zG := zG_at 889 (by decide +kernel) (by decide +kernel)
theorem k_z_X6 : Cond.initialized RX6 ∈ zG := zG_at 75 (by decide +kernel) (by decide +kernel)
theorem k_z_X7 : Cond.initialized RX7 ∈ zG := zG_at 81 (by decide +kernel) (by decide +kernel)
theorem k_m_L_68 : Cond.methodLink RL 68 yX6_init ∈ zG := zG_at 92 (by decide +kernel) (by decide +kernel)
theorem k_m_L_71 : Cond.methodLink RL 71 yX7_init ∈ zG := zG_at 890 (by decide +kernel) (by decide +kernel)
theorem k_a_long : Cond.arrayClass .long ∈ zG := zG_at 1236 (by decide +kernel) (by decide +kernel)
theorem k_a_int0 : Cond.arrayClass .int ∈ zG := zG_at 114 (by decide +kernel) (by decide +kernel)
theorem st_ex {args : Array Value} {s : State} (h : (Jvm.Cond.and given_1 narrow_1).before args s = true) : ∀ q ∈ zStr, (Cond.exactly (.string RX6 q.1) "java/lang/String").before args s = true := by
  have hs := flat_of_before _ h
  exact List.forall_mem_cons.mpr ⟨hs _ (by decide +kernel), List.forall_mem_cons.mpr ⟨hs _ (by decide +kernel), List.forall_mem_cons.mpr ⟨hs _ (by decide +kernel), List.forall_mem_cons.mpr ⟨hs _ (by decide +kernel), List.forall_mem_cons.mpr ⟨hs _ (by decide +kernel), List.forall_mem_cons.mpr ⟨hs _ (by decide +kernel), List.forall_mem_cons.mpr ⟨hs _ (by decide +kernel), List.forall_mem_cons.mpr ⟨hs _ (by decide +kernel), List.forall_mem_cons.mpr ⟨hs _ (by decide +kernel), List.forall_mem_cons.mpr ⟨hs _ (by decide +kernel), List.forall_mem_cons.mpr ⟨hs _ (by decide +kernel), List.forall_mem_cons.mpr ⟨hs _ (by decide +kernel), List.forall_mem_cons.mpr ⟨hs _ (by decide +kernel), List.forall_mem_cons.mpr ⟨hs _ (by decide +kernel), List.forall_mem_cons.mpr ⟨hs _ (by decide +kernel), List.forall_mem_cons.mpr ⟨hs _ (by decide +kernel), List.forall_mem_cons.mpr ⟨hs _ (by decide +kernel), fun _ h => absurd h List.not_mem_nil⟩⟩⟩⟩⟩⟩⟩⟩⟩⟩⟩⟩⟩⟩⟩⟩⟩
theorem st_nc {args : Array Value} {s : State} (h : (Jvm.Cond.and given_1 narrow_1).before args s = true) : zNc s := by
  have hs := flat_of_before _ h
  exact List.forall_mem_cons.mpr ⟨va_Nc.of (hs _ (by decide +kernel)), List.forall_mem_cons.mpr ⟨va_Nc.of (hs _ (by decide +kernel)), List.forall_mem_cons.mpr ⟨va_Nc.of (hs _ (by decide +kernel)), fun _ h => absurd h List.not_mem_nil⟩⟩⟩
theorem st_str : ∀ q ∈ zStr, Cond.stringRef RX6 q.1 q.2 ∈ lw_tbl := by decide +kernel
theorem st_nf : ∀ q ∈ z_nf, Cond.fieldLinkNest q.1 q.2.1 q.2.2.1 q.2.2.2.1 q.2.2.2.2.1 q.2.2.2.2.2 ∈ lw_tbl := by decide +kernel
theorem st_nm : ∀ q ∈ z_nm, Cond.methodLinkNest q.1 q.2.1 q.2.2.1 q.2.2.2 ∈ lw_tbl := by decide +kernel
theorem st_xc : ∀ q ∈ zXc, ∀ w ∈ vx_atS RX6 q.2.1 q.2.2 zXn, w ∈ lw_tbl := by decide +kernel
theorem st_ao : Cond.arrayOver (.object RX5) ∈ lw_tbl := by decide +kernel
theorem st_u : Cond.laysStatic Bundle.tN "UNASSIGNED_STACK" Bundle.steD ∈ lw_tbl := by decide +kernel
theorem st_s : Cond.laysStatic Bundle.tN "SUPPRESSED_SENTINEL" Bundle.listD ∈ lw_tbl := by decide +kernel
theorem st_ti : Cond.initialized Bundle.tN ∈ lw_tbl := by decide +kernel
theorem st_arr {args : Array Value} {s : State} {ty : FieldType} (h : (Cond.arrayClass ty).before args s = true) : ∃ cA, ArrOfT s cA ty ∧ s.vm.findClass ("[" ++ ty.toString) = some cA := by
  obtain ⟨cA, kA, comp, h1, h2, h3⟩ := Cond.arrayClass_spec h
  exact ⟨cA, fun n z => ⟨fun k e => (by cases e), kA, h2, comp, h3⟩, h1⟩
theorem st_arq {args : Array Value} {s : State} {C : String} (h : (Cond.arrayOver (.object C)).before args s = true) : ∃ cA, ArrOfT s cA (.object C) ∧ va_RA s cA (.object C) := by
  obtain ⟨comp, cA, kA, h1, h2, h3, h4, h5⟩ := Cond.arrayOver_spec h
  exact ⟨cA, fun n z => ⟨fun k e => (by cases e), kA, h3, comp, h4⟩, kA, comp, h3, h4, h1, h5⟩
theorem st_K {args : Array Value} {s : State} (hts : ∀ w ∈ zG, w.before args s = true) (hl : ∀ w ∈ lw_tbl, w.before args s = true) : ∃ Z : zZ, zK Z s := by
  have H : ∀ k : Nat, ∃ (cC : ClassId) (iS : Nat → Nat), ∀ q, vwCl[k]? = some q → u_Kn s q.1 q.2.1 q.2.2 cC iS := by
    intro k
    match k with
    | 0 => obtain ⟨a, b, h⟩ := u_known (C := RX0) (T := TX0) (N := 2) (n := 2) hts zinX0 (hts _ k_n_X0); exact ⟨a, b, fun q e => by cases e; exact h⟩
    | 1 => obtain ⟨a, b, h⟩ := u_known (C := RX1) (T := TX1) (N := 14) (n := 14) hts zinX1 (hts _ k_n_X1); exact ⟨a, b, fun q e => by cases e; exact h⟩
    | 2 => obtain ⟨a, b, h⟩ := u_known (C := RX2) (T := TX2) (N := 4) (n := 4) hts zinX2 (hts _ k_n_X2); exact ⟨a, b, fun q e => by cases e; exact h⟩
    | 3 => obtain ⟨a, b, h⟩ := u_known (C := RX3) (T := TX3) (N := 1) (n := 1) hts zinX3 (hts _ k_n_X3); exact ⟨a, b, fun q e => by cases e; exact h⟩
    | 4 => obtain ⟨a, b, h⟩ := u_known (C := RX4) (T := TX4) (N := 12) (n := 12) hts zinX4 (hts _ k_n_X4); exact ⟨a, b, fun q e => by cases e; exact h⟩
    | 5 => obtain ⟨a, b, h⟩ := u_known (C := RX5) (T := TX5) (N := 10) (n := 10) hts zinX5 (hts _ k_n_X5); exact ⟨a, b, fun q e => by cases e; exact h⟩
    | 6 => obtain ⟨a, b, h⟩ := u_known (C := RX6) (T := TX6) (N := 9) (n := 9) hts zinX6 (hts _ k_n_X6); exact ⟨a, b, fun q e => by cases e; exact h⟩
    | 7 => obtain ⟨a, b, h⟩ := u_known (C := RX7) (T := TX7) (N := 19) (n := 19) hts zinX7 (hts _ k_n_X7); exact ⟨a, b, fun q e => by cases e; exact h⟩
    | k + 8 => exact ⟨0, fun _ => 0, fun q e => by simp [vwCl] at e⟩
  obtain ⟨a1, p1, p2⟩ := st_arr (hts _ k_a_int0)
  obtain ⟨a2, q1, q2⟩ := st_arq (hl _ st_ao)
  obtain ⟨a3, r1, r2⟩ := st_arr (hts _ k_a_long)
  refine ⟨((fun k => Classical.choose (H k), fun k => Classical.choose (Classical.choose_spec (H k))), a1, a2, a3), ⟨fun k q e => Classical.choose_spec (Classical.choose_spec (H k)) q e, fun k q e => ?_⟩, fun q hq => va_Nw.of rfl (hl _ (st_nf q hq)), fun q hq => va_Nw.of rfl (hl _ (st_nm q hq))⟩
  match k, e with
  | 0, e => cases e; exact ⟨p1, p2⟩
  | 1, e => cases e; exact ⟨q1, q2⟩
  | 2, e => cases e; exact ⟨r1, r2⟩
  | k + 3, e => simp at e
theorem st_T {args : Array Value} {s : State} (hl : ∀ w ∈ lw_tbl, w.before args s = true) (h : (Jvm.Cond.and given_1 narrow_1).before args s = true) : ∃ sa, zTh sa (fun q => s.heap.size ≤ q) s s.heap := by
  have hs := flat_of_before _ h
  refine ⟨fun k => match (Term.string RX6 k).eval args s none [] s with | some (.ref a) => a | _ => 0, fun q hq => ?_, fun q hq w hw => vx_ot_at (State.WarmedH.refl s) rfl (zXc_ot q hq w hw) (hl _ (st_xc q hq w hw)), vx_Zqof (hl _ st_u) (hl _ st_ti) (hs _ (by decide +kernel)) (fun a h1 => Nat.not_le.mpr h1), vx_Zqof (hl _ st_s) (hl _ st_ti) (hs _ (by decide +kernel)) (fun a h1 => Nat.not_le.mpr h1)⟩
  obtain ⟨a, -, -, -, e, -⟩ := Cond.exactly_spec (st_ex h q hq)
  refine vk_R.of (A := args) (hl _ (st_str q hq)) ?_
  show _ = some (Value.ref (match (Term.string RX6 q.1).eval args s none [] s with | some (.ref a) => a | _ => 0))
  rw [e]
theorem lbE_d {p : Program} {s : State} {m : MethodId} {args : Array Value} {c : Code} {b N : Nat} {xs : Nat → Int32} {A0 : Nat → Prop} {H0 : Heap} {Z : zZ} {sa : Nat → Nat} (d0 : Drawn) (h : lbE p s m args c b N xs A0 H0 Z sa) : lbE p (s.setDrawn d0) m args c b N xs A0 H0 Z sa := by
  obtain ⟨hx, hb, hml, hown, hts, hX, hbl, hbA, hK, hT, hN, hO, hA0⟩ := h
  exact ⟨hx, hb, hml, hown, dr_words hts d0, va_X.moved (u := s) (Vm.Alike.refl s.vm) hX, hbl, hbA, hK.same (u := s) rfl, zTh.same (u := s) rfl hT, zNc.moved (u := s) (Vm.Alike.refl s.vm) hN, va_AO.moved (u := s) (Vm.Alike.refl s.vm) hO, hA0⟩
theorem st_five {k L : Nat} (hL : L ≤ 2560) (hk : 5 * k ≤ L) (h : ¬ Int32.ofNat L - 5 < nI (5 * k)) : 5 * k + 5 ≤ L := by
  by_cases h5 : 5 ≤ L
  · have e : Int32.ofNat L - 5 = nI (L - 5) := by
      have e1 : nI (L - 5) + nI 5 = nI L := by rw [nI_add, Nat.sub_add_cancel h5]
      have e2 : nI L - nI 5 = nI (L - 5) := by rw [← e1]; exact Int32.add_sub_cancel _ _
      exact e2
    rw [e, nI_ltI (by omega) (by omega)] at h
    omega
  · exfalso
    have hk0 : k = 0 := by omega
    subst hk0
    exact h (pk_sneg (a := L) (b := 5) (by decide) (by omega))
set_option maxRecDepth 100000 in
set_option maxHeartbeats 4000000 in
theorem lb_loop {p : Program} {l : Launch} {e : Env} {s : State} {m : MethodId} {args : Array Value} {below : List Frame} {meth : Method} {c : Code} {b L : Nat} {xs : Nat → Int32} {A0 : Nat → Prop} {H0 : Heap} {Z : zZ} {sa : Nat → Nat} (hE : lbE p s m args c b L xs A0 H0 Z sa) (hlt : l.stackTraces = false) (hL : L ≤ 2560) {mm : Nat} {u : t_SPa} {Am : Nat → Nat} {o : Nat} {Q : State → Prop}
    (END : ∀ (d0 : Drawn) (H : Heap) (locs : List Loc) (ls : Array Slot) (cells slots : Nat), s.drawn.sameBut d0 lw_cs → va_S A0 H0 H locs → cells ≤ 708 → slots ≤ 12746 → W p l e room_1 (s.setDrawn d0) m args below meth c H locs cells slots Q (F0 m 1314 ls [])) :
    ∀ (n k : Nat) (d0 : Drawn) (x : t_SP) (M : t_Model) (f : Nat → Int64) (H : Heap) (locs : List Loc) (ls : Array Slot) (cells slots : Nat), s.drawn.sameBut d0 lw_cs → 5 * k ≤ L → L ≤ 5 * k + 5 * n → lbI x M → va_P Z.1 vwCl (List.flatten [w_SP Z mm u x, w_Model Z.2.1 Am M, w_ArrL Z.2.2.2 1 o f]) H → va_D A0 (List.flatten [w_SP Z mm u x, w_Model Z.2.1 Am M, w_ArrL Z.2.2.2 1 o f]) → va_S A0 H0 H locs → lv_has ls 9 [(0, .ref b), (1, .ref mm), (2, .ref (Am 0)), (3, .ref o), (4, .int (nI (5 * k)))] → cells ≤ 196 + k → slots ≤ 9674 + 6 * k →
      W p l e room_1 (s.setDrawn d0) m args below meth c H locs cells slots Q (F0 m 23 ls []) := by
  intro n
  induction n with
  | zero =>
    intro k d0 x M f H locs ls cells slots hd0 hk hn hI hP hD hS hl hcells hslots
    obtain ⟨hx, hb, hml, hown, hts, hX, hbl, hbA, hK, hT, hN, hO, hA0⟩ := lbE_d d0 hE
    refine lv_iload hx hb (z_d hL_law_0 13 rfl) (lv_at hl 4 rfl) ?_
    refine lv_aload_n hx hb (z_d hL_law_0 14 rfl) rfl (lv_at hl 0 rfl) ?_
    refine va_slen hx hb hX hbl hbA hS (z_d hL_law_0 15 rfl) ?_
    refine lv_iconst (v := 5) hx hb (z_d hL_law_0 16 rfl) (by decide) ?_
    refine lv_isub hx hb (z_d hL_law_0 17 rfl) ?_
    refine lv_icmp_gt (tgt := 1314) hx hb (z_d hL_law_0 18 rfl) (by decide) (fun _ => END d0 H locs ls cells slots hd0 hS (by omega) (by omega)) (fun h => ?_)
    have := st_five hL hk h
    omega
  | succ n ih =>
    intro k d0 x M f H locs ls cells slots hd0 hk hn hI hP hD hS hl hcells hslots
    have tail : ∀ (d1 : Drawn) (x' : t_SP) (M' : t_Model) (f' : Nat → Int64) (H : Heap) (locs : List Loc) (ls : Array Slot), 5 * k + 5 ≤ L → s.drawn.sameBut d1 lw_cs → lbI x' M' → va_P Z.1 vwCl (List.flatten [w_SP Z mm u x', w_Model Z.2.1 Am M', w_ArrL Z.2.2.2 1 o f']) H → va_D A0 (List.flatten [w_SP Z mm u x', w_Model Z.2.1 Am M', w_ArrL Z.2.2.2 1 o f']) → va_S A0 H0 H locs → lv_has ls 9 [(0, .ref b), (1, .ref mm), (2, .ref (Am 0)), (3, .ref o), (4, .int (nI (5 * k)))] → W p l e room_1 (s.setDrawn d1) m args below meth c H locs (cells + 1) (slots + 6) Q (F0 m 1308 ls []) := by
      intro d1 x' M' f' H locs ls h5 hd1 hI hP hD hS hl
      obtain ⟨hx, hb, -⟩ := lbE_d d1 hE
      refine lv_iinc (v := nI (5 * (k + 1))) (lv' := [(4, .int (nI (5 * (k + 1)))), (0, .ref b), (1, .ref mm), (2, .ref (Am 0)), (3, .ref o)]) hx hb (z_d hL_law_12 47 rfl) hl (k := 4) rfl (nI_add (5 * k) 5) (by decide) rfl (fun ls hl => ?_)
      refine lv_goto (tgt := 23) hx hb (z_d hL_law_12 48 rfl) (by decide) ?_
      exact ih (k + 1) d1 x' M' f' H locs ls (cells + 1) (slots + 6) hd1 (by omega) (by omega) hI hP hD hS (lv_sub hl [1, 2, 3, 4, 0] rfl) (by omega) (by omega)
    obtain ⟨hx, hb, hml, hown, hts, hX, hbl, hbA, hK, hT, hN, hO, hA0⟩ := lbE_d d0 hE
    refine lv_iload hx hb (z_d hL_law_0 13 rfl) (lv_at hl 4 rfl) ?_
    refine lv_aload_n hx hb (z_d hL_law_0 14 rfl) rfl (lv_at hl 0 rfl) ?_
    refine va_slen hx hb hX hbl hbA hS (z_d hL_law_0 15 rfl) ?_
    refine lv_iconst (v := 5) hx hb (z_d hL_law_0 16 rfl) (by decide) ?_
    refine lv_isub hx hb (z_d hL_law_0 17 rfl) ?_
    refine lv_icmp_gt (tgt := 1314) hx hb (z_d hL_law_0 18 rfl) (by decide) (fun _ => END d0 H locs ls cells slots hd0 hS (by omega) (by omega)) (fun h => ?_)
    have h5 := st_five hL hk h
    have tail := fun d1 x' M' f' H locs ls => tail d1 x' M' f' H locs ls h5
    have hc : cells + 1 ≤ room_1.cells ∧ slots + 6 ≤ room_1.slots := ⟨by show cells + 1 ≤ 601024; omega, by show slots + 6 ≤ 7293034; omega⟩
    have hn0 : vp_in (nI (5 * k)) L := vp_in_nI (by omega) (by omega)
    have hn1 : vp_in (nI (5 * k) + 1) L := by
      have e1 : nI (5 * k) + 1 = nI (5 * k + 1) := nI_add _ 1
      rw [e1]; exact vp_in_nI (by omega) (by omega)
    have hn2 : vp_in (nI (5 * k) + 2) L := by
      have e1 : nI (5 * k) + 2 = nI (5 * k + 2) := nI_add _ 2
      rw [e1]; exact vp_in_nI (by omega) (by omega)
    have hn3 : vp_in (nI (5 * k) + 3) L := by
      have e1 : nI (5 * k) + 3 = nI (5 * k + 3) := nI_add _ 3
      rw [e1]; exact vp_in_nI (by omega) (by omega)
    have hn4 : vp_in (nI (5 * k) + 4) L := by
      have e1 : nI (5 * k) + 4 = nI (5 * k + 4) := nI_add _ 4
      rw [e1]; exact vp_in_nI (by omega) (by omega)
    refine W.eq (g2 := F0 m 32 ls []) rfl ?_
    refine lv_aload_n hx hb (z_d hL_law_0 19 rfl) rfl (lv_at hl 0 rfl) ?_
    refine lv_iload hx hb (z_d hL_law_0 20 rfl) (lv_at hl 4 rfl) ?_
    refine va_sld hx hb hX hbl hbA hS hn0 (z_d hL_law_0 21 rfl) ?_
    refine lv_bipush (v := 31) hx hb (z_d hL_law_0 22 rfl) (by decide) ?_
    refine lv_iand hx hb (z_d hL_law_0 23 rfl) ?_
    obtain ⟨j, hj, ej⟩ := pk_andE (xs (nI (5 * k)).toNatClampNeg) (m := 31) 5 (by decide)
    rw [ej]
    refine W.eq (g2 := F0 m 39 ls [.int (nI j)]) rfl ?_
    rcases Nat.lt_or_ge j 1 with hj9 | hj9
    · have e9 : j = 0 := by omega
      subst e9
      refine lv_tableIn (off := 105) (tgt := 144) hx hb (z_d hL_law_0 24 rfl) (by decide) (by decide) (by decide) (by decide) ?_
      exact lb_insert (lbE_d d0 hE) hlt hI hn1 hn2 hn3 hn4 rfl rfl rfl rfl hP hD hS hl hc (fun x' M' f' H locs ls h1 h2 h3 h4 h5 => tail d0 x' M' f' H locs ls hd0 h1 h2 h3 h4 h5)
    rcases Nat.lt_or_ge j 2 with hj9 | hj9
    · have e9 : j = 1 := by omega
      subst e9
      refine lv_tableIn (off := 197) (tgt := 236) hx hb (z_d hL_law_0 24 rfl) (by decide) (by decide) (by decide) (by decide) ?_
      exact lb_remove (lbE_d d0 hE) hlt hI hn1 hn2 hn3 hn4 rfl rfl rfl rfl hP hD hS hl hc (fun x' M' f' H locs ls h1 h2 h3 h4 h5 => tail d0 x' M' f' H locs ls hd0 h1 h2 h3 h4 h5)
    rcases Nat.lt_or_ge j 3 with hj9 | hj9
    · have e9 : j = 2 := by omega
      subst e9
      refine lv_tableIn (off := 253) (tgt := 292) hx hb (z_d hL_law_0 24 rfl) (by decide) (by decide) (by decide) (by decide) ?_
      exact lb_setLength (lbE_d d0 hE) hlt hI hn1 hn2 hn3 hn4 rfl rfl rfl rfl hP hD hS hl hc (fun x' M' f' H locs ls h1 h2 h3 h4 h5 => tail d0 x' M' f' H locs ls hd0 h1 h2 h3 h4 h5)
    rcases Nat.lt_or_ge j 4 with hj9 | hj9
    · have e9 : j = 3 := by omega
      subst e9
      refine lv_tableIn (off := 321) (tgt := 360) hx hb (z_d hL_law_0 24 rfl) (by decide) (by decide) (by decide) (by decide) ?_
      exact lb_setPage (lbE_d d0 hE) hlt hI hn1 hn2 hn3 hn4 rfl rfl rfl rfl hP hD hS hl hc (fun x' M' f' H locs ls h1 h2 h3 h4 h5 => tail d0 x' M' f' H locs ls hd0 h1 h2 h3 h4 h5)
    rcases Nat.lt_or_ge j 5 with hj9 | hj9
    · have e9 : j = 4 := by omega
      subst e9
      refine lv_tableIn (off := 377) (tgt := 416) hx hb (z_d hL_law_0 24 rfl) (by decide) (by decide) (by decide) (by decide) ?_
      exact lb_lockScenes (lbE_d d0 hE) hlt hI hn1 hn2 hn3 hn4 rfl rfl rfl rfl hP hD hS hl hc (fun x' M' f' H locs ls h1 h2 h3 h4 h5 => tail d0 x' M' f' H locs ls hd0 h1 h2 h3 h4 h5)
    rcases Nat.lt_or_ge j 6 with hj9 | hj9
    · have e9 : j = 5 := by omega
      subst e9
      refine lv_tableIn (off := 390) (tgt := 429) hx hb (z_d hL_law_0 24 rfl) (by decide) (by decide) (by decide) (by decide) ?_
      exact lb_omit (lbE_d d0 hE) hlt hI hn1 hn2 hn3 hn4 rfl rfl rfl rfl hP hD hS hl hc (fun x' M' f' H locs ls h1 h2 h3 h4 h5 => tail d0 x' M' f' H locs ls hd0 h1 h2 h3 h4 h5)
    rcases Nat.lt_or_ge j 7 with hj9 | hj9
    · have e9 : j = 6 := by omega
      subst e9
      refine lv_tableIn (off := 446) (tgt := 485) hx hb (z_d hL_law_0 24 rfl) (by decide) (by decide) (by decide) (by decide) ?_
      exact lb_lockPages (lbE_d d0 hE) hlt hI hn1 hn2 hn3 hn4 rfl rfl rfl rfl hP hD hS hl hc (fun x' M' f' H locs ls h1 h2 h3 h4 h5 => tail d0 x' M' f' H locs ls hd0 h1 h2 h3 h4 h5)
    rcases Nat.lt_or_ge j 8 with hj9 | hj9
    · have e9 : j = 7 := by omega
      subst e9
      refine lv_tableIn (off := 459) (tgt := 498) hx hb (z_d hL_law_0 24 rfl) (by decide) (by decide) (by decide) (by decide) ?_
      exact lb_value (lbE_d d0 hE) hlt hI hn1 hn2 hn3 hn4 rfl rfl rfl rfl hP hD hS hl hc (fun x' M' f' H locs ls h1 h2 h3 h4 h5 => tail d0 x' M' f' H locs ls hd0 h1 h2 h3 h4 h5)
    rcases Nat.lt_or_ge j 9 with hj9 | hj9
    · have e9 : j = 8 := by omega
      subst e9
      refine lv_tableIn (off := 515) (tgt := 554) hx hb (z_d hL_law_0 24 rfl) (by decide) (by decide) (by decide) (by decide) ?_
      exact lb_element (lbE_d d0 hE) hlt hI hn1 hn2 hn3 hn4 rfl rfl rfl rfl hP hD hS hl hc (fun x' M' f' H locs ls h1 h2 h3 h4 h5 => tail d0 x' M' f' H locs ls hd0 h1 h2 h3 h4 h5)
    rcases Nat.lt_or_ge j 10 with hj9 | hj9
    · have e9 : j = 9 := by omega
      subst e9
      refine lv_tableIn (off := 583) (tgt := 622) hx hb (z_d hL_law_0 24 rfl) (by decide) (by decide) (by decide) (by decide) ?_
      exact lb_scene (lbE_d d0 hE) hlt hI hn1 hn2 hn3 hn4 rfl rfl rfl rfl hP hD hS hl hc (fun x' M' f' H locs ls h1 h2 h3 h4 h5 => tail d0 x' M' f' H locs ls hd0 h1 h2 h3 h4 h5)
    rcases Nat.lt_or_ge j 11 with hj9 | hj9
    · have e9 : j = 10 := by omega
      subst e9
      refine lv_tableIn (off := 651) (tgt := 690) hx hb (z_d hL_law_0 24 rfl) (by decide) (by decide) (by decide) (by decide) ?_
      exact lb_page (lbE_d d0 hE) hlt hI hn1 hn2 hn3 hn4 rfl rfl rfl rfl hP hD hS hl hc (fun x' M' f' H locs ls h1 h2 h3 h4 h5 => tail d0 x' M' f' H locs ls hd0 h1 h2 h3 h4 h5)
    rcases Nat.lt_or_ge j 12 with hj9 | hj9
    · have e9 : j = 11 := by omega
      subst e9
      refine lv_tableIn (off := 719) (tgt := 758) hx hb (z_d hL_law_0 24 rfl) (by decide) (by decide) (by decide) (by decide) ?_
      exact lb_find (lbE_d d0 hE) hlt hI hn1 hn2 hn3 hn4 rfl rfl rfl rfl hP hD hS hl hc (fun x' M' f' H locs ls h1 h2 h3 h4 h5 => tail d0 x' M' f' H locs ls hd0 h1 h2 h3 h4 h5)
    rcases Nat.lt_or_ge j 13 with hj9 | hj9
    · have e9 : j = 12 := by omega
      subst e9
      refine lv_tableIn (off := 768) (tgt := 807) hx hb (z_d hL_law_0 24 rfl) (by decide) (by decide) (by decide) (by decide) ?_
      exact lb_names (lbE_d d0 hE) hlt hI hn1 hn2 hn3 hn4 rfl rfl rfl rfl hP hD hS hl hc (fun x' M' f' H locs ls h1 h2 h3 h4 h5 => tail d0 x' M' f' H locs ls hd0 h1 h2 h3 h4 h5)
    rcases Nat.lt_or_ge j 14 with hj9 | hj9
    · have e9 : j = 13 := by omega
      subst e9
      refine lv_tableIn (off := 852) (tgt := 891) hx hb (z_d hL_law_0 24 rfl) (by decide) (by decide) (by decide) (by decide) ?_
      exact lb_used hd0 hE hlt hI hn1 hn2 hn3 hn4 rfl rfl rfl rfl hP hD hS hl hc tail
    rcases Nat.lt_or_ge j 15 with hj9 | hj9
    · have e9 : j = 14 := by omega
      subst e9
      refine lv_tableIn (off := 893) (tgt := 932) hx hb (z_d hL_law_0 24 rfl) (by decide) (by decide) (by decide) (by decide) ?_
      exact lb_pagesWith (lbE_d d0 hE) hlt hI hn1 hn2 hn3 hn4 rfl rfl rfl rfl hP hD hS hl hc (fun x' M' f' H locs ls h1 h2 h3 h4 h5 => tail d0 x' M' f' H locs ls hd0 h1 h2 h3 h4 h5)
    rcases Nat.lt_or_ge j 16 with hj9 | hj9
    · have e9 : j = 15 := by omega
      subst e9
      refine lv_tableIn (off := 949) (tgt := 988) hx hb (z_d hL_law_0 24 rfl) (by decide) (by decide) (by decide) (by decide) ?_
      exact lb_smallestPage (lbE_d d0 hE) hlt hI hn1 hn2 hn3 hn4 rfl rfl rfl rfl hP hD hS hl hc (fun x' M' f' H locs ls h1 h2 h3 h4 h5 => tail d0 x' M' f' H locs ls hd0 h1 h2 h3 h4 h5)
    rcases Nat.lt_or_ge j 17 with hj9 | hj9
    · have e9 : j = 16 := by omega
      subst e9
      refine lv_tableIn (off := 1005) (tgt := 1044) hx hb (z_d hL_law_0 24 rfl) (by decide) (by decide) (by decide) (by decide) ?_
      exact lb_pagesBy (lbE_d d0 hE) hlt hI hn1 hn2 hn3 hn4 rfl rfl rfl rfl hP hD hS hl hc (fun x' M' f' H locs ls h1 h2 h3 h4 h5 => tail d0 x' M' f' H locs ls hd0 h1 h2 h3 h4 h5)
    rcases Nat.lt_or_ge j 18 with hj9 | hj9
    · have e9 : j = 17 := by omega
      subst e9
      refine lv_tableIn (off := 1073) (tgt := 1112) hx hb (z_d hL_law_0 24 rfl) (by decide) (by decide) (by decide) (by decide) ?_
      exact lb_greatestLength (lbE_d d0 hE) hlt hI hn1 hn2 hn3 hn4 rfl rfl rfl rfl hP hD hS hl hc (fun x' M' f' H locs ls h1 h2 h3 h4 h5 => tail d0 x' M' f' H locs ls hd0 h1 h2 h3 h4 h5)
    rcases Nat.lt_or_ge j 19 with hj9 | hj9
    · have e9 : j = 18 := by omega
      subst e9
      refine lv_tableIn (off := 1129) (tgt := 1168) hx hb (z_d hL_law_0 24 rfl) (by decide) (by decide) (by decide) (by decide) ?_
      exact lb_append (lbE_d d0 hE) hlt hI hn1 hn2 hn3 hn4 rfl rfl rfl rfl hP hD hS hl hc (fun x' M' f' H locs ls h1 h2 h3 h4 h5 => tail d0 x' M' f' H locs ls hd0 h1 h2 h3 h4 h5)
    rcases Nat.lt_or_ge j 20 with hj9 | hj9
    · have e9 : j = 19 := by omega
      subst e9
      refine lv_tableIn (off := 1185) (tgt := 1224) hx hb (z_d hL_law_0 24 rfl) (by decide) (by decide) (by decide) (by decide) ?_
      exact lb_clearText (lbE_d d0 hE) hlt hI hn1 hn2 hn3 hn4 rfl rfl rfl rfl hP hD hS hl hc (fun x' M' f' H locs ls h1 h2 h3 h4 h5 => tail d0 x' M' f' H locs ls hd0 h1 h2 h3 h4 h5)
    rcases Nat.lt_or_ge j 21 with hj9 | hj9
    · have e9 : j = 20 := by omega
      subst e9
      refine lv_tableIn (off := 1198) (tgt := 1237) hx hb (z_d hL_law_0 24 rfl) (by decide) (by decide) (by decide) (by decide) ?_
      exact lb_parse (lbE_d d0 hE) hlt hI hn1 hn2 hn3 hn4 rfl rfl rfl rfl hP hD hS hl hc (fun x' M' f' H locs ls h1 h2 h3 h4 h5 => tail d0 x' M' f' H locs ls hd0 h1 h2 h3 h4 h5)
    rcases Nat.lt_or_ge j 22 with hj9 | hj9
    · have e9 : j = 21 := by omega
      subst e9
      refine lv_tableIn (off := 1211) (tgt := 1250) hx hb (z_d hL_law_0 24 rfl) (by decide) (by decide) (by decide) (by decide) ?_
      exact lb_undo (lbE_d d0 hE) hlt hI hn1 hn2 hn3 hn4 rfl rfl rfl rfl hP hD hS hl hc (fun x' M' f' H locs ls h1 h2 h3 h4 h5 => tail d0 x' M' f' H locs ls hd0 h1 h2 h3 h4 h5)
    rcases Nat.lt_or_ge j 23 with hj9 | hj9
    · have e9 : j = 22 := by omega
      subst e9
      refine lv_tableIn (off := 1255) (tgt := 1294) hx hb (z_d hL_law_0 24 rfl) (by decide) (by decide) (by decide) (by decide) ?_
      exact lb_digest (lbE_d d0 hE) hlt hI hn1 hn2 hn3 hn4 rfl rfl rfl rfl hP hD hS hl hc (fun x' M' f' H locs ls h1 h2 h3 h4 h5 => tail d0 x' M' f' H locs ls hd0 h1 h2 h3 h4 h5)
    exact lv_tableOut (tgt := 1308) hx hb (z_d hL_law_0 24 rfl) (Or.inr (by rw [nI_toInt (by omega)]; omega)) (by decide) (W.widen (Nat.le_succ _) (Nat.le_add_right _ 6) (tail d0 x M f H locs ls hd0 hI hP hD hS hl))
set_option maxRecDepth 100000 in
set_option maxHeartbeats 4000000 in
/-- from the entry, for every script of at most 2560 ints, the law comes to its end with true -/
theorem whole_start {p : Program} {e : Env} {s : State} {m : MethodId} {below : List Frame} {meth : Method} {c : Code} (l : Launch) (hflags : l.flags = flags0) {b L : Nat} {xs : Nat → Int32} (hL : L ≤ 2560) (C0 : lw_At p s m meth c b L xs) : W p l e room_1 s m #[Value.ref b] below meth c s.heap [] 0 0 (lw_Z below #[Value.ref b] s) (entryFrame m ([Value.ref b] : List Value).toArray 9) := by
  obtain ⟨hx, hb, hr, hml, hown, hl0, hX, hbl, hlocks, hgv⟩ := C0
  have hlt : l.stackTraces = false := by
    unfold Launch.stackTraces
    rw [hflags]
    decide
  have hts0 : ∀ w ∈ zG, w.before #[Value.ref b] s = true := fun w h => hl0 w (zG_in w h)
  obtain ⟨Z, hK0⟩ := st_K hts0 hl0
  obtain ⟨sa, hT0⟩ := st_T hl0 hgv
  have hN0 := st_nc hgv
  have hO0 : va_AO RX5 s := va_AO.of (hl0 _ st_ao)
  generalize hA9 : (fun q : Nat => s.heap.size ≤ q) = A0 at hT0
  have hA : ∀ q : Nat, s.heap.size ≤ q → A0 q := fun q h => by rw [← hA9]; exact h
  have hA1 : ∀ q : Nat, A0 q → s.heap.size ≤ q := fun q h => by rw [← hA9] at h; exact h
  have hbA : ¬ A0 b := fun h => Nat.not_le.mpr hbl (hA1 b h)
  have hE : lbE p s m #[Value.ref b] c b L xs A0 s.heap Z sa := ⟨hx, hb, hml, hown, hts0, hX, hbl, hbA, hK0, hT0, hN0, hO0, hA⟩
  have hd0 := Drawn.sameBut.refl s.drawn lw_cs
  refine W.base ?_
  obtain ⟨-, -, -, hown, hts, hX, -, -, hK, hT, hN, hO, -⟩ := lbE_d s.drawn hE
  have hS : va_S A0 s.heap s.heap [] := va_S.rf
  have hP : va_P Z.1 vwCl (List.flatten []) s.heap := fun k q h => by simp at h
  have hD : va_D A0 (List.flatten []) := ⟨fun i j p q h => by simp at h, fun k q h => by simp at h⟩
  have hl := lv_entry ([.ref b]) (n := 9) (Nat.le_of_ble_eq_true rfl)
  rw [lg_entry_eq]
  generalize (lg_sl ([.ref b]) ++ List.replicate (9 - (lg_sl ([.ref b])).length) Slot.unset).toArray = ls at hl ⊢
  have hl : lv_has ls 9 [(0, .ref b)] := hl
  refine z_new (Z := Z) (L := []) (ci := 6) (fs := [.null, .null, .null, .null, .null, .null, .null, .null, .int 0]) (C := RX6) (T := TX6) (N := 9) hx hb hts zinX6 tyX6 tyX6_ok hown k_c_L_8 k_n_X6 k_z_X6 hK hP hD hS hA rfl (by decide +kernel) (Nat.le_of_ble_eq_true rfl) (Nat.le_of_ble_eq_true rfl) (z_d hL_law_0 0 rfl) (z_d hL_law_0 1 rfl) (fun q1 H hP hD hS => ?_)
  have hP : va_P Z.1 vwCl (List.flatten [w_Obj q1 6 [.null, .null, .null, .null, .null, .null, .null, .null, .int 0]]) H := hP
  have hD : va_D A0 (List.flatten [w_Obj q1 6 [.null, .null, .null, .null, .null, .null, .null, .null, .int 0]]) := hD
  refine z_init (L := []) (w := w_Obj q1 6 [.null, .null, .null, .null, .null, .null, .null, .null, .int 0]) (z_rI (As := []) (rest := [.ref q1]) hx hb hml hown hts it_X6_init (c_X6_init l Z H.size q1) rfl rfl ⟨Nat.le_of_ble_eq_true rfl, Nat.le_of_ble_eq_true rfl⟩ k_m_L_68 hK hO (zP_reg hP 0 rfl) (zD_one hD 0 _ rfl) rfl hl.1 (Nat.le_of_ble_eq_true rfl) (z_d hL_law_0 2 rfl) ⟨Nat.le_of_ble_eq_true rfl, Nat.le_of_ble_eq_true rfl⟩) hP hD hS hA (fun u H locs hP hD hS => ?_)
  have hP : va_P Z.1 vwCl (List.flatten [w_SP Z q1 u sp0]) H := hP
  have hD : va_D A0 (List.flatten [w_SP Z q1 u sp0]) := hD
  refine W.eq (g2 := F0 m 7 ls [.ref q1]) rfl ?_
  refine lv_astore_n (lv' := [(1, .ref q1), (0, .ref b)]) hx hb (z_d hL_law_0 3 rfl) rfl hl (by decide) rfl (fun ls hl => ?_)
  refine z_new (Z := Z) (L := [w_SP Z q1 u sp0]) (ci := 7) (fs := [.null, .null, .null, .int 0, .null, .int 0, .int 0, .int 0, .int 0, .null, .null, .null, .null, .null, .null, .null, .int 0, .int 0, .long 0]) (C := RX7) (T := TX7) (N := 19) hx hb hts zinX7 tyX7 tyX7_ok hown k_c_L_69 k_n_X7 k_z_X7 hK hP hD hS hA rfl (by decide +kernel) (Nat.le_of_ble_eq_true rfl) (Nat.le_of_ble_eq_true rfl) (z_d hL_law_0 4 rfl) (z_d hL_law_0 5 rfl) (fun q3 H hP hD hS => ?_)
  have hP : va_P Z.1 vwCl (List.flatten [w_SP Z q1 u sp0, w_Obj q3 7 [.null, .null, .null, .int 0, .null, .int 0, .int 0, .int 0, .int 0, .null, .null, .null, .null, .null, .null, .null, .int 0, .int 0, .long 0]]) H := hP
  have hD : va_D A0 (List.flatten [w_SP Z q1 u sp0, w_Obj q3 7 [.null, .null, .null, .int 0, .null, .int 0, .int 0, .int 0, .int 0, .null, .null, .null, .null, .null, .null, .null, .int 0, .int 0, .long 0]]) := hD
  refine z_init (L := [w_SP Z q1 u sp0]) (w := w_Obj q3 7 [.null, .null, .null, .int 0, .null, .int 0, .int 0, .int 0, .int 0, .null, .null, .null, .null, .null, .null, .null, .int 0, .int 0, .long 0]) (z_rI (As := []) (rest := [.ref q3]) hx hb hml hown hts it_X7_init (c_X7_init l Z H.size q3) rfl rfl ⟨Nat.le_of_ble_eq_true rfl, Nat.le_of_ble_eq_true rfl⟩ k_m_L_71 hK hO (zP_reg hP 1 rfl) (zD_one hD 1 _ rfl) rfl hl.1 (Nat.le_of_ble_eq_true rfl) (z_d hL_law_0 6 rfl) ⟨Nat.le_of_ble_eq_true rfl, Nat.le_of_ble_eq_true rfl⟩) hP hD hS hA (fun v H locs hP hD hS => ?_)
  have hP : va_P Z.1 vwCl (List.flatten [w_SP Z q1 u sp0, w_Model Z.2.1 (zA0 q3 v) mod0]) H := hP
  have hD : va_D A0 (List.flatten [w_SP Z q1 u sp0, w_Model Z.2.1 (zA0 q3 v) mod0]) := hD
  refine W.eq (g2 := F0 m 15 ls [.ref q3]) rfl ?_
  refine lv_astore_n (lv' := [(2, .ref q3), (1, .ref q1), (0, .ref b)]) hx hb (z_d hL_law_0 7 rfl) rfl hl (by decide) rfl (fun ls hl => ?_)
  refine lv_iconst (v := 1) hx hb (z_d hL_law_0 8 rfl) (by decide) ?_
  refine z_newarrL (N' := 1) (L := [w_SP Z q1 u sp0, w_Model Z.2.1 (zA0 q3 v) mod0]) hx hb (hts _ k_a_long) hK hP hD hS hA (by decide) (by decide) (by decide) (Nat.le_of_ble_eq_true rfl) (Nat.le_of_ble_eq_true rfl) (z_d hL_law_0 9 rfl) (fun q5 H hP hD hS => ?_)
  have hP : va_P Z.1 vwCl (List.flatten [w_SP Z q1 u sp0, w_Model Z.2.1 (zA0 q3 v) mod0, w_ArrL Z.2.2.2 1 q5 (fun _ => 0)]) H := hP
  have hD : va_D A0 (List.flatten [w_SP Z q1 u sp0, w_Model Z.2.1 (zA0 q3 v) mod0, w_ArrL Z.2.2.2 1 q5 (fun _ => 0)]) := hD
  refine W.eq (g2 := F0 m 19 ls [.ref q5]) rfl ?_
  refine lv_astore_n (lv' := [(3, .ref q5), (2, .ref q3), (1, .ref q1), (0, .ref b)]) hx hb (z_d hL_law_0 10 rfl) rfl hl (by decide) rfl (fun ls hl => ?_)
  refine lv_iconst (v := 0) hx hb (z_d hL_law_0 11 rfl) (by decide) ?_
  refine lv_istore (lv' := [(4, .int 0), (3, .ref q5), (2, .ref q3), (1, .ref q1), (0, .ref b)]) hx hb (z_d hL_law_0 12 rfl) hl (by decide) rfl (fun ls hl => ?_)
  have hI : lbI sp0 mod0 := Inv_0
  have hl : lv_has ls 9 [(0, .ref b), (1, .ref q1), (2, .ref (zA0 q3 v 0)), (3, .ref q5), (4, .int (nI (5 * 0)))] := lv_sub hl [4, 3, 2, 1, 0] rfl
  refine lb_loop hE hlt hL (fun d0 H locs ls cells slots hd0 hS h1 h2 => ?_) L 0 s.drawn sp0 mod0 (fun _ => 0) H locs ls _ _ hd0 (Nat.zero_le _) (by omega) hI hP hD hS hl (Nat.le_of_ble_eq_true rfl) (Nat.le_of_ble_eq_true rfl)
  refine lv_iconst (v := 1) hx hb (z_d hL_law_12 49 rfl) (by decide) ?_
  refine va_forget (fun q hq => hA1 _ (hS.2.2 q hq)) ?_
  exact W.widen (Nat.le_trans h1 (Nat.le_of_ble_eq_true rfl)) (Nat.le_trans h2 (Nat.le_of_ble_eq_true rfl)) (lw_ret hd0 hx hb hr hlocks (z_d hL_law_12 50 rfl))

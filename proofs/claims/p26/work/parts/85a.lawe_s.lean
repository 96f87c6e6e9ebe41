-- the law's own start, its turns, its end
theorem k_c_L_74 : Cond.classLink RL 74 RX6 ∈ zG := zG_at 39 (by decide +kernel) (by decide +kernel)
theorem k_n_X6 : Cond.instantiable RX6 9 ∈ zG := zG_at 40 (by decide +kernel) (by decide +kernel)
theorem k_z_X6 : Cond.initialized RX6 ∈ zG := zG_at 26 (by decide +kernel) (by decide +kernel)
theorem k_m_L_151 : Cond.methodLink RL 151 yX6_init ∈ zG := zG_at 41 (by decide +kernel) (by decide +kernel)
theorem k_m_L_152 : Cond.methodLink RL 152 yL_isSo ∈ zG := zG_at 729 (by decide +kernel) (by decide +kernel)
theorem k_m_L_156 : Cond.methodLink RL 156 yL_cell ∈ zG := zG_at 270 (by decide +kernel) (by decide +kernel)
theorem k_m_L_159 : Cond.methodLink RL 159 yL_acts ∈ zG := zG_at 284 (by decide +kernel) (by decide +kernel)
theorem k_i_L_7 : Cond.constant RL 7 (40503) ∈ zG := zG_at 273 (by decide +kernel) (by decide +kernel)
set_option maxRecDepth 100000 in
set_option maxHeartbeats 4000000 in
theorem vs_L_isSo : zSt yL_isSo cL_isSo 20 (some .boolean) 7 := ⟨zG_at 730 (by decide +kernel) (by decide +kernel), zG_at 25 (by decide +kernel) (by decide +kernel), zG_at 731 rfl (by decide +kernel), by decide +kernel⟩
set_option maxRecDepth 100000 in
set_option maxHeartbeats 4000000 in
theorem vs_L_acts : zSt yL_acts cL_acts 21 (some .boolean) 8 := ⟨zG_at 285 (by decide +kernel) (by decide +kernel), zG_at 25 (by decide +kernel) (by decide +kernel), zG_at 286 rfl (by decide +kernel), by decide +kernel⟩
theorem vs_L_cell : zSt yL_cell cL_cell 2 (some .int) 2 := ⟨zG_at 271 (by decide +kernel) (by decide +kernel), zG_at 25 (by decide +kernel) (by decide +kernel), zG_at 272 (by decide +kernel) (by decide +kernel), by decide +kernel⟩
theorem st_ex {args : Array Value} {s : State} (h : (Jvm.Cond.and given_1 narrow_1).before args s = true) : ∀ q ∈ zStr, (Cond.exactly (.string RX6 q.1) "java/lang/String").before args s = true := by
  have hs := flat_of_before _ h
  exact List.forall_mem_cons.mpr ⟨hs _ (by decide +kernel), List.forall_mem_cons.mpr ⟨hs _ (by decide +kernel), List.forall_mem_cons.mpr ⟨hs _ (by decide +kernel), List.forall_mem_cons.mpr ⟨hs _ (by decide +kernel), List.forall_mem_cons.mpr ⟨hs _ (by decide +kernel), List.forall_mem_cons.mpr ⟨hs _ (by decide +kernel), List.forall_mem_cons.mpr ⟨hs _ (by decide +kernel), List.forall_mem_cons.mpr ⟨hs _ (by decide +kernel), List.forall_mem_cons.mpr ⟨hs _ (by decide +kernel), List.forall_mem_cons.mpr ⟨hs _ (by decide +kernel), List.forall_mem_cons.mpr ⟨hs _ (by decide +kernel), List.forall_mem_cons.mpr ⟨hs _ (by decide +kernel), fun _ h => absurd h List.not_mem_nil⟩⟩⟩⟩⟩⟩⟩⟩⟩⟩⟩⟩
theorem st_nc {args : Array Value} {s : State} (h : (Jvm.Cond.and given_1 narrow_1).before args s = true) : zNc s := by
  have hs := flat_of_before _ h
  exact List.forall_mem_cons.mpr ⟨va_Nc.of (hs _ (by decide +kernel)), List.forall_mem_cons.mpr ⟨va_Nc.of (hs _ (by decide +kernel)), List.forall_mem_cons.mpr ⟨va_Nc.of (hs _ (by decide +kernel)), fun _ h => absurd h List.not_mem_nil⟩⟩⟩
theorem st_str : ∀ q ∈ zStr, Cond.stringRef RX6 q.1 q.2 ∈ lw_tbl := by decide +kernel
theorem st_nf : ∀ q ∈ z_nf, Cond.fieldLinkNest q.1 q.2.1 q.2.2.1 q.2.2.2.1 q.2.2.2.2.1 q.2.2.2.2.2 ∈ lw_tbl := by decide +kernel
theorem st_nm : ∀ q ∈ z_nm, Cond.methodLinkNest q.1 q.2.1 q.2.2.1 q.2.2.2 ∈ lw_tbl := by decide +kernel
theorem st_xc : ∀ q ∈ zXc, ∀ w ∈ vx_atS RX6 q.2.1 q.2.2 zXn, w ∈ lw_tbl := by decide +kernel
theorem st_ao : Cond.arrayOver (.object RX5) ∈ lw_tbl := by decide +kernel
theorem st_u : Cond.laysStatic Bundle.tN "UNASSIGNED_STACK" Bundle.steD ∈ lw_tbl := by decide +kernel
theorem st_s : Cond.laysStatic Bundle.tN "SUPPRESSED_SENTINEL" Bundle.listD ∈ lw_tbl := by decide +kernel
theorem st_ti : Cond.initialized Bundle.tN ∈ lw_tbl := by decide +kernel
theorem st_arr {args : Array Value} {s : State} {ty : FieldType} (h : (Cond.arrayClass ty).before args s = true) : ∃ cA, ArrOfT s cA ty ∧ s.vm.findClass ("[" ++ ty.toString) = some cA := by
  obtain ⟨cA, kA, comp, h1, h2, h3⟩ := Cond.arrayClass_spec h
  exact ⟨cA, fun n z => ⟨fun k e => (by cases e), kA, h2, comp, h3⟩, h1⟩
theorem st_arq {args : Array Value} {s : State} {C : String} (h : (Cond.arrayOver (.object C)).before args s = true) : ∃ cA, ArrOfT s cA (.object C) ∧ va_RA s cA (.object C) := by
  obtain ⟨comp, cA, kA, h1, h2, h3, h4, h5⟩ := Cond.arrayOver_spec h
  exact ⟨cA, fun n z => ⟨fun k e => (by cases e), kA, h3, comp, h4⟩, kA, comp, h3, h4, h1, h5⟩
theorem st_K {args : Array Value} {s : State} (hts : ∀ w ∈ zG, w.before args s = true) (hl : ∀ w ∈ lw_tbl, w.before args s = true) : ∃ Z : zZ, zK Z s := by
  have H : ∀ k : Nat, ∃ (cC : ClassId) (iS : Nat → Nat), ∀ q, vwCl[k]? = some q → u_Kn s q.1 q.2.1 q.2.2 cC iS := by
    intro k
    match k with
    | 0 => obtain ⟨a, b, h⟩ := u_known (C := RX0) (T := TX0) (N := 2) (n := 2) hts zinX0 (hts _ k_n_X0); exact ⟨a, b, fun q e => by cases e; exact h⟩
    | 1 => obtain ⟨a, b, h⟩ := u_known (C := RX1) (T := TX1) (N := 14) (n := 14) hts zinX1 (hts _ k_n_X1); exact ⟨a, b, fun q e => by cases e; exact h⟩
    | 2 => obtain ⟨a, b, h⟩ := u_known (C := RX3) (T := TX3) (N := 1) (n := 1) hts zinX3 (hts _ k_n_X3); exact ⟨a, b, fun q e => by cases e; exact h⟩
    | 3 => obtain ⟨a, b, h⟩ := u_known (C := RX3) (T := TX3) (N := 1) (n := 1) hts zinX3 (hts _ k_n_X3); exact ⟨a, b, fun q e => by cases e; exact h⟩
    | 4 => obtain ⟨a, b, h⟩ := u_known (C := RX4) (T := TX4) (N := 12) (n := 12) hts zinX4 (hts _ k_n_X4); exact ⟨a, b, fun q e => by cases e; exact h⟩
    | 5 => obtain ⟨a, b, h⟩ := u_known (C := RX5) (T := TX5) (N := 10) (n := 10) hts zinX5 (hts _ k_n_X5); exact ⟨a, b, fun q e => by cases e; exact h⟩
    | 6 => obtain ⟨a, b, h⟩ := u_known (C := RX6) (T := TX6) (N := 9) (n := 9) hts zinX6 (hts _ k_n_X6); exact ⟨a, b, fun q e => by cases e; exact h⟩
    | k + 7 => exact ⟨0, fun _ => 0, fun q e => by simp [vwCl] at e⟩
  obtain ⟨a1, p1, p2⟩ := st_arr (hts _ k_a_int)
  obtain ⟨a2, q1, q2⟩ := st_arq (hl _ st_ao)
  refine ⟨((fun k => Classical.choose (H k), fun k => Classical.choose (Classical.choose_spec (H k))), a1, a2, a1), ⟨fun k q e => Classical.choose_spec (Classical.choose_spec (H k)) q e, fun k q e => ?_⟩, fun q hq => va_Nw.of rfl (hl _ (st_nf q hq)), fun q hq => va_Nw.of rfl (hl _ (st_nm q hq))⟩
  match k, e with
  | 0, e => cases e; exact ⟨p1, p2⟩
  | 1, e => cases e; exact ⟨q1, q2⟩
  | k + 2, e => simp at e
theorem st_T {args : Array Value} {s : State} (hl : ∀ w ∈ lw_tbl, w.before args s = true) (h : (Jvm.Cond.and given_1 narrow_1).before args s = true) : ∃ sa, zTh sa (fun q => s.heap.size ≤ q) s s.heap := by
  have hs := flat_of_before _ h
  refine ⟨fun k => match (Term.string RX6 k).eval args s none [] s with | some (.ref a) => a | _ => 0, fun q hq => ?_, fun q hq w hw => vx_ot_at (State.WarmedH.refl s) rfl (zXc_ot q hq w hw) (hl _ (st_xc q hq w hw)), vx_Zqof (hl _ st_u) (hl _ st_ti) (hs _ (by decide +kernel)) (fun a h1 => Nat.not_le.mpr h1), vx_Zqof (hl _ st_s) (hl _ st_ti) (hs _ (by decide +kernel)) (fun a h1 => Nat.not_le.mpr h1)⟩
  obtain ⟨a, -, -, -, e, -⟩ := Cond.exactly_spec (st_ex h q hq)
  refine vk_R.of (A := args) (hl _ (st_str q hq)) ?_
  show _ = some (Value.ref (match (Term.string RX6 q.1).eval args s none [] s with | some (.ref a) => a | _ => 0))
  rw [e]

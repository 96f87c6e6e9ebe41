-- the law's own body
def cellV (L : Nat) (xs : Nat → Int32) (k : Nat) : Int32 := if k < L then xs k else 40503 * (nI k + 3)
def zPcl (b L : Nat) (xs : Nat → Int32) (av : List Value) : Array Value → State → Prop := va_Pc av (fun U => va_X b L xs U U.heap ∧ b < U.heap.size)
theorem zPcl_blind {b L : Nat} {xs : Nat → Int32} {av : List Value} : FrameBlind (zPcl b L xs av) := fun a U g mk h => ⟨h.1, va_X.moved (u := U) (Vm.Alike.refl U.vm) h.2.1, h.2.2⟩
def rm_L_cell : Room := { frames := 0, cells := 0, slots := 0, locals := 0 }
theorem c_L_cell (l : Launch) (b L : Nat) (xs : Nat → Int32) (hL : L ≤ 260) (k : Nat) (hk : k < 1000) : Met l yL_cell (zw yL_cell cL_cell 2 (some .int)) rm_L_cell (zPcl b L xs [.ref b, .int (nI k)]) (zQro (some (.int (cellV L xs k)))) 0 0 (fun _ => False) := by
  refine Met.ofW (cc := cL_cell) (maxL := 2) (ret := some .int) (by decide) rfl ?_
  intro p e s m args below meth c s₁ B hml hv
  obtain ⟨rfl, hX, hbl⟩ := hv
  have hts := atoms_spec (ws := zw yL_cell cL_cell 2 (some .int)) B.pre
  have hts : ∀ w ∈ zG, w.before ([.ref b, .int (nI k)] : List Value).toArray s = true := fun w h => hts w (List.mem_cons_of_mem _ h)
  have hown : s.vm.findClass RL = some m.cls := findClass_of_methodNamed B.named
  have hx := B.exec
  have hb := B.bytes
  have hr := B.returns
  have hlocks := B.notSynchronized
  have hl := lv_entry ([.ref b, .int (nI k)] : List Value) (n := 2) (Nat.le_of_ble_eq_true rfl)
  have hS : va_S (fun _ => False) s.heap s.heap [] := va_S.rf
  have body : ∀ ls, lv_has ls 2 [(0, .ref b), (1, .int (nI k))] → W p l e rm_L_cell s m ([.ref b, .int (nI k)] : List Value).toArray below meth c s.heap [] 0 0 (MQ below (zQro (some (.int (cellV L xs k)))) ([.ref b, .int (nI k)] : List Value).toArray s 0 0 (fun _ => False)) (F0 m 0 ls []) := by
    intro ls hl
    refine lv_iload_n hx hb (z_d hL_cell_0 0 rfl) rfl (lv_at hl 1 rfl) ?_
    refine lv_aload_n hx hb (z_d hL_cell_0 1 rfl) rfl (lv_at hl 0 rfl) ?_
    refine va_slen hx hb hX hbl (fun h => h) hS (z_d hL_cell_0 2 rfl) ?_
    refine lv_icmp_ge (tgt := 12) hx hb (z_d hL_cell_0 3 rfl) (by decide) (fun h => ?_) (fun h => ?_)
    · have h2 : L ≤ k := (nI_leI (by omega) (by omega)).mp h
      refine lv_ldc (v := 40503) hx hb hown (hts _ k_i_L_7) (z_d hL_cell_0 8 rfl) ?_
      refine lv_iload_n hx hb (z_d hL_cell_0 9 rfl) rfl (lv_at hl 1 rfl) ?_
      refine lv_iconst (v := 3) hx hb (z_d hL_cell_0 10 rfl) (by decide) ?_
      refine lv_iadd hx hb (z_d hL_cell_0 11 rfl) ?_
      refine lv_imul hx hb (z_d hL_cell_0 12 rfl) ?_
      refine lv_topE (show (40503 : Int32) * (nI k + 3) = cellV L xs k by unfold cellV; rw [if_neg (by omega)]) ?_
      exact W.iret hx hb hr (fun t ht hW => zq_ro (hS.F ht)) hS.2.2 (z_d hL_cell_0 13 rfl) hlocks
    · have h2 : k < L := by
        by_cases z : k < L
        · exact z
        · exact absurd ((nI_leI (a := L) (b := k) (by omega) (by omega)).mpr (by omega)) h
      refine lv_aload_n hx hb (z_d hL_cell_0 4 rfl) rfl (lv_at hl 0 rfl) ?_
      refine lv_iload_n hx hb (z_d hL_cell_0 5 rfl) rfl (lv_at hl 1 rfl) ?_
      refine va_sld hx hb hX hbl (fun h => h) hS (vp_in_nI h2 (by omega)) (z_d hL_cell_0 6 rfl) ?_
      refine lv_topE (show xs (nI k).toNatClampNeg = cellV L xs k by unfold cellV; rw [if_pos h2, nI_clamp (by omega)]) ?_
      refine lv_goto (tgt := 18) hx hb (z_d hL_cell_0 7 rfl) (by decide) ?_
      exact W.iret hx hb hr (fun t ht hW => zq_ro (hS.F ht)) hS.2.2 (z_d hL_cell_0 13 rfl) hlocks
  rw [lg_entry_eq]
  exact body _ hl
def lwE (p : Program) (s : State) (m : MethodId) (args : Array Value) (c : Code) (b N : Nat) (xs : Nat → Int32) (A0 : Nat → Prop) (H0 : Heap) (Z : zZ) (sa : Nat → Nat) : Prop :=
  p.tables.exec = Jvm.exec ∧ c.code = code ∧ c.maxLocals = 11 ∧ s.vm.findClass RL = some m.cls ∧ (∀ w ∈ zG, w.before args s = true) ∧ va_X b N xs s H0 ∧ b < H0.size ∧ ¬ A0 b ∧ zK Z s ∧ zTh sa A0 s H0 ∧ zNc s ∧ va_AO RX5 s ∧ ∀ q, H0.size ≤ q → A0 q
set_option maxRecDepth 100000 in
set_option maxHeartbeats 4000000 in
theorem lw_end {p : Program} {l : Launch} {e : Env} {s : State} {m : MethodId} {args : Array Value} {below : List Frame} {meth : Method} {c : Code} {b L : Nat} {xs : Nat → Int32} {A0 : Nat → Prop} {H0 : Heap} {Z : zZ} {sa : Nat → Nat} (hE : lwE p s m args c b L xs A0 H0 Z sa) (hlt : l.stackTraces = false) (hL : L ≤ 260) {mm : Nat} {u : t_SPa} {ag ak al ap ab am : Nat} {T : Nat} {Q : State → Prop} (END : ∀ (H : Heap) (locs : List Loc) (ls : Array Slot) (cells slots : Nat), va_S A0 H0 H locs → cells ≤ 600 → slots ≤ 40000 → W p l e room_1 s m args below meth c H locs cells slots Q (F0 m 228 ls [.int 1])) (j : Nat) (x : t_SP) (g k ln pr lb mk : Rw) (n Ln : Nat) (H : Heap) (locs : List Loc) (ls : Array Slot) (cells slots : Nat) : IX x n Ln → LR x.2.1 n Ln g k ln pr lb mk → va_P Z.1 vwCl (List.flatten [w_SP Z mm u x, w_Arr Z.2.1 2 ag g, w_Arr Z.2.1 41 ak k, w_Arr Z.2.1 41 al ln, w_Arr Z.2.1 41 ap pr, w_Arr Z.2.1 41 ab lb, w_Arr Z.2.1 41 am mk]) H → va_D A0 (List.flatten [w_SP Z mm u x, w_Arr Z.2.1 2 ag g, w_Arr Z.2.1 41 ak k, w_Arr Z.2.1 41 al ln, w_Arr Z.2.1 41 ap pr, w_Arr Z.2.1 41 ab lb, w_Arr Z.2.1 41 am mk]) → va_S A0 H0 H locs → lv_has ls 11 [(0, .ref b), (1, .ref mm), (2, .ref ag), (3, .ref ak), (4, .ref al), (5, .ref ap), (6, .ref ab), (7, .ref am), (8, .int 1), (9, .int (nI T)), (10, .int (nI (j)))] → cells ≤ 590 → slots ≤ 39000 → W p l e room_1 s m args below meth c H locs cells slots Q (F0 m 161 ls []) := by
  intro hI hR hP hD hS hl hc hs
  obtain ⟨hx, hb, hml, hown, hts, hX, hbl, hbA, hK, hT, hN, hO, hA0⟩ := hE
  have hn := hR.2.2.1
  refine lv_iload hx hb (z_d hL_law_1 27 rfl) (lv_at hl 8 rfl) ?_
  refine lv_if_eq (tgt := 227) hx hb (z_d hL_law_1 28 rfl) (by decide) (fun h => absurd h (by decide)) (fun _ => ?_)
  refine lv_aload_n hx hb (z_d hL_law_1 29 rfl) rfl (lv_at hl 1 rfl) ?_
  refine lv_aload_n hx hb (z_d hL_law_1 30 rfl) rfl (lv_at hl 2 rfl) ?_
  refine lv_aload_n hx hb (z_d hL_law_1 31 rfl) rfl (lv_at hl 3 rfl) ?_
  refine lv_aload hx hb (z_d hL_law_1 32 rfl) (lv_at hl 4 rfl) ?_
  refine lv_aload hx hb (z_d hL_law_1 33 rfl) (lv_at hl 5 rfl) ?_
  refine lv_aload hx hb (z_d hL_law_1 34 rfl) (lv_at hl 6 rfl) ?_
  refine lv_aload hx hb (z_d hL_law_1 35 rfl) (lv_at hl 7 rfl) ?_
  refine z_kmN (L := [w_SP Z mm u x, w_Arr Z.2.1 2 ag g, w_Arr Z.2.1 41 ak k, w_Arr Z.2.1 41 al ln, w_Arr Z.2.1 41 ap pr, w_Arr Z.2.1 41 ab lb, w_Arr Z.2.1 41 am mk]) (L' := [w_SP Z mm u x, w_Arr Z.2.1 2 ag g, w_Arr Z.2.1 41 ak k, w_Arr Z.2.1 41 al ln, w_Arr Z.2.1 41 ap pr, w_Arr Z.2.1 41 ab lb, w_Arr Z.2.1 41 am mk]) [(0, w_SP Z mm u x, w_SP Z mm u x), (1, w_Arr Z.2.1 2 ag g, w_Arr Z.2.1 2 ag g), (2, w_Arr Z.2.1 41 ak k, w_Arr Z.2.1 41 ak k), (3, w_Arr Z.2.1 41 al ln, w_Arr Z.2.1 41 al ln), (4, w_Arr Z.2.1 41 ap pr, w_Arr Z.2.1 41 ap pr), (5, w_Arr Z.2.1 41 ab lb, w_Arr Z.2.1 41 ab lb), (6, w_Arr Z.2.1 41 am mk, w_Arr Z.2.1 41 am mk)] (z_rKM (As := [.ref mm, .ref ag, .ref ak, .ref al, .ref ap, .ref ab, .ref am]) (rest := []) hx hb hml hown hts vs_L_isSo (c_L_isSo l hlt Z sa H.size mm u ag ak al ap ab am x g k ln pr lb mk _ (isSo_l hI hR)) rfl rfl ⟨Nat.le_of_ble_eq_true rfl, Nat.le_of_ble_eq_true rfl⟩ k_m_L_152 hK ((hT.kept hS.2.1).narrow (zkA hS hA0 (zDq [(0, w_SP Z mm u x, w_SP Z mm u x), (1, w_Arr Z.2.1 2 ag g, w_Arr Z.2.1 2 ag g), (2, w_Arr Z.2.1 41 ak k, w_Arr Z.2.1 41 ak k), (3, w_Arr Z.2.1 41 al ln, w_Arr Z.2.1 41 al ln), (4, w_Arr Z.2.1 41 ap pr, w_Arr Z.2.1 41 ap pr), (5, w_Arr Z.2.1 41 ab lb, w_Arr Z.2.1 41 ab lb), (6, w_Arr Z.2.1 41 am mk, w_Arr Z.2.1 41 am mk)] hD (List.forall_mem_cons.mpr ⟨⟨rfl, (adr_SP _ _ _ _ _)⟩, (List.forall_mem_cons.mpr ⟨⟨rfl, rfl⟩, (List.forall_mem_cons.mpr ⟨⟨rfl, rfl⟩, (List.forall_mem_cons.mpr ⟨⟨rfl, rfl⟩, (List.forall_mem_cons.mpr ⟨⟨rfl, rfl⟩, (List.forall_mem_cons.mpr ⟨⟨rfl, rfl⟩, (List.forall_mem_cons.mpr ⟨⟨rfl, rfl⟩, (fun _ h => absurd h List.not_mem_nil)⟩)⟩)⟩)⟩)⟩)⟩)⟩) (show List.Nodup [0, 1, 2, 3, 4, 5, 6] by decide)))) hN (zP_c (zP_reg hP 0 rfl) (zP_c (zP_reg hP 1 rfl) (zP_c (zP_reg hP 2 rfl) (zP_c (zP_reg hP 3 rfl) (zP_c (zP_reg hP 4 rfl) (zP_c (zP_reg hP 5 rfl) (zP_c (zP_reg hP 6 rfl) zP_n))))))) (zDq [(0, w_SP Z mm u x, w_SP Z mm u x), (1, w_Arr Z.2.1 2 ag g, w_Arr Z.2.1 2 ag g), (2, w_Arr Z.2.1 41 ak k, w_Arr Z.2.1 41 ak k), (3, w_Arr Z.2.1 41 al ln, w_Arr Z.2.1 41 al ln), (4, w_Arr Z.2.1 41 ap pr, w_Arr Z.2.1 41 ap pr), (5, w_Arr Z.2.1 41 ab lb, w_Arr Z.2.1 41 ab lb), (6, w_Arr Z.2.1 41 am mk, w_Arr Z.2.1 41 am mk)] hD (List.forall_mem_cons.mpr ⟨⟨rfl, (adr_SP _ _ _ _ _)⟩, (List.forall_mem_cons.mpr ⟨⟨rfl, rfl⟩, (List.forall_mem_cons.mpr ⟨⟨rfl, rfl⟩, (List.forall_mem_cons.mpr ⟨⟨rfl, rfl⟩, (List.forall_mem_cons.mpr ⟨⟨rfl, rfl⟩, (List.forall_mem_cons.mpr ⟨⟨rfl, rfl⟩, (List.forall_mem_cons.mpr ⟨⟨rfl, rfl⟩, (fun _ h => absurd h List.not_mem_nil)⟩)⟩)⟩)⟩)⟩)⟩)⟩) (show List.Nodup [0, 1, 2, 3, 4, 5, 6] by decide)) rfl hl.1 (Nat.le_of_ble_eq_true rfl) (z_d hL_law_1 36 rfl) ⟨by show _ ≤ 600104; omega, by show _ ≤ 7301314; omega⟩) hS hA0 hP hD (List.forall_mem_cons.mpr ⟨⟨rfl, (adr_SP _ _ _ _ _)⟩, (List.forall_mem_cons.mpr ⟨⟨rfl, rfl⟩, (List.forall_mem_cons.mpr ⟨⟨rfl, rfl⟩, (List.forall_mem_cons.mpr ⟨⟨rfl, rfl⟩, (List.forall_mem_cons.mpr ⟨⟨rfl, rfl⟩, (List.forall_mem_cons.mpr ⟨⟨rfl, rfl⟩, (List.forall_mem_cons.mpr ⟨⟨rfl, rfl⟩, (fun _ h => absurd h List.not_mem_nil)⟩)⟩)⟩)⟩)⟩)⟩)⟩) (show List.Nodup [0, 1, 2, 3, 4, 5, 6] by decide) rfl rfl rfl (fun H locs hP hD hS => ?_)
  refine W.eq (g2 := F0 m 180 ls [.int 1]) rfl ?_
  refine lv_if_eq (tgt := 227) hx hb (z_d hL_law_1 37 rfl) (by decide) (fun h => absurd h (by decide)) (fun _ => ?_)
  refine lv_aload_n hx hb (z_d hL_law_1 38 rfl) rfl (lv_at hl 1 rfl) ?_
  refine lv_aload_n hx hb (z_d hL_law_1 39 rfl) rfl (lv_at hl 2 rfl) ?_
  refine lv_iconst (v := 0) hx hb (z_d hL_law_1 40 rfl) (by decide) ?_
  refine va_iald (D := Z.1) (f := g) hx hb hK.1 (zP_reg hP 1 rfl) 0 0 rfl rfl (show vp_in (nI 0) 2 from vp_in_nI (by decide) (by decide)) (z_d hL_law_1 41 rfl) ?_
  refine lv_topE (show g (0 : Int32).toNatClampNeg = nI n by rw [cl0]; exact hR.1) ?_
  refine lv_iconst (v := 0) hx hb (z_d hL_law_1 42 rfl) (by decide) ?_
  refine z_muN (L := [w_SP Z mm u x, w_Arr Z.2.1 2 ag g, w_Arr Z.2.1 41 ak k, w_Arr Z.2.1 41 al ln, w_Arr Z.2.1 41 ap pr, w_Arr Z.2.1 41 ab lb, w_Arr Z.2.1 41 am mk]) (L' := [w_SP Z mm u x, w_Arr Z.2.1 2 ag g, w_Arr Z.2.1 41 ak k, w_Arr Z.2.1 41 al ln, w_Arr Z.2.1 41 ap pr, w_Arr Z.2.1 41 ab lb, w_Arr Z.2.1 41 am mk]) [(0, w_SP Z mm u x, w_SP Z mm u x)] (z_rL (As := [.ref mm, .int (nI n), .int 0]) (rest := []) hx hb hml hown hts ht_L_elementOf (c_L_elementOf l hlt Z sa mm u x (nI n) 0 _ (end_e hI hn)) rfl rfl ⟨Nat.le_of_ble_eq_true rfl, Nat.le_of_ble_eq_true rfl⟩ k_m_L_137 hK ((hT.kept hS.2.1).narrow (z_zA (zDq [(0, w_SP Z mm u x, w_SP Z mm u x)] hD (List.forall_mem_cons.mpr ⟨⟨rfl, (adr_SP _ _ _ _ _)⟩, (fun _ h => absurd h List.not_mem_nil)⟩) (show List.Nodup [0] by decide)))) hN (zP_c (zP_reg hP 0 rfl) zP_n) (zDq [(0, w_SP Z mm u x, w_SP Z mm u x)] hD (List.forall_mem_cons.mpr ⟨⟨rfl, (adr_SP _ _ _ _ _)⟩, (fun _ h => absurd h List.not_mem_nil)⟩) (show List.Nodup [0] by decide)) rfl hl.1 (Nat.le_of_ble_eq_true rfl) (z_d hL_law_1 43 rfl) ⟨by show _ ≤ 600104; omega, by show _ ≤ 7301314; omega⟩) hS hP hD (List.forall_mem_cons.mpr ⟨⟨rfl, (adr_SP _ _ _ _ _)⟩, (fun _ h => absurd h List.not_mem_nil)⟩) (show List.Nodup [0] by decide) rfl rfl rfl (fun H locs hP hD hS => ?_)
  refine W.eq (g2 := F0 m 191 ls [.int (-100001)]) rfl ?_
  refine lv_ldc (v := -100001) hx hb hown (hts _ k_i_L_48) (z_d hL_law_1 44 rfl) ?_
  refine lv_icmp_ne (tgt := 227) hx hb (z_d hL_law_1 45 rfl) (by decide) (fun h => absurd rfl h) (fun _ => ?_)
  refine lv_aload_n hx hb (z_d hL_law_1 46 rfl) rfl (lv_at hl 1 rfl) ?_
  refine lv_aload_n hx hb (z_d hL_law_1 47 rfl) rfl (lv_at hl 2 rfl) ?_
  refine lv_aload_n hx hb (z_d hL_law_1 48 rfl) rfl (lv_at hl 3 rfl) ?_
  refine z_ro_i (z_rS (As := [.ref ag, .ref ak]) (rest := [.ref mm]) hx hb hml hown hts vs_L_scenes (c_L_scenes l Z ag ak g k _ (scenes_l hI.1 hR)) rfl rfl ⟨Nat.le_of_ble_eq_true rfl, Nat.le_of_ble_eq_true rfl⟩ k_m_L_90 zPro_blind (z_prec hK (zP_c (zP_reg hP 1 rfl) (zP_c (zP_reg hP 2 rfl) zP_n))) rfl hl.1 (Nat.le_of_ble_eq_true rfl) (z_d hL_law_1 49 rfl) ⟨by show _ ≤ 600104; omega, by show _ ≤ 7301314; omega⟩) hS hP (fun H locs hP hS => ?_)
  refine W.eq (g2 := F0 m 202 ls [.int (nI (hcN x.2.1.2.2.1 n)), .ref mm]) rfl ?_
  refine lv_iconst (v := 0) hx hb (z_d hL_law_1 50 rfl) (by decide) ?_
  refine z_muN (L := [w_SP Z mm u x, w_Arr Z.2.1 2 ag g, w_Arr Z.2.1 41 ak k, w_Arr Z.2.1 41 al ln, w_Arr Z.2.1 41 ap pr, w_Arr Z.2.1 41 ab lb, w_Arr Z.2.1 41 am mk]) (L' := [w_SP Z mm u x, w_Arr Z.2.1 2 ag g, w_Arr Z.2.1 41 ak k, w_Arr Z.2.1 41 al ln, w_Arr Z.2.1 41 ap pr, w_Arr Z.2.1 41 ab lb, w_Arr Z.2.1 41 am mk]) [(0, w_SP Z mm u x, w_SP Z mm u x)] (z_rL (As := [.ref mm, .int (nI (hcN x.2.1.2.2.1 n)), .int 0]) (rest := []) hx hb hml hown hts ht_L_sceneOf (c_L_sceneOf l hlt Z sa mm u x (nI (hcN x.2.1.2.2.1 n)) 0 _ (end_s hI hn)) rfl rfl ⟨Nat.le_of_ble_eq_true rfl, Nat.le_of_ble_eq_true rfl⟩ k_m_L_140 hK ((hT.kept hS.2.1).narrow (z_zA (zDq [(0, w_SP Z mm u x, w_SP Z mm u x)] hD (List.forall_mem_cons.mpr ⟨⟨rfl, (adr_SP _ _ _ _ _)⟩, (fun _ h => absurd h List.not_mem_nil)⟩) (show List.Nodup [0] by decide)))) hN (zP_c (zP_reg hP 0 rfl) zP_n) (zDq [(0, w_SP Z mm u x, w_SP Z mm u x)] hD (List.forall_mem_cons.mpr ⟨⟨rfl, (adr_SP _ _ _ _ _)⟩, (fun _ h => absurd h List.not_mem_nil)⟩) (show List.Nodup [0] by decide)) rfl hl.1 (Nat.le_of_ble_eq_true rfl) (z_d hL_law_1 51 rfl) ⟨by show _ ≤ 600104; omega, by show _ ≤ 7301314; omega⟩) hS hP hD (List.forall_mem_cons.mpr ⟨⟨rfl, (adr_SP _ _ _ _ _)⟩, (fun _ h => absurd h List.not_mem_nil)⟩) (show List.Nodup [0] by decide) rfl rfl rfl (fun H locs hP hD hS => ?_)
  refine W.eq (g2 := F0 m 206 ls [.int (-100001)]) rfl ?_
  refine lv_ldc (v := -100001) hx hb hown (hts _ k_i_L_48) (z_d hL_law_1 52 rfl) ?_
  refine lv_icmp_ne (tgt := 227) hx hb (z_d hL_law_1 53 rfl) (by decide) (fun h => absurd rfl h) (fun _ => ?_)
  refine lv_aload_n hx hb (z_d hL_law_1 54 rfl) rfl (lv_at hl 1 rfl) ?_
  refine lv_bipush (v := 10) hx hb (z_d hL_law_1 55 rfl) (by decide) ?_
  refine lv_iconst (v := 1) hx hb (z_d hL_law_1 56 rfl) (by decide) ?_
  refine z_muN (L := [w_SP Z mm u x, w_Arr Z.2.1 2 ag g, w_Arr Z.2.1 41 ak k, w_Arr Z.2.1 41 al ln, w_Arr Z.2.1 41 ap pr, w_Arr Z.2.1 41 ab lb, w_Arr Z.2.1 41 am mk]) (L' := [w_SP Z mm u x, w_Arr Z.2.1 2 ag g, w_Arr Z.2.1 41 ak k, w_Arr Z.2.1 41 al ln, w_Arr Z.2.1 41 ap pr, w_Arr Z.2.1 41 ab lb, w_Arr Z.2.1 41 am mk]) [(0, w_SP Z mm u x, w_SP Z mm u x)] (z_rL (As := [.ref mm, .int 10, .int 1]) (rest := []) hx hb hml hown hts ht_L_namesBy (c_L_namesBy l hlt Z sa mm u x 10 1 _ (end_n x)) rfl rfl ⟨Nat.le_of_ble_eq_true rfl, Nat.le_of_ble_eq_true rfl⟩ k_m_L_147 hK ((hT.kept hS.2.1).narrow (z_zA (zDq [(0, w_SP Z mm u x, w_SP Z mm u x)] hD (List.forall_mem_cons.mpr ⟨⟨rfl, (adr_SP _ _ _ _ _)⟩, (fun _ h => absurd h List.not_mem_nil)⟩) (show List.Nodup [0] by decide)))) hN (zP_c (zP_reg hP 0 rfl) zP_n) (zDq [(0, w_SP Z mm u x, w_SP Z mm u x)] hD (List.forall_mem_cons.mpr ⟨⟨rfl, (adr_SP _ _ _ _ _)⟩, (fun _ h => absurd h List.not_mem_nil)⟩) (show List.Nodup [0] by decide)) rfl hl.1 (Nat.le_of_ble_eq_true rfl) (z_d hL_law_1 57 rfl) ⟨by show _ ≤ 600104; omega, by show _ ≤ 7301314; omega⟩) hS hP hD (List.forall_mem_cons.mpr ⟨⟨rfl, (adr_SP _ _ _ _ _)⟩, (fun _ h => absurd h List.not_mem_nil)⟩) (show List.Nodup [0] by decide) rfl rfl rfl (fun H locs hP hD hS => ?_)
  refine W.eq (g2 := F0 m 218 ls [.int (-100002)]) rfl ?_
  refine lv_ldc (v := -100002) hx hb hown (hts _ k_i_L_105) (z_d hL_law_1 58 rfl) ?_
  refine lv_icmp_ne (tgt := 227) hx hb (z_d hL_law_1 59 rfl) (by decide) (fun h => absurd rfl h) (fun _ => ?_)
  refine lv_iconst (v := 1) hx hb (z_d hL_law_2 0 rfl) (by decide) ?_
  refine lv_goto (tgt := 228) hx hb (z_d hL_law_2 1 rfl) (by decide) ?_
  exact END H locs ls _ _ hS (by omega) (by omega)
set_option maxRecDepth 100000 in
set_option maxHeartbeats 4000000 in
theorem lw_loop {p : Program} {l : Launch} {e : Env} {s : State} {m : MethodId} {args : Array Value} {below : List Frame} {meth : Method} {c : Code} {b L : Nat} {xs : Nat → Int32} {A0 : Nat → Prop} {H0 : Heap} {Z : zZ} {sa : Nat → Nat} (hE : lwE p s m args c b L xs A0 H0 Z sa) (hlt : l.stackTraces = false) (hL : L ≤ 260) {mm : Nat} {u : t_SPa} {ag ak al ap ab am : Nat} {T : Nat} {Q : State → Prop} (hT9 : T < 80) (END : ∀ (H : Heap) (locs : List Loc) (ls : Array Slot) (cells slots : Nat), va_S A0 H0 H locs → cells ≤ 600 → slots ≤ 40000 → W p l e room_1 s m args below meth c H locs cells slots Q (F0 m 228 ls [.int 1])) : ∀ (d j : Nat) (x : t_SP) (g k ln pr lb mk : Rw) (n Ln : Nat) (H : Heap) (locs : List Loc) (ls : Array Slot) (cells slots : Nat), T - j = d → j ≤ T → IX x n Ln → LR x.2.1 n Ln g k ln pr lb mk → va_P Z.1 vwCl (List.flatten [w_SP Z mm u x, w_Arr Z.2.1 2 ag g, w_Arr Z.2.1 41 ak k, w_Arr Z.2.1 41 al ln, w_Arr Z.2.1 41 ap pr, w_Arr Z.2.1 41 ab lb, w_Arr Z.2.1 41 am mk]) H → va_D A0 (List.flatten [w_SP Z mm u x, w_Arr Z.2.1 2 ag g, w_Arr Z.2.1 41 ak k, w_Arr Z.2.1 41 al ln, w_Arr Z.2.1 41 ap pr, w_Arr Z.2.1 41 ab lb, w_Arr Z.2.1 41 am mk]) → va_S A0 H0 H locs → lv_has ls 11 [(0, .ref b), (1, .ref mm), (2, .ref ag), (3, .ref ak), (4, .ref al), (5, .ref ap), (6, .ref ab), (7, .ref am), (8, .int 1), (9, .int (nI T)), (10, .int (nI (j)))] → cells ≤ 200 + 4 * j → slots ≤ 6000 + 187 * j → W p l e room_1 s m args below meth c H locs cells slots Q (F0 m 80 ls []) := by
  intro d
  induction d with
  | zero =>
    intro j x g k ln pr lb mk n Ln H locs ls cells slots hd hj hI hR hP hD hS hl hc hs
    obtain ⟨hx, hb, hml, hown, hts, hX, hbl, hbA, hK, hT, hN, hO, hA0⟩ := id hE
    refine lv_iload hx hb (z_d hL_law_0 45 rfl) (lv_at hl 10 rfl) ?_
    refine lv_iload hx hb (z_d hL_law_0 46 rfl) (lv_at hl 9 rfl) ?_
    refine lv_icmp_ge (tgt := 161) hx hb (z_d hL_law_0 47 rfl) (by decide) (fun _ => ?_) (fun h => absurd (nI_le (by omega) (by omega)) h)
    exact lw_end hE hlt hL END j x g k ln pr lb mk n Ln H locs ls cells slots hI hR hP hD hS hl (by omega) (by omega)
  | succ d ih =>
    intro j x g k ln pr lb mk n Ln H locs ls cells slots hd hj hI hR hP hD hS hl hc hs
    obtain ⟨hx, hb, hml, hown, hts, hX, hbl, hbA, hK, hT, hN, hO, hA0⟩ := id hE
    have tail : ∀ (x : t_SP) (g k ln pr lb mk : Rw) (n Ln : Nat) (H : Heap) (locs : List Loc) (ls : Array Slot) (cells slots : Nat), IX x n Ln → LR x.2.1 n Ln g k ln pr lb mk → va_P Z.1 vwCl (List.flatten [w_SP Z mm u x, w_Arr Z.2.1 2 ag g, w_Arr Z.2.1 41 ak k, w_Arr Z.2.1 41 al ln, w_Arr Z.2.1 41 ap pr, w_Arr Z.2.1 41 ab lb, w_Arr Z.2.1 41 am mk]) H → va_D A0 (List.flatten [w_SP Z mm u x, w_Arr Z.2.1 2 ag g, w_Arr Z.2.1 41 ak k, w_Arr Z.2.1 41 al ln, w_Arr Z.2.1 41 ap pr, w_Arr Z.2.1 41 ab lb, w_Arr Z.2.1 41 am mk]) → va_S A0 H0 H locs → lv_has ls 11 [(0, .ref b), (1, .ref mm), (2, .ref ag), (3, .ref ak), (4, .ref al), (5, .ref ap), (6, .ref ab), (7, .ref am), (8, .int 1), (9, .int (nI T)), (10, .int (nI (j)))] → cells ≤ 200 + 4 * j + 4 → slots ≤ 6000 + 187 * j + 187 → W p l e room_1 s m args below meth c H locs cells slots Q (F0 m 148 ls []) := by
      intro x g k ln pr lb mk n Ln H locs ls cells slots hI hR hP hD hS hl hc hs
      refine lv_iconst (v := 1) hx hb (z_d hL_law_1 21 rfl) (by decide) ?_
      refine lv_goto (tgt := 153) hx hb (z_d hL_law_1 22 rfl) (by decide) ?_
      refine lv_istore (lv' := [(8, .int 1), (0, .ref b), (1, .ref mm), (2, .ref ag), (3, .ref ak), (4, .ref al), (5, .ref ap), (6, .ref ab), (7, .ref am), (9, .int (nI T)), (10, .int (nI j))]) hx hb (z_d hL_law_1 24 rfl) hl (by decide) rfl (fun ls hl => ?_)
      refine lv_iinc (v := nI (j + 1)) (lv' := [(10, .int (nI (j + 1))), (8, .int 1), (0, .ref b), (1, .ref mm), (2, .ref ag), (3, .ref ak), (4, .ref al), (5, .ref ap), (6, .ref ab), (7, .ref am), (9, .int (nI T))]) hx hb (z_d hL_law_1 25 rfl) hl (k := 10) rfl (nI_1 j) (by decide) rfl (fun ls hl => ?_)
      refine lv_goto (tgt := 80) hx hb (z_d hL_law_1 26 rfl) (by decide) ?_
      exact ih (j + 1) x g k ln pr lb mk n Ln H locs ls cells slots (by omega) (by omega) hI hR hP hD hS (lv_sub hl [2, 3, 4, 5, 6, 7, 8, 9, 1, 10, 0] rfl) (by omega) (by omega)
    refine lv_iload hx hb (z_d hL_law_0 45 rfl) (lv_at hl 10 rfl) ?_
    refine lv_iload hx hb (z_d hL_law_0 46 rfl) (lv_at hl 9 rfl) ?_
    refine lv_icmp_ge (tgt := 161) hx hb (z_d hL_law_0 47 rfl) (by decide) (fun h => ?_) (fun _ => ?_)
    · exact lw_end hE hlt hL END j x g k ln pr lb mk n Ln H locs ls cells slots hI hR hP hD hS hl (by omega) (by omega)
    refine lv_iload hx hb (z_d hL_law_0 48 rfl) (lv_at hl 8 rfl) ?_
    refine lv_if_eq (tgt := 161) hx hb (z_d hL_law_0 49 rfl) (by decide) (fun h => absurd h (by decide)) (fun _ => ?_)
    refine lv_aload_n hx hb (z_d hL_law_0 50 rfl) rfl (lv_at hl 1 rfl) ?_
    refine lv_aload_n hx hb (z_d hL_law_0 51 rfl) rfl (lv_at hl 2 rfl) ?_
    refine lv_aload_n hx hb (z_d hL_law_0 52 rfl) rfl (lv_at hl 3 rfl) ?_
    refine lv_aload hx hb (z_d hL_law_0 53 rfl) (lv_at hl 4 rfl) ?_
    refine lv_aload hx hb (z_d hL_law_0 54 rfl) (lv_at hl 5 rfl) ?_
    refine lv_aload hx hb (z_d hL_law_0 55 rfl) (lv_at hl 6 rfl) ?_
    refine lv_aload hx hb (z_d hL_law_0 56 rfl) (lv_at hl 7 rfl) ?_
    refine lv_aload_n hx hb (z_d hL_law_0 57 rfl) rfl (lv_at hl 0 rfl) ?_
    refine lv_iconst (v := 1) hx hb (z_d hL_law_0 58 rfl) (by decide) ?_
    refine lv_iload hx hb (z_d hL_law_0 59 rfl) (lv_at hl 10 rfl) ?_
    refine lv_iadd hx hb (z_d hL_law_1 0 rfl) ?_
    refine lv_topE (show (1 : Int32) + nI j = nI (1 + j) from nI_add 1 j) ?_
    refine z_ro_i (z_rS (As := [.ref b, .int (nI (1 + j))]) (rest := [.ref am, .ref ab, .ref ap, .ref al, .ref ak, .ref ag, .ref mm]) hx hb hml hown hts vs_L_cell (c_L_cell l b L xs hL (1 + j) (by omega)) rfl rfl ⟨Nat.le_of_ble_eq_true rfl, Nat.le_of_ble_eq_true rfl⟩ k_m_L_156 zPcl_blind (fun U hU hW => ⟨rfl, by rw [hU]; exact va_X.moved hW.alike (hX.kept (hS.2.1 b hbl hbA)), by rw [hU]; exact Nat.lt_of_lt_of_le hbl hS.1⟩) rfl hl.1 (Nat.le_of_ble_eq_true rfl) (z_d hL_law_1 1 rfl) ⟨by show _ ≤ 600104; omega, by show _ ≤ 7301314; omega⟩) hS hP (fun H locs hP hS => ?_)
    refine W.eq (g2 := F0 m 111 ls [.int (cellV L xs (1 + j)), .ref am, .ref ab, .ref ap, .ref al, .ref ak, .ref ag, .ref mm]) rfl ?_
    refine lv_sipush (v := 7919) hx hb (z_d hL_law_1 2 rfl) (by decide) ?_
    refine lv_iload hx hb (z_d hL_law_1 3 rfl) (lv_at hl 10 rfl) ?_
    refine lv_imul hx hb (z_d hL_law_1 4 rfl) ?_
    refine lv_ixor hx hb (z_d hL_law_1 5 rfl) ?_
    obtain ⟨x', n', Ln', g', k', ln', pr', lb', mk', hF, hI', hR'⟩ := acts_l hI hR (cellV L xs (1 + j) ^^^ 7919 * nI j)
    refine z_kmN (L := [w_SP Z mm u x, w_Arr Z.2.1 2 ag g, w_Arr Z.2.1 41 ak k, w_Arr Z.2.1 41 al ln, w_Arr Z.2.1 41 ap pr, w_Arr Z.2.1 41 ab lb, w_Arr Z.2.1 41 am mk]) (L' := [w_SP Z mm u x', w_Arr Z.2.1 2 ag g', w_Arr Z.2.1 41 ak k', w_Arr Z.2.1 41 al ln', w_Arr Z.2.1 41 ap pr', w_Arr Z.2.1 41 ab lb', w_Arr Z.2.1 41 am mk']) [(0, w_SP Z mm u x, w_SP Z mm u x'), (1, w_Arr Z.2.1 2 ag g, w_Arr Z.2.1 2 ag g'), (2, w_Arr Z.2.1 41 ak k, w_Arr Z.2.1 41 ak k'), (3, w_Arr Z.2.1 41 al ln, w_Arr Z.2.1 41 al ln'), (4, w_Arr Z.2.1 41 ap pr, w_Arr Z.2.1 41 ap pr'), (5, w_Arr Z.2.1 41 ab lb, w_Arr Z.2.1 41 ab lb'), (6, w_Arr Z.2.1 41 am mk, w_Arr Z.2.1 41 am mk')] (z_rKM (As := [.ref mm, .ref ag, .ref ak, .ref al, .ref ap, .ref ab, .ref am, .int (cellV L xs (1 + j) ^^^ 7919 * nI j)]) (rest := []) hx hb hml hown hts vs_L_acts (c_L_acts l hlt Z sa H.size mm u ag ak al ap ab am x g k ln pr lb mk (cellV L xs (1 + j) ^^^ 7919 * nI j) (1, x', g', k', ln', pr', lb', mk') hF) rfl rfl ⟨Nat.le_of_ble_eq_true rfl, Nat.le_of_ble_eq_true rfl⟩ k_m_L_159 hK ((hT.kept hS.2.1).narrow (zkA hS hA0 (zDq [(0, w_SP Z mm u x, w_SP Z mm u x'), (1, w_Arr Z.2.1 2 ag g, w_Arr Z.2.1 2 ag g'), (2, w_Arr Z.2.1 41 ak k, w_Arr Z.2.1 41 ak k'), (3, w_Arr Z.2.1 41 al ln, w_Arr Z.2.1 41 al ln'), (4, w_Arr Z.2.1 41 ap pr, w_Arr Z.2.1 41 ap pr'), (5, w_Arr Z.2.1 41 ab lb, w_Arr Z.2.1 41 ab lb'), (6, w_Arr Z.2.1 41 am mk, w_Arr Z.2.1 41 am mk')] hD (List.forall_mem_cons.mpr ⟨⟨rfl, (adr_SP _ _ _ _ _)⟩, (List.forall_mem_cons.mpr ⟨⟨rfl, rfl⟩, (List.forall_mem_cons.mpr ⟨⟨rfl, rfl⟩, (List.forall_mem_cons.mpr ⟨⟨rfl, rfl⟩, (List.forall_mem_cons.mpr ⟨⟨rfl, rfl⟩, (List.forall_mem_cons.mpr ⟨⟨rfl, rfl⟩, (List.forall_mem_cons.mpr ⟨⟨rfl, rfl⟩, (fun _ h => absurd h List.not_mem_nil)⟩)⟩)⟩)⟩)⟩)⟩)⟩) (show List.Nodup [0, 1, 2, 3, 4, 5, 6] by decide)))) hN (zP_c (zP_reg hP 0 rfl) (zP_c (zP_reg hP 1 rfl) (zP_c (zP_reg hP 2 rfl) (zP_c (zP_reg hP 3 rfl) (zP_c (zP_reg hP 4 rfl) (zP_c (zP_reg hP 5 rfl) (zP_c (zP_reg hP 6 rfl) zP_n))))))) (zDq [(0, w_SP Z mm u x, w_SP Z mm u x'), (1, w_Arr Z.2.1 2 ag g, w_Arr Z.2.1 2 ag g'), (2, w_Arr Z.2.1 41 ak k, w_Arr Z.2.1 41 ak k'), (3, w_Arr Z.2.1 41 al ln, w_Arr Z.2.1 41 al ln'), (4, w_Arr Z.2.1 41 ap pr, w_Arr Z.2.1 41 ap pr'), (5, w_Arr Z.2.1 41 ab lb, w_Arr Z.2.1 41 ab lb'), (6, w_Arr Z.2.1 41 am mk, w_Arr Z.2.1 41 am mk')] hD (List.forall_mem_cons.mpr ⟨⟨rfl, (adr_SP _ _ _ _ _)⟩, (List.forall_mem_cons.mpr ⟨⟨rfl, rfl⟩, (List.forall_mem_cons.mpr ⟨⟨rfl, rfl⟩, (List.forall_mem_cons.mpr ⟨⟨rfl, rfl⟩, (List.forall_mem_cons.mpr ⟨⟨rfl, rfl⟩, (List.forall_mem_cons.mpr ⟨⟨rfl, rfl⟩, (List.forall_mem_cons.mpr ⟨⟨rfl, rfl⟩, (fun _ h => absurd h List.not_mem_nil)⟩)⟩)⟩)⟩)⟩)⟩)⟩) (show List.Nodup [0, 1, 2, 3, 4, 5, 6] by decide)) rfl hl.1 (Nat.le_of_ble_eq_true rfl) (z_d hL_law_1 6 rfl) ⟨by show _ ≤ 600104; omega, by show _ ≤ 7301314; omega⟩) hS hA0 hP hD (List.forall_mem_cons.mpr ⟨⟨rfl, (adr_SP _ _ _ _ _)⟩, (List.forall_mem_cons.mpr ⟨⟨rfl, rfl⟩, (List.forall_mem_cons.mpr ⟨⟨rfl, rfl⟩, (List.forall_mem_cons.mpr ⟨⟨rfl, rfl⟩, (List.forall_mem_cons.mpr ⟨⟨rfl, rfl⟩, (List.forall_mem_cons.mpr ⟨⟨rfl, rfl⟩, (List.forall_mem_cons.mpr ⟨⟨rfl, rfl⟩, (fun _ h => absurd h List.not_mem_nil)⟩)⟩)⟩)⟩)⟩)⟩)⟩) (show List.Nodup [0, 1, 2, 3, 4, 5, 6] by decide) rfl rfl rfl (fun H locs hP hD hS => ?_)
    refine W.eq (g2 := F0 m 121 ls [.int 1]) rfl ?_
    refine lv_if_eq (tgt := 152) hx hb (z_d hL_law_1 7 rfl) (by decide) (fun h => absurd h (by decide)) (fun _ => ?_)
    refine lv_iload hx hb (z_d hL_law_1 8 rfl) (lv_at hl 10 rfl) ?_
    refine lv_iconst (v := 4) hx hb (z_d hL_law_1 9 rfl) (by decide) ?_
    refine lv_irem hx hb (z_d hL_law_1 10 rfl) (by decide) ?_
    refine lv_if_gt (tgt := 148) hx hb (z_d hL_law_1 11 rfl) (by decide) (fun _ => tail x' g' k' ln' pr' lb' mk' n' Ln' H locs ls _ _ hI' hR' hP hD hS hl (by omega) (by omega)) (fun _ => ?_)
    refine lv_aload_n hx hb (z_d hL_law_1 12 rfl) rfl (lv_at hl 1 rfl) ?_
    refine lv_aload_n hx hb (z_d hL_law_1 13 rfl) rfl (lv_at hl 2 rfl) ?_
    refine lv_aload_n hx hb (z_d hL_law_1 14 rfl) rfl (lv_at hl 3 rfl) ?_
    refine lv_aload hx hb (z_d hL_law_1 15 rfl) (lv_at hl 4 rfl) ?_
    refine lv_aload hx hb (z_d hL_law_1 16 rfl) (lv_at hl 5 rfl) ?_
    refine lv_aload hx hb (z_d hL_law_1 17 rfl) (lv_at hl 6 rfl) ?_
    refine lv_aload hx hb (z_d hL_law_1 18 rfl) (lv_at hl 7 rfl) ?_
    refine z_kmN (L := [w_SP Z mm u x', w_Arr Z.2.1 2 ag g', w_Arr Z.2.1 41 ak k', w_Arr Z.2.1 41 al ln', w_Arr Z.2.1 41 ap pr', w_Arr Z.2.1 41 ab lb', w_Arr Z.2.1 41 am mk']) (L' := [w_SP Z mm u x', w_Arr Z.2.1 2 ag g', w_Arr Z.2.1 41 ak k', w_Arr Z.2.1 41 al ln', w_Arr Z.2.1 41 ap pr', w_Arr Z.2.1 41 ab lb', w_Arr Z.2.1 41 am mk']) [(0, w_SP Z mm u x', w_SP Z mm u x'), (1, w_Arr Z.2.1 2 ag g', w_Arr Z.2.1 2 ag g'), (2, w_Arr Z.2.1 41 ak k', w_Arr Z.2.1 41 ak k'), (3, w_Arr Z.2.1 41 al ln', w_Arr Z.2.1 41 al ln'), (4, w_Arr Z.2.1 41 ap pr', w_Arr Z.2.1 41 ap pr'), (5, w_Arr Z.2.1 41 ab lb', w_Arr Z.2.1 41 ab lb'), (6, w_Arr Z.2.1 41 am mk', w_Arr Z.2.1 41 am mk')] (z_rKM (As := [.ref mm, .ref ag, .ref ak, .ref al, .ref ap, .ref ab, .ref am]) (rest := []) hx hb hml hown hts vs_L_isSo (c_L_isSo l hlt Z sa H.size mm u ag ak al ap ab am x' g' k' ln' pr' lb' mk' _ (isSo_l hI' hR')) rfl rfl ⟨Nat.le_of_ble_eq_true rfl, Nat.le_of_ble_eq_true rfl⟩ k_m_L_152 hK ((hT.kept hS.2.1).narrow (zkA hS hA0 (zDq [(0, w_SP Z mm u x', w_SP Z mm u x'), (1, w_Arr Z.2.1 2 ag g', w_Arr Z.2.1 2 ag g'), (2, w_Arr Z.2.1 41 ak k', w_Arr Z.2.1 41 ak k'), (3, w_Arr Z.2.1 41 al ln', w_Arr Z.2.1 41 al ln'), (4, w_Arr Z.2.1 41 ap pr', w_Arr Z.2.1 41 ap pr'), (5, w_Arr Z.2.1 41 ab lb', w_Arr Z.2.1 41 ab lb'), (6, w_Arr Z.2.1 41 am mk', w_Arr Z.2.1 41 am mk')] hD (List.forall_mem_cons.mpr ⟨⟨rfl, (adr_SP _ _ _ _ _)⟩, (List.forall_mem_cons.mpr ⟨⟨rfl, rfl⟩, (List.forall_mem_cons.mpr ⟨⟨rfl, rfl⟩, (List.forall_mem_cons.mpr ⟨⟨rfl, rfl⟩, (List.forall_mem_cons.mpr ⟨⟨rfl, rfl⟩, (List.forall_mem_cons.mpr ⟨⟨rfl, rfl⟩, (List.forall_mem_cons.mpr ⟨⟨rfl, rfl⟩, (fun _ h => absurd h List.not_mem_nil)⟩)⟩)⟩)⟩)⟩)⟩)⟩) (show List.Nodup [0, 1, 2, 3, 4, 5, 6] by decide)))) hN (zP_c (zP_reg hP 0 rfl) (zP_c (zP_reg hP 1 rfl) (zP_c (zP_reg hP 2 rfl) (zP_c (zP_reg hP 3 rfl) (zP_c (zP_reg hP 4 rfl) (zP_c (zP_reg hP 5 rfl) (zP_c (zP_reg hP 6 rfl) zP_n))))))) (zDq [(0, w_SP Z mm u x', w_SP Z mm u x'), (1, w_Arr Z.2.1 2 ag g', w_Arr Z.2.1 2 ag g'), (2, w_Arr Z.2.1 41 ak k', w_Arr Z.2.1 41 ak k'), (3, w_Arr Z.2.1 41 al ln', w_Arr Z.2.1 41 al ln'), (4, w_Arr Z.2.1 41 ap pr', w_Arr Z.2.1 41 ap pr'), (5, w_Arr Z.2.1 41 ab lb', w_Arr Z.2.1 41 ab lb'), (6, w_Arr Z.2.1 41 am mk', w_Arr Z.2.1 41 am mk')] hD (List.forall_mem_cons.mpr ⟨⟨rfl, (adr_SP _ _ _ _ _)⟩, (List.forall_mem_cons.mpr ⟨⟨rfl, rfl⟩, (List.forall_mem_cons.mpr ⟨⟨rfl, rfl⟩, (List.forall_mem_cons.mpr ⟨⟨rfl, rfl⟩, (List.forall_mem_cons.mpr ⟨⟨rfl, rfl⟩, (List.forall_mem_cons.mpr ⟨⟨rfl, rfl⟩, (List.forall_mem_cons.mpr ⟨⟨rfl, rfl⟩, (fun _ h => absurd h List.not_mem_nil)⟩)⟩)⟩)⟩)⟩)⟩)⟩) (show List.Nodup [0, 1, 2, 3, 4, 5, 6] by decide)) rfl hl.1 (Nat.le_of_ble_eq_true rfl) (z_d hL_law_1 19 rfl) ⟨by show _ ≤ 600104; omega, by show _ ≤ 7301314; omega⟩) hS hA0 hP hD (List.forall_mem_cons.mpr ⟨⟨rfl, (adr_SP _ _ _ _ _)⟩, (List.forall_mem_cons.mpr ⟨⟨rfl, rfl⟩, (List.forall_mem_cons.mpr ⟨⟨rfl, rfl⟩, (List.forall_mem_cons.mpr ⟨⟨rfl, rfl⟩, (List.forall_mem_cons.mpr ⟨⟨rfl, rfl⟩, (List.forall_mem_cons.mpr ⟨⟨rfl, rfl⟩, (List.forall_mem_cons.mpr ⟨⟨rfl, rfl⟩, (fun _ h => absurd h List.not_mem_nil)⟩)⟩)⟩)⟩)⟩)⟩)⟩) (show List.Nodup [0, 1, 2, 3, 4, 5, 6] by decide) rfl rfl rfl (fun H locs hP hD hS => ?_)
    refine W.eq (g2 := F0 m 145 ls [.int 1]) rfl ?_
    refine lv_if_eq (tgt := 152) hx hb (z_d hL_law_1 20 rfl) (by decide) (fun h => absurd h (by decide)) (fun _ => ?_)
    exact tail x' g' k' ln' pr' lb' mk' n' Ln' H locs ls _ _ hI' hR' hP hD hS hl (by omega) (by omega)
set_option maxRecDepth 100000 in
set_option maxHeartbeats 4000000 in
/-- from the entry, for every script of at most 260 ints, the law comes to its end with true -/
theorem whole_start {p : Program} {e : Env} {s : State} {m : MethodId} {below : List Frame} {meth : Method} {c : Code} (l : Launch) (hflags : l.flags = flags0) {b L : Nat} {xs : Nat → Int32} (hL : L ≤ 260) (C0 : lw_At p s m meth c b L xs) : W p l e room_1 s m #[Value.ref b] below meth c s.heap [] 0 0 (lw_Z below #[Value.ref b] s) (entryFrame m ([Value.ref b] : List Value).toArray 11) := by
  obtain ⟨hx, hb, hr, hml, hown, hl0, hX, hbl, hlocks, hgv⟩ := C0
  have hlt : l.stackTraces = false := by
    unfold Launch.stackTraces
    rw [hflags]
    decide
  have hts : ∀ w ∈ zG, w.before #[Value.ref b] s = true := fun w h => hl0 w (zG_in w h)
  obtain ⟨Z, hK⟩ := st_K hts hl0
  obtain ⟨sa, hT⟩ := st_T hl0 hgv
  have hN := st_nc hgv
  have hO : va_AO RX5 s := va_AO.of (hl0 _ st_ao)
  generalize hA9 : (fun q : Nat => s.heap.size ≤ q) = A0 at hT
  have hA0 : ∀ q : Nat, s.heap.size ≤ q → A0 q := fun q h => by rw [← hA9]; exact h
  have hA1 : ∀ q : Nat, A0 q → s.heap.size ≤ q := fun q h => by rw [← hA9] at h; exact h
  have hbA : ¬ A0 b := fun h => Nat.not_le.mpr hbl (hA1 b h)
  have hown : s.vm.findClass RL = some m.cls := hown
  have hE : lwE p s m #[Value.ref b] c b L xs A0 s.heap Z sa := ⟨hx, hb, hml, hown, hts, hX, hbl, hbA, hK, hT, hN, hO, hA0⟩
  have hS : va_S A0 s.heap s.heap [] := va_S.rf
  have hP : va_P Z.1 vwCl (List.flatten []) s.heap := fun k q h => by simp at h
  have hD : va_D A0 (List.flatten []) := ⟨fun i j p q h => by simp at h, fun k q h => by simp at h⟩
  have hl := lv_entry ([.ref b]) (n := 11) (Nat.le_of_ble_eq_true rfl)
  rw [lg_entry_eq]
  generalize (lg_sl ([.ref b]) ++ List.replicate (11 - (lg_sl ([.ref b])).length) Slot.unset).toArray = ls at hl ⊢
  have hl : lv_has ls 11 [(0, .ref b)] := hl
  refine z_new (Z := Z) (L := []) (ci := 6) (fs := [.null, .null, .null, .null, .null, .null, .null, .null, .int 0]) (C := RX6) (T := TX6) (N := 9) hx hb hts zinX6 tyX6 tyX6_ok hown k_c_L_74 k_n_X6 k_z_X6 hK hP hD hS hA0 rfl (by decide +kernel) (Nat.le_of_ble_eq_true rfl) (Nat.le_of_ble_eq_true rfl) (z_d hL_law_0 0 rfl) (z_d hL_law_0 1 rfl) (fun mm H hP hD hS => ?_)
  have hP : va_P Z.1 vwCl (List.flatten [w_Obj mm 6 [.null, .null, .null, .null, .null, .null, .null, .null, .int 0]]) H := hP
  have hD : va_D A0 (List.flatten [w_Obj mm 6 [.null, .null, .null, .null, .null, .null, .null, .null, .int 0]]) := hD
  refine z_init (L := []) (w := w_Obj mm 6 [.null, .null, .null, .null, .null, .null, .null, .null, .int 0]) (z_rI (As := []) (rest := [.ref mm]) hx hb hml hown hts it_X6_init (c_X6_init l Z H.size mm) rfl rfl ⟨Nat.le_of_ble_eq_true rfl, Nat.le_of_ble_eq_true rfl⟩ k_m_L_151 hK hO (zP_reg hP 0 rfl) (zD_one hD 0 _ rfl) rfl hl.1 (Nat.le_of_ble_eq_true rfl) (z_d hL_law_0 2 rfl) ⟨Nat.le_of_ble_eq_true rfl, Nat.le_of_ble_eq_true rfl⟩) hP hD hS hA0 (fun u H locs hP hD hS => ?_)
  have hP : va_P Z.1 vwCl (List.flatten [w_SP Z mm u sp0]) H := hP
  have hD : va_D A0 (List.flatten [w_SP Z mm u sp0]) := hD
  refine W.eq (g2 := F0 m 7 ls [.ref mm]) rfl ?_
  refine lv_astore_n (lv' := [(1, .ref mm), (0, .ref b)]) hx hb (z_d hL_law_0 3 rfl) rfl hl (by decide) rfl (fun ls hl => ?_)
  refine lv_iconst (v := 2) hx hb (z_d hL_law_0 4 rfl) (by decide) ?_
  refine z_newarr (N' := 2) (L := [w_SP Z mm u sp0]) hx hb (hts _ k_a_int) hK hP hD hS hA0 (by decide) (by decide) (by decide) (Nat.le_of_ble_eq_true rfl) (Nat.le_of_ble_eq_true rfl) (z_d hL_law_0 5 rfl) (fun ag H hP hD hS => ?_)
  have hP : va_P Z.1 vwCl (List.flatten [w_SP Z mm u sp0, w_Arr Z.2.1 2 ag z0R]) H := hP
  have hD : va_D A0 (List.flatten [w_SP Z mm u sp0, w_Arr Z.2.1 2 ag z0R]) := hD
  refine W.eq (g2 := F0 m 11 ls [.ref ag]) rfl ?_
  refine lv_astore_n (lv' := [(2, .ref ag), (1, .ref mm), (0, .ref b)]) hx hb (z_d hL_law_0 6 rfl) rfl hl (by decide) rfl (fun ls hl => ?_)
  refine lv_bipush (v := 41) hx hb (z_d hL_law_0 7 rfl) (by decide) ?_
  refine z_newarr (N' := 41) (L := [w_SP Z mm u sp0, w_Arr Z.2.1 2 ag z0R]) hx hb (hts _ k_a_int) hK hP hD hS hA0 (by decide) (by decide) (by decide) (Nat.le_of_ble_eq_true rfl) (Nat.le_of_ble_eq_true rfl) (z_d hL_law_0 8 rfl) (fun ak H hP hD hS => ?_)
  have hP : va_P Z.1 vwCl (List.flatten [w_SP Z mm u sp0, w_Arr Z.2.1 2 ag z0R, w_Arr Z.2.1 41 ak z0R]) H := hP
  have hD : va_D A0 (List.flatten [w_SP Z mm u sp0, w_Arr Z.2.1 2 ag z0R, w_Arr Z.2.1 41 ak z0R]) := hD
  refine W.eq (g2 := F0 m 16 ls [.ref ak]) rfl ?_
  refine lv_astore_n (lv' := [(3, .ref ak), (2, .ref ag), (1, .ref mm), (0, .ref b)]) hx hb (z_d hL_law_0 9 rfl) rfl hl (by decide) rfl (fun ls hl => ?_)
  refine lv_bipush (v := 41) hx hb (z_d hL_law_0 10 rfl) (by decide) ?_
  refine z_newarr (N' := 41) (L := [w_SP Z mm u sp0, w_Arr Z.2.1 2 ag z0R, w_Arr Z.2.1 41 ak z0R]) hx hb (hts _ k_a_int) hK hP hD hS hA0 (by decide) (by decide) (by decide) (Nat.le_of_ble_eq_true rfl) (Nat.le_of_ble_eq_true rfl) (z_d hL_law_0 11 rfl) (fun al H hP hD hS => ?_)
  have hP : va_P Z.1 vwCl (List.flatten [w_SP Z mm u sp0, w_Arr Z.2.1 2 ag z0R, w_Arr Z.2.1 41 ak z0R, w_Arr Z.2.1 41 al z0R]) H := hP
  have hD : va_D A0 (List.flatten [w_SP Z mm u sp0, w_Arr Z.2.1 2 ag z0R, w_Arr Z.2.1 41 ak z0R, w_Arr Z.2.1 41 al z0R]) := hD
  refine W.eq (g2 := F0 m 21 ls [.ref al]) rfl ?_
  refine lv_astore (lv' := [(4, .ref al), (3, .ref ak), (2, .ref ag), (1, .ref mm), (0, .ref b)]) hx hb (z_d hL_law_0 12 rfl) hl (by decide) rfl (fun ls hl => ?_)
  refine lv_bipush (v := 41) hx hb (z_d hL_law_0 13 rfl) (by decide) ?_
  refine z_newarr (N' := 41) (L := [w_SP Z mm u sp0, w_Arr Z.2.1 2 ag z0R, w_Arr Z.2.1 41 ak z0R, w_Arr Z.2.1 41 al z0R]) hx hb (hts _ k_a_int) hK hP hD hS hA0 (by decide) (by decide) (by decide) (Nat.le_of_ble_eq_true rfl) (Nat.le_of_ble_eq_true rfl) (z_d hL_law_0 14 rfl) (fun ap H hP hD hS => ?_)
  have hP : va_P Z.1 vwCl (List.flatten [w_SP Z mm u sp0, w_Arr Z.2.1 2 ag z0R, w_Arr Z.2.1 41 ak z0R, w_Arr Z.2.1 41 al z0R, w_Arr Z.2.1 41 ap z0R]) H := hP
  have hD : va_D A0 (List.flatten [w_SP Z mm u sp0, w_Arr Z.2.1 2 ag z0R, w_Arr Z.2.1 41 ak z0R, w_Arr Z.2.1 41 al z0R, w_Arr Z.2.1 41 ap z0R]) := hD
  refine W.eq (g2 := F0 m 27 ls [.ref ap]) rfl ?_
  refine lv_astore (lv' := [(5, .ref ap), (4, .ref al), (3, .ref ak), (2, .ref ag), (1, .ref mm), (0, .ref b)]) hx hb (z_d hL_law_0 15 rfl) hl (by decide) rfl (fun ls hl => ?_)
  refine lv_bipush (v := 41) hx hb (z_d hL_law_0 16 rfl) (by decide) ?_
  refine z_newarr (N' := 41) (L := [w_SP Z mm u sp0, w_Arr Z.2.1 2 ag z0R, w_Arr Z.2.1 41 ak z0R, w_Arr Z.2.1 41 al z0R, w_Arr Z.2.1 41 ap z0R]) hx hb (hts _ k_a_int) hK hP hD hS hA0 (by decide) (by decide) (by decide) (Nat.le_of_ble_eq_true rfl) (Nat.le_of_ble_eq_true rfl) (z_d hL_law_0 17 rfl) (fun ab H hP hD hS => ?_)
  have hP : va_P Z.1 vwCl (List.flatten [w_SP Z mm u sp0, w_Arr Z.2.1 2 ag z0R, w_Arr Z.2.1 41 ak z0R, w_Arr Z.2.1 41 al z0R, w_Arr Z.2.1 41 ap z0R, w_Arr Z.2.1 41 ab z0R]) H := hP
  have hD : va_D A0 (List.flatten [w_SP Z mm u sp0, w_Arr Z.2.1 2 ag z0R, w_Arr Z.2.1 41 ak z0R, w_Arr Z.2.1 41 al z0R, w_Arr Z.2.1 41 ap z0R, w_Arr Z.2.1 41 ab z0R]) := hD
  refine W.eq (g2 := F0 m 33 ls [.ref ab]) rfl ?_
  refine lv_astore (lv' := [(6, .ref ab), (5, .ref ap), (4, .ref al), (3, .ref ak), (2, .ref ag), (1, .ref mm), (0, .ref b)]) hx hb (z_d hL_law_0 18 rfl) hl (by decide) rfl (fun ls hl => ?_)
  refine lv_bipush (v := 41) hx hb (z_d hL_law_0 19 rfl) (by decide) ?_
  refine z_newarr (N' := 41) (L := [w_SP Z mm u sp0, w_Arr Z.2.1 2 ag z0R, w_Arr Z.2.1 41 ak z0R, w_Arr Z.2.1 41 al z0R, w_Arr Z.2.1 41 ap z0R, w_Arr Z.2.1 41 ab z0R]) hx hb (hts _ k_a_int) hK hP hD hS hA0 (by decide) (by decide) (by decide) (Nat.le_of_ble_eq_true rfl) (Nat.le_of_ble_eq_true rfl) (z_d hL_law_0 20 rfl) (fun am H hP hD hS => ?_)
  have hP : va_P Z.1 vwCl (List.flatten [w_SP Z mm u sp0, w_Arr Z.2.1 2 ag z0R, w_Arr Z.2.1 41 ak z0R, w_Arr Z.2.1 41 al z0R, w_Arr Z.2.1 41 ap z0R, w_Arr Z.2.1 41 ab z0R, w_Arr Z.2.1 41 am z0R]) H := hP
  have hD : va_D A0 (List.flatten [w_SP Z mm u sp0, w_Arr Z.2.1 2 ag z0R, w_Arr Z.2.1 41 ak z0R, w_Arr Z.2.1 41 al z0R, w_Arr Z.2.1 41 ap z0R, w_Arr Z.2.1 41 ab z0R, w_Arr Z.2.1 41 am z0R]) := hD
  refine W.eq (g2 := F0 m 39 ls [.ref am]) rfl ?_
  refine lv_astore (lv' := [(7, .ref am), (6, .ref ab), (5, .ref ap), (4, .ref al), (3, .ref ak), (2, .ref ag), (1, .ref mm), (0, .ref b)]) hx hb (z_d hL_law_0 21 rfl) hl (by decide) rfl (fun ls hl => ?_)
  have hl : lv_has ls 11 [(0, .ref b), (1, .ref mm), (2, .ref ag), (3, .ref ak), (4, .ref al), (5, .ref ap), (6, .ref ab), (7, .ref am)] := lv_sub hl [7, 6, 5, 4, 3, 2, 1, 0] rfl
  refine lv_aload_n hx hb (z_d hL_law_0 22 rfl) rfl (lv_at hl 2 rfl) ?_
  refine lv_iconst (v := 1) hx hb (z_d hL_law_0 23 rfl) (by decide) ?_
  refine lv_bipush (v := 50) hx hb (z_d hL_law_0 24 rfl) (by decide) ?_
  refine z_iast (Z := Z) (L := [w_SP Z mm u sp0, w_Arr Z.2.1 2 ag z0R, w_Arr Z.2.1 41 ak z0R, w_Arr Z.2.1 41 al z0R, w_Arr Z.2.1 41 ap z0R, w_Arr Z.2.1 41 ab z0R, w_Arr Z.2.1 41 am z0R]) (L' := [w_SP Z mm u sp0, w_Arr Z.2.1 2 ag g50, w_Arr Z.2.1 41 ak z0R, w_Arr Z.2.1 41 al z0R, w_Arr Z.2.1 41 ap z0R, w_Arr Z.2.1 41 ab z0R, w_Arr Z.2.1 41 am z0R]) (f := z0R) (g := g50) hx hb hK hP hD hS 1 rfl (show vp_in (nI 1) 2 from vp_in_nI (by decide) (by decide)) (show upd z0R (1 : Int32).toNatClampNeg 50 = g50 by rw [cl1]; rfl) rfl (z_d hL_law_0 25 rfl) (fun H locs hP hD hS => ?_)
  obtain ⟨hI, hR⟩ := IX_0
  refine lv_aload_n hx hb (z_d hL_law_0 26 rfl) rfl (lv_at hl 1 rfl) ?_
  refine lv_aload_n hx hb (z_d hL_law_0 27 rfl) rfl (lv_at hl 2 rfl) ?_
  refine lv_aload_n hx hb (z_d hL_law_0 28 rfl) rfl (lv_at hl 3 rfl) ?_
  refine lv_aload hx hb (z_d hL_law_0 29 rfl) (lv_at hl 4 rfl) ?_
  refine lv_aload hx hb (z_d hL_law_0 30 rfl) (lv_at hl 5 rfl) ?_
  refine lv_aload hx hb (z_d hL_law_0 31 rfl) (lv_at hl 6 rfl) ?_
  refine lv_aload hx hb (z_d hL_law_0 32 rfl) (lv_at hl 7 rfl) ?_
  refine z_kmN (L := [w_SP Z mm u sp0, w_Arr Z.2.1 2 ag g50, w_Arr Z.2.1 41 ak z0R, w_Arr Z.2.1 41 al z0R, w_Arr Z.2.1 41 ap z0R, w_Arr Z.2.1 41 ab z0R, w_Arr Z.2.1 41 am z0R]) (L' := [w_SP Z mm u sp0, w_Arr Z.2.1 2 ag g50, w_Arr Z.2.1 41 ak z0R, w_Arr Z.2.1 41 al z0R, w_Arr Z.2.1 41 ap z0R, w_Arr Z.2.1 41 ab z0R, w_Arr Z.2.1 41 am z0R]) [(0, w_SP Z mm u sp0, w_SP Z mm u sp0), (1, w_Arr Z.2.1 2 ag g50, w_Arr Z.2.1 2 ag g50), (2, w_Arr Z.2.1 41 ak z0R, w_Arr Z.2.1 41 ak z0R), (3, w_Arr Z.2.1 41 al z0R, w_Arr Z.2.1 41 al z0R), (4, w_Arr Z.2.1 41 ap z0R, w_Arr Z.2.1 41 ap z0R), (5, w_Arr Z.2.1 41 ab z0R, w_Arr Z.2.1 41 ab z0R), (6, w_Arr Z.2.1 41 am z0R, w_Arr Z.2.1 41 am z0R)] (z_rKM (As := [.ref mm, .ref ag, .ref ak, .ref al, .ref ap, .ref ab, .ref am]) (rest := []) hx hb hml hown hts vs_L_isSo (c_L_isSo l hlt Z sa H.size mm u ag ak al ap ab am sp0 g50 z0R z0R z0R z0R z0R _ (isSo_l hI hR)) rfl rfl ⟨Nat.le_of_ble_eq_true rfl, Nat.le_of_ble_eq_true rfl⟩ k_m_L_152 hK ((hT.kept hS.2.1).narrow (zkA hS hA0 (zDq [(0, w_SP Z mm u sp0, w_SP Z mm u sp0), (1, w_Arr Z.2.1 2 ag g50, w_Arr Z.2.1 2 ag g50), (2, w_Arr Z.2.1 41 ak z0R, w_Arr Z.2.1 41 ak z0R), (3, w_Arr Z.2.1 41 al z0R, w_Arr Z.2.1 41 al z0R), (4, w_Arr Z.2.1 41 ap z0R, w_Arr Z.2.1 41 ap z0R), (5, w_Arr Z.2.1 41 ab z0R, w_Arr Z.2.1 41 ab z0R), (6, w_Arr Z.2.1 41 am z0R, w_Arr Z.2.1 41 am z0R)] hD (List.forall_mem_cons.mpr ⟨⟨rfl, (adr_SP _ _ _ _ _)⟩, (List.forall_mem_cons.mpr ⟨⟨rfl, rfl⟩, (List.forall_mem_cons.mpr ⟨⟨rfl, rfl⟩, (List.forall_mem_cons.mpr ⟨⟨rfl, rfl⟩, (List.forall_mem_cons.mpr ⟨⟨rfl, rfl⟩, (List.forall_mem_cons.mpr ⟨⟨rfl, rfl⟩, (List.forall_mem_cons.mpr ⟨⟨rfl, rfl⟩, (fun _ h => absurd h List.not_mem_nil)⟩)⟩)⟩)⟩)⟩)⟩)⟩) (show List.Nodup [0, 1, 2, 3, 4, 5, 6] by decide)))) hN (zP_c (zP_reg hP 0 rfl) (zP_c (zP_reg hP 1 rfl) (zP_c (zP_reg hP 2 rfl) (zP_c (zP_reg hP 3 rfl) (zP_c (zP_reg hP 4 rfl) (zP_c (zP_reg hP 5 rfl) (zP_c (zP_reg hP 6 rfl) zP_n))))))) (zDq [(0, w_SP Z mm u sp0, w_SP Z mm u sp0), (1, w_Arr Z.2.1 2 ag g50, w_Arr Z.2.1 2 ag g50), (2, w_Arr Z.2.1 41 ak z0R, w_Arr Z.2.1 41 ak z0R), (3, w_Arr Z.2.1 41 al z0R, w_Arr Z.2.1 41 al z0R), (4, w_Arr Z.2.1 41 ap z0R, w_Arr Z.2.1 41 ap z0R), (5, w_Arr Z.2.1 41 ab z0R, w_Arr Z.2.1 41 ab z0R), (6, w_Arr Z.2.1 41 am z0R, w_Arr Z.2.1 41 am z0R)] hD (List.forall_mem_cons.mpr ⟨⟨rfl, (adr_SP _ _ _ _ _)⟩, (List.forall_mem_cons.mpr ⟨⟨rfl, rfl⟩, (List.forall_mem_cons.mpr ⟨⟨rfl, rfl⟩, (List.forall_mem_cons.mpr ⟨⟨rfl, rfl⟩, (List.forall_mem_cons.mpr ⟨⟨rfl, rfl⟩, (List.forall_mem_cons.mpr ⟨⟨rfl, rfl⟩, (List.forall_mem_cons.mpr ⟨⟨rfl, rfl⟩, (fun _ h => absurd h List.not_mem_nil)⟩)⟩)⟩)⟩)⟩)⟩)⟩) (show List.Nodup [0, 1, 2, 3, 4, 5, 6] by decide)) rfl hl.1 (Nat.le_of_ble_eq_true rfl) (z_d hL_law_0 33 rfl) ⟨Nat.le_of_ble_eq_true rfl, Nat.le_of_ble_eq_true rfl⟩) hS hA0 hP hD (List.forall_mem_cons.mpr ⟨⟨rfl, (adr_SP _ _ _ _ _)⟩, (List.forall_mem_cons.mpr ⟨⟨rfl, rfl⟩, (List.forall_mem_cons.mpr ⟨⟨rfl, rfl⟩, (List.forall_mem_cons.mpr ⟨⟨rfl, rfl⟩, (List.forall_mem_cons.mpr ⟨⟨rfl, rfl⟩, (List.forall_mem_cons.mpr ⟨⟨rfl, rfl⟩, (List.forall_mem_cons.mpr ⟨⟨rfl, rfl⟩, (fun _ h => absurd h List.not_mem_nil)⟩)⟩)⟩)⟩)⟩)⟩)⟩) (show List.Nodup [0, 1, 2, 3, 4, 5, 6] by decide) rfl rfl rfl (fun H locs hP hD hS => ?_)
  refine W.eq (g2 := F0 m 60 ls [.int 1]) rfl ?_
  refine lv_istore (lv' := [(8, .int 1), (0, .ref b), (1, .ref mm), (2, .ref ag), (3, .ref ak), (4, .ref al), (5, .ref ap), (6, .ref ab), (7, .ref am)]) hx hb (z_d hL_law_0 34 rfl) hl (by decide) rfl (fun ls hl => ?_)
  refine lv_bipush (v := 10) hx hb (z_d hL_law_0 35 rfl) (by decide) ?_
  refine lv_aload_n hx hb (z_d hL_law_0 36 rfl) rfl (lv_at hl 1 rfl) ?_
  refine lv_iconst (v := nI 0) hx hb (z_d hL_law_0 37 rfl) (by decide) ?_
  refine z_ro_i (z_rS (As := [.ref b, .int (nI (0))]) (rest := [.int 10]) hx hb hml hown hts vs_L_cell (c_L_cell l b L xs hL (0) (by decide)) rfl rfl ⟨Nat.le_of_ble_eq_true rfl, Nat.le_of_ble_eq_true rfl⟩ k_m_L_156 zPcl_blind (fun U hU hW => ⟨rfl, by rw [hU]; exact va_X.moved hW.alike (hX.kept (hS.2.1 b hbl hbA)), by rw [hU]; exact Nat.lt_of_lt_of_le hbl hS.1⟩) rfl hl.1 (Nat.le_of_ble_eq_true rfl) (z_d hL_law_0 38 rfl) ⟨Nat.le_of_ble_eq_true rfl, Nat.le_of_ble_eq_true rfl⟩) hS hP (fun H locs hP hS => ?_)
  refine W.eq (g2 := F0 m 69 ls [.int (cellV L xs 0), .int 10]) rfl ?_
  refine lv_bipush (v := 70) hx hb (z_d hL_law_0 39 rfl) (by decide) ?_
  obtain ⟨q, hq, hF⟩ := low_l (cellV L xs 0) (d := 70) (by decide) (by decide)
  have hF : L_low (cellV L xs 0) 70 = some (nI q) := hF
  refine z_ro_i (z_rS (As := [.int (cellV L xs 0), .int 70]) (rest := [.int 10]) hx hb hml hown hts vs_L_low (c_L_low l Z (cellV L xs 0) 70 _ hF) rfl rfl ⟨Nat.le_of_ble_eq_true rfl, Nat.le_of_ble_eq_true rfl⟩ k_m_L_40 zPro_blind (z_prec hK zP_nil) rfl hl.1 (Nat.le_of_ble_eq_true rfl) (z_d hL_law_0 40 rfl) ⟨Nat.le_of_ble_eq_true rfl, Nat.le_of_ble_eq_true rfl⟩) hS hP (fun H locs hP hS => ?_)
  refine W.eq (g2 := F0 m 74 ls [.int (nI q), .int 10]) rfl ?_
  refine lv_iadd hx hb (z_d hL_law_0 41 rfl) ?_
  refine lv_topE (show (10 : Int32) + nI q = nI (10 + q) from nI_add 10 q) ?_
  refine lv_istore (lv' := [(9, .int (nI (10 + q))), (8, .int 1), (0, .ref b), (1, .ref mm), (2, .ref ag), (3, .ref ak), (4, .ref al), (5, .ref ap), (6, .ref ab), (7, .ref am)]) hx hb (z_d hL_law_0 42 rfl) hl (by decide) rfl (fun ls hl => ?_)
  refine lv_iconst (v := nI 0) hx hb (z_d hL_law_0 43 rfl) (by decide) ?_
  refine lv_istore (lv' := [(10, .int (nI 0)), (9, .int (nI (10 + q))), (8, .int 1), (0, .ref b), (1, .ref mm), (2, .ref ag), (3, .ref ak), (4, .ref al), (5, .ref ap), (6, .ref ab), (7, .ref am)]) hx hb (z_d hL_law_0 44 rfl) hl (by decide) rfl (fun ls hl => ?_)
  have hl := lv_sub hl [3, 4, 5, 6, 7, 8, 9, 10, 2, 1, 0] rfl
  refine lw_loop (T := 10 + q) hE hlt hL (by omega) (fun H locs ls cells slots hS h1 h2 => ?_) (10 + q) 0 sp0 g50 z0R z0R z0R z0R z0R 0 50 H locs ls _ _ (by omega) (by omega) hI hR hP hD hS hl (Nat.le_of_ble_eq_true rfl) (Nat.le_of_ble_eq_true rfl)
  refine va_forget (fun q hq => hA1 _ (hS.2.2 q hq)) ?_
  exact W.widen (Nat.le_trans h1 (Nat.le_of_ble_eq_true rfl)) (Nat.le_trans h2 (Nat.le_of_ble_eq_true rfl)) (lw_ret hx hb hr hlocks (z_d hL_law_2 3 rfl))

theorem vs_L_low : zSt yL_low cL_low 2 (some .int) 2 := ⟨zG_at 275 (by decide +kernel) (by decide +kernel), zG_at 25 (by decide +kernel) (by decide +kernel), zG_at 276 (by decide +kernel) (by decide +kernel), by decide +kernel⟩
theorem vs_L_opens : zSt yL_opens cL_opens 5 none 4 := ⟨zG_at 587 (by decide +kernel) (by decide +kernel), zG_at 25 (by decide +kernel) (by decide +kernel), zG_at 588 (by decide +kernel) (by decide +kernel), by decide +kernel⟩
theorem vs_L_hasTwo : zSt yL_hasTwo cL_hasTwo 7 (some .boolean) 3 := ⟨zG_at 590 (by decide +kernel) (by decide +kernel), zG_at 25 (by decide +kernel) (by decide +kernel), zG_at 591 (by decide +kernel) (by decide +kernel), by decide +kernel⟩
theorem vt_X6_lockScenes : zVt yX6_lockScenes cX6_lockScenes 4 (some .int) 0 := ⟨zG_at 647 (by decide +kernel) (by decide +kernel), zG_at 648 (by decide +kernel) (by decide +kernel), zG_at 26 (by decide +kernel) (by decide +kernel), zG_at 649 (by decide +kernel) (by decide +kernel), by decide +kernel⟩
theorem vs_L_omitted : zSt yL_omitted cL_omitted 12 (some .boolean) 8 := ⟨zG_at 656 (by decide +kernel) (by decide +kernel), zG_at 25 (by decide +kernel) (by decide +kernel), zG_at 657 (by decide +kernel) (by decide +kernel), by decide +kernel⟩
theorem vs_L_sets : zSt yL_sets cL_sets 16 (some .int) 7 := ⟨zG_at 678 (by decide +kernel) (by decide +kernel), zG_at 25 (by decide +kernel) (by decide +kernel), zG_at 679 (by decide +kernel) (by decide +kernel), by decide +kernel⟩
theorem vt_X6_lockPages : zVt yX6_lockPages cX6_lockPages 4 (some .int) 0 := ⟨zG_at 690 (by decide +kernel) (by decide +kernel), zG_at 691 (by decide +kernel) (by decide +kernel), zG_at 26 (by decide +kernel) (by decide +kernel), zG_at 692 (by decide +kernel) (by decide +kernel), by decide +kernel⟩
theorem k_i_L_39 : Cond.constant RL 39 (100000) ∈ zG := zG_at 287 (by decide +kernel) (by decide +kernel)
theorem k_m_L_40 : Cond.methodLink RL 40 yL_low ∈ zG := zG_at 274 (by decide +kernel) (by decide +kernel)
theorem k_m_L_49 : Cond.methodLink RL 49 yL_opens ∈ zG := zG_at 586 (by decide +kernel) (by decide +kernel)
theorem k_m_L_44 : Cond.methodLink RL 44 yL_inserts ∈ zG := zG_at 288 (by decide +kernel) (by decide +kernel)
theorem k_m_L_53 : Cond.methodLink RL 53 yL_hasTwo ∈ zG := zG_at 589 (by decide +kernel) (by decide +kernel)
theorem k_m_L_58 : Cond.methodLink RL 58 yL_drops ∈ zG := zG_at 598 (by decide +kernel) (by decide +kernel)
theorem k_m_L_66 : Cond.methodLink RL 66 yL_lengths ∈ zG := zG_at 622 (by decide +kernel) (by decide +kernel)
theorem k_m_L_70 : Cond.methodLink RL 70 yL_sizes ∈ zG := zG_at 635 (by decide +kernel) (by decide +kernel)
theorem k_m_L_73 : Cond.methodLink RL 73 yX6_lockScenes ∈ zG := zG_at 646 (by decide +kernel) (by decide +kernel)
theorem k_m_L_79 : Cond.methodLink RL 79 yL_omitted ∈ zG := zG_at 655 (by decide +kernel) (by decide +kernel)
theorem k_m_L_83 : Cond.methodLink RL 83 yL_sets ∈ zG := zG_at 677 (by decide +kernel) (by decide +kernel)
theorem k_m_L_87 : Cond.methodLink RL 87 yX6_lockPages ∈ zG := zG_at 689 (by decide +kernel) (by decide +kernel)
theorem ht_L_inserts : zHt yL_inserts cL_inserts 6 [(0, 9, 10, 101), (0, 9, 15, 103), (0, 9, 20, 106)] 5 := ⟨zG_at 289 (by decide +kernel) (by decide +kernel), zG_at 25 (by decide +kernel) (by decide +kernel), zG_at 290 (by decide +kernel) (by decide +kernel), by decide +kernel⟩
theorem ht_L_drops : zHt yL_drops cL_drops 3 [(0, 5, 6, 101), (0, 5, 10, 106)] 2 := ⟨zG_at 599 (by decide +kernel) (by decide +kernel), zG_at 25 (by decide +kernel) (by decide +kernel), zG_at 600 (by decide +kernel) (by decide +kernel), by decide +kernel⟩
theorem ht_L_lengths : zHt yL_lengths cL_lengths 4 [(0, 6, 7, 101), (0, 6, 11, 103)] 3 := ⟨zG_at 623 (by decide +kernel) (by decide +kernel), zG_at 25 (by decide +kernel) (by decide +kernel), zG_at 624 (by decide +kernel) (by decide +kernel), by decide +kernel⟩
theorem ht_L_sizes : zHt yL_sizes cL_sizes 3 [(0, 5, 6, 103)] 2 := ⟨zG_at 636 (by decide +kernel) (by decide +kernel), zG_at 25 (by decide +kernel) (by decide +kernel), zG_at 637 (by decide +kernel) (by decide +kernel), by decide +kernel⟩
def rm_L_acts : Room := { frames := 9, cells := 3, slots := 146, locals := 216 }
set_option maxRecDepth 100000 in
set_option maxHeartbeats 4000000 in
theorem c_L_acts (l : Launch) (hlt : l.stackTraces = false) (Z : zZ) (sa : Nat → Nat) (sz : Nat) (mm : Nat) (u : t_SPa) (ag : Nat) (ak : Nat) (al : Nat) (ap : Nat) (ab : Nat) (am : Nat) (x : t_SP) (g : Rw) (k : Rw) (ln : Rw) (pr : Rw) (lb : Rw) (mk : Rw) (p7 : Int32) (R : Int32 × t_SP × Rw × Rw × Rw × Rw × Rw × Rw) (hF : L_acts x g k ln pr lb mk p7 = some R) : zKM l yL_acts (zw yL_acts cL_acts 21 (some .boolean)) rm_L_acts Z sa sz [.ref mm, .ref ag, .ref ak, .ref al, .ref ap, .ref ab, .ref am, .int p7] (List.flatten [w_SP Z mm u x, w_Arr Z.2.1 2 ag g, w_Arr Z.2.1 41 ak k, w_Arr Z.2.1 41 al ln, w_Arr Z.2.1 41 ap pr, w_Arr Z.2.1 41 ab lb, w_Arr Z.2.1 41 am mk]) (List.flatten [w_SP Z mm u R.2.1, w_Arr Z.2.1 2 ag R.2.2.1, w_Arr Z.2.1 41 ak R.2.2.2.1, w_Arr Z.2.1 41 al R.2.2.2.2.1, w_Arr Z.2.1 41 ap R.2.2.2.2.2.1, w_Arr Z.2.1 41 ab R.2.2.2.2.2.2.1, w_Arr Z.2.1 41 am R.2.2.2.2.2.2.2]) (some (.int R.1)) 3 146 := by
  refine zKM_of (by decide) (Nat.le_of_ble_eq_true rfl) (fun p e s m below meth c hx hb hr hml hown hts hlocks hK hT hN A hA hA0 Q hQ ls hl hP hD hS => ?_)
  rw [← hA] at hT
  unfold L_acts at hF
  have hl : lv_has ls 21 [(0, .ref mm), (1, .ref ag), (2, .ref ak), (3, .ref al), (4, .ref ap), (5, .ref ab), (6, .ref am), (7, .int p7)] := hl
  have hown : s.vm.findClass RL = some m.cls := hown
  have J365 : ∀  (x : t_SP) (g : Rw) (k : Rw) (ln : Rw) (pr : Rw) (lb : Rw) (mk : Rw) (x9 : Int32) (x12 : Int32) (x13 : Int32) (x14 : Int32) (x15 : Int32) (hF : j_L_acts_365 p7 x g k ln pr lb mk x9 x12 x13 x14 x15 = some R) (H : Heap) (locs : List Loc) (ls : Array Slot) (hP : va_P Z.1 vwCl (List.flatten [w_SP Z mm u x, w_Arr Z.2.1 2 ag g, w_Arr Z.2.1 41 ak k, w_Arr Z.2.1 41 al ln, w_Arr Z.2.1 41 ap pr, w_Arr Z.2.1 41 ab lb, w_Arr Z.2.1 41 am mk]) H) (hD : va_D A (List.flatten [w_SP Z mm u x, w_Arr Z.2.1 2 ag g, w_Arr Z.2.1 41 ak k, w_Arr Z.2.1 41 al ln, w_Arr Z.2.1 41 ap pr, w_Arr Z.2.1 41 ab lb, w_Arr Z.2.1 41 am mk])) (hS : va_S A s.heap H locs) (hl : lv_has ls 21 [(0, .ref mm), (1, .ref ag), (2, .ref ak), (3, .ref al), (4, .ref ap), (5, .ref ab), (6, .ref am), (7, .int p7), (9, .int x9), (12, .int x12), (13, .int x13), (14, .int x14), (15, .int x15)]), W p l e rm_L_acts s m ([.ref mm, .ref ag, .ref ak, .ref al, .ref ap, .ref ab, .ref am, .int p7] : List Value).toArray below meth c H locs 1 41 Q (F0 m 365 ls []) := by
    intro x g k ln pr lb mk x9 x12 x13 x14 x15 hF H locs ls hP hD hS hl
    unfold j_L_acts_365 at hF
    refine lv_aload_n hx hb (z_d hL_acts_3 24 rfl) rfl (lv_at hl 0 rfl) ?_
    refine lv_iload hx hb (z_d hL_acts_3 25 rfl) (lv_at hl 9 rfl) ?_
    refine lv_iload hx hb (z_d hL_acts_3 26 rfl) (lv_at hl 10 rfl) ?_
    refine lv_iload hx hb (z_d hL_acts_3 27 rfl) (lv_at hl 11 rfl) ?_
    refine lv_iload hx hb (z_d hL_acts_3 28 rfl) (lv_at hl 12 rfl) ?_
    refine z_bnd hF (fun q28 hq28 hF => ?_)
    refine z_muN (L := [w_SP Z mm u x, w_Arr Z.2.1 2 ag g, w_Arr Z.2.1 41 ak k, w_Arr Z.2.1 41 al ln, w_Arr Z.2.1 41 ap pr, w_Arr Z.2.1 41 ab lb, w_Arr Z.2.1 41 am mk]) (L' := [w_SP Z mm u q28.2, w_Arr Z.2.1 2 ag g, w_Arr Z.2.1 41 ak k, w_Arr Z.2.1 41 al ln, w_Arr Z.2.1 41 ap pr, w_Arr Z.2.1 41 ab lb, w_Arr Z.2.1 41 am mk]) [(0, w_SP Z mm u x, w_SP Z mm u q28.2)] (z_rL (As := [.ref mm, .int x12, .int x13, .int x14, .int x15]) (rest := []) hx hb hml hown hts ht_L_inserts (c_L_inserts l hlt Z sa mm u x x12 x13 x14 x15 _ hq28) rfl rfl ⟨Nat.le_of_ble_eq_true rfl, Nat.le_of_ble_eq_true rfl⟩ k_m_L_44 hK ((hT.kept hS.2.1).narrow (z_zA (zDq [(0, w_SP Z mm u x, w_SP Z mm u q28.2)] hD (List.forall_mem_cons.mpr ⟨⟨rfl, (adr_SP _ _ _ _ _)⟩, (fun _ h => absurd h List.not_mem_nil)⟩) (show List.Nodup [0] by decide)))) hN (zP_c (zP_reg hP 0 rfl) zP_n) (zDq [(0, w_SP Z mm u x, w_SP Z mm u q28.2)] hD (List.forall_mem_cons.mpr ⟨⟨rfl, (adr_SP _ _ _ _ _)⟩, (fun _ h => absurd h List.not_mem_nil)⟩) (show List.Nodup [0] by decide)) rfl hl.1 (Nat.le_of_ble_eq_true rfl) (z_d hL_acts_3 29 rfl) ⟨Nat.le_of_ble_eq_true rfl, Nat.le_of_ble_eq_true rfl⟩) hS hP hD (List.forall_mem_cons.mpr ⟨⟨rfl, (adr_SP _ _ _ _ _)⟩, (fun _ h => absurd h List.not_mem_nil)⟩) (show List.Nodup [0] by decide) rfl rfl rfl (fun H locs hP hD hS => ?_)
    refine W.eq (g2 := F0 m 377 ls [.int q28.1]) rfl ?_
    refine lv_iload hx hb (z_d hL_acts_3 30 rfl) (lv_at hl 8 rfl) ?_
    refine lv_iconst (v := 1) hx hb (z_d hL_acts_3 31 rfl) (by decide) ?_
    refine lv_iadd hx hb (z_d hL_acts_3 32 rfl) ?_
    refine z_let hF (fun u29 hu29 hF => ?_)
    refine lv_topE hu29 ?_
    refine lv_icmp_ne (tgt := 388) hx hb (z_d hL_acts_3 33 rfl) (by decide) (fun hc381 => ?_) (fun hc381 => ?_)
    · have hF := z_neg hc381 hF
      refine lv_iconst (v := 0) hx hb (z_d hL_acts_3 36 rfl) (by decide) ?_
      have hz9 : narrow .boolean (.int 0) = .int 0 := rfl
      obtain rfl := Option.some.inj hF
      subst hQ
      subst hA
      exact z_kretZ (L := [w_SP Z mm u q28.2, w_Arr Z.2.1 2 ag g, w_Arr Z.2.1 41 ak k, w_Arr Z.2.1 41 al ln, w_Arr Z.2.1 41 ap pr, w_Arr Z.2.1 41 ab lb, w_Arr Z.2.1 41 am mk]) (Lr := []) hx hb hr hlocks hz9 rfl hP hS (Nat.le_of_ble_eq_true rfl) (Nat.le_of_ble_eq_true rfl) (z_d hL_acts_3 37 rfl)
    · have hF := z_pos hc381 hF
      refine lv_iconst (v := 1) hx hb (z_d hL_acts_3 34 rfl) (by decide) ?_
      refine lv_goto (tgt := 389) hx hb (z_d hL_acts_3 35 rfl) (by decide) ?_
      have hz9 : narrow .boolean (.int 1) = .int 1 := rfl
      obtain rfl := Option.some.inj hF
      subst hQ
      subst hA
      exact z_kretZ (L := [w_SP Z mm u q28.2, w_Arr Z.2.1 2 ag g, w_Arr Z.2.1 41 ak k, w_Arr Z.2.1 41 al ln, w_Arr Z.2.1 41 ap pr, w_Arr Z.2.1 41 ab lb, w_Arr Z.2.1 41 am mk]) (Lr := []) hx hb hr hlocks hz9 rfl hP hS (Nat.le_of_ble_eq_true rfl) (Nat.le_of_ble_eq_true rfl) (z_d hL_acts_3 37 rfl)
  have J179 : ∀  (x : t_SP) (g : Rw) (k : Rw) (ln : Rw) (pr : Rw) (lb : Rw) (mk : Rw) (x9 : Int32) (x12 : Int32) (x13 : Int32) (x14 : Int32) (z0 : Int32) (hF : j_L_acts_179 p7 x g k ln pr lb mk x9 x12 x13 x14 z0 = some R) (H : Heap) (locs : List Loc) (ls : Array Slot) (hP : va_P Z.1 vwCl (List.flatten [w_SP Z mm u x, w_Arr Z.2.1 2 ag g, w_Arr Z.2.1 41 ak k, w_Arr Z.2.1 41 al ln, w_Arr Z.2.1 41 ap pr, w_Arr Z.2.1 41 ab lb, w_Arr Z.2.1 41 am mk]) H) (hD : va_D A (List.flatten [w_SP Z mm u x, w_Arr Z.2.1 2 ag g, w_Arr Z.2.1 41 ak k, w_Arr Z.2.1 41 al ln, w_Arr Z.2.1 41 ap pr, w_Arr Z.2.1 41 ab lb, w_Arr Z.2.1 41 am mk])) (hS : va_S A s.heap H locs) (hl : lv_has ls 21 [(0, .ref mm), (1, .ref ag), (2, .ref ak), (3, .ref al), (4, .ref ap), (5, .ref ab), (6, .ref am), (7, .int p7), (9, .int x9), (12, .int x12), (13, .int x13), (14, .int x14)]), W p l e rm_L_acts s m ([.ref mm, .ref ag, .ref ak, .ref al, .ref ap, .ref ab, .ref am, .int p7] : List Value).toArray below meth c H locs 0 0 Q (F0 m 179 ls [.int z0]) := by
    intro x g k ln pr lb mk x9 x12 x13 x14 z0 hF H locs ls hP hD hS hl
    unfold j_L_acts_179 at hF
    refine lv_istore (lv' := [(15, .int z0), (0, .ref mm), (1, .ref ag), (2, .ref ak), (3, .ref al), (4, .ref ap), (5, .ref ab), (6, .ref am), (7, .int p7), (9, .int x9), (12, .int x12), (13, .int x13), (14, .int x14)]) hx hb (z_d hL_acts_1 40 rfl) hl (by decide) rfl (fun ls hl => ?_)
    refine lv_iload hx hb (z_d hL_acts_1 41 rfl) (lv_at hl 9 rfl) ?_
    refine lv_bipush (v := 40) hx hb (z_d hL_acts_1 42 rfl) (by decide) ?_
    refine lv_icmp_ne (tgt := 211) hx hb (z_d hL_acts_1 43 rfl) (by decide) (fun hc185 => ?_) (fun hc185 => ?_)
    · have hF := z_neg hc185 hF
      refine lv_aload_n hx hb (z_d hL_acts_1 56 rfl) rfl (lv_at hl 3 rfl) ?_
      refine lv_iload hx hb (z_d hL_acts_1 57 rfl) (lv_at hl 9 rfl) ?_
      refine lv_iload hx hb (z_d hL_acts_1 58 rfl) (lv_at hl 10 rfl) ?_
      refine lv_iload hx hb (z_d hL_acts_1 59 rfl) (lv_at hl 11 rfl) ?_
      refine z_bnd hF (fun q20 hq20 hF => ?_)
      refine z_muN (L := [w_SP Z mm u x, w_Arr Z.2.1 2 ag g, w_Arr Z.2.1 41 ak k, w_Arr Z.2.1 41 al ln, w_Arr Z.2.1 41 ap pr, w_Arr Z.2.1 41 ab lb, w_Arr Z.2.1 41 am mk]) (L' := [w_SP Z mm u x, w_Arr Z.2.1 2 ag g, w_Arr Z.2.1 41 ak q20, w_Arr Z.2.1 41 al ln, w_Arr Z.2.1 41 ap pr, w_Arr Z.2.1 41 ab lb, w_Arr Z.2.1 41 am mk]) [(2, w_Arr Z.2.1 41 ak k, w_Arr Z.2.1 41 ak q20)] (z_rS (As := [.ref ak, .int x9, .int x12, .int x13]) (rest := []) hx hb hml hown hts vs_L_opens (c_L_opens l Z ak k x9 x12 x13 _ hq20) rfl rfl ⟨Nat.le_of_ble_eq_true rfl, Nat.le_of_ble_eq_true rfl⟩ k_m_L_49 zPmu_blind (z_prem hK (zP_c (zP_reg hP 2 rfl) zP_n) (zDq [(2, w_Arr Z.2.1 41 ak k, w_Arr Z.2.1 41 ak q20)] hD (List.forall_mem_cons.mpr ⟨⟨rfl, rfl⟩, (fun _ h => absurd h List.not_mem_nil)⟩) (show List.Nodup [2] by decide))) rfl hl.1 (Nat.le_of_ble_eq_true rfl) (z_d hL_acts_2 0 rfl) ⟨Nat.le_of_ble_eq_true rfl, Nat.le_of_ble_eq_true rfl⟩) hS hP hD (List.forall_mem_cons.mpr ⟨⟨rfl, rfl⟩, (fun _ h => absurd h List.not_mem_nil)⟩) (show List.Nodup [2] by decide) rfl rfl rfl (fun H locs hP hD hS => ?_)
      refine W.eq (g2 := F0 m 221 ls []) rfl ?_
      refine lv_aload_n hx hb (z_d hL_acts_2 1 rfl) rfl (lv_at hl 4 rfl) ?_
      refine lv_iload hx hb (z_d hL_acts_2 2 rfl) (lv_at hl 9 rfl) ?_
      refine lv_iload hx hb (z_d hL_acts_2 3 rfl) (lv_at hl 10 rfl) ?_
      refine lv_iload hx hb (z_d hL_acts_2 4 rfl) (lv_at hl 12 rfl) ?_
      refine z_bnd hF (fun q21 hq21 hF => ?_)
      refine z_muN (L := [w_SP Z mm u x, w_Arr Z.2.1 2 ag g, w_Arr Z.2.1 41 ak q20, w_Arr Z.2.1 41 al ln, w_Arr Z.2.1 41 ap pr, w_Arr Z.2.1 41 ab lb, w_Arr Z.2.1 41 am mk]) (L' := [w_SP Z mm u x, w_Arr Z.2.1 2 ag g, w_Arr Z.2.1 41 ak q20, w_Arr Z.2.1 41 al q21, w_Arr Z.2.1 41 ap pr, w_Arr Z.2.1 41 ab lb, w_Arr Z.2.1 41 am mk]) [(3, w_Arr Z.2.1 41 al ln, w_Arr Z.2.1 41 al q21)] (z_rS (As := [.ref al, .int x9, .int x12, .int x14]) (rest := []) hx hb hml hown hts vs_L_opens (c_L_opens l Z al ln x9 x12 x14 _ hq21) rfl rfl ⟨Nat.le_of_ble_eq_true rfl, Nat.le_of_ble_eq_true rfl⟩ k_m_L_49 zPmu_blind (z_prem hK (zP_c (zP_reg hP 3 rfl) zP_n) (zDq [(3, w_Arr Z.2.1 41 al ln, w_Arr Z.2.1 41 al q21)] hD (List.forall_mem_cons.mpr ⟨⟨rfl, rfl⟩, (fun _ h => absurd h List.not_mem_nil)⟩) (show List.Nodup [3] by decide))) rfl hl.1 (Nat.le_of_ble_eq_true rfl) (z_d hL_acts_2 5 rfl) ⟨Nat.le_of_ble_eq_true rfl, Nat.le_of_ble_eq_true rfl⟩) hS hP hD (List.forall_mem_cons.mpr ⟨⟨rfl, rfl⟩, (fun _ h => absurd h List.not_mem_nil)⟩) (show List.Nodup [3] by decide) rfl rfl rfl (fun H locs hP hD hS => ?_)
      refine W.eq (g2 := F0 m 231 ls []) rfl ?_
      refine lv_aload hx hb (z_d hL_acts_2 6 rfl) (lv_at hl 5 rfl) ?_
      refine lv_iload hx hb (z_d hL_acts_2 7 rfl) (lv_at hl 9 rfl) ?_
      refine lv_iload hx hb (z_d hL_acts_2 8 rfl) (lv_at hl 10 rfl) ?_
      refine lv_iload hx hb (z_d hL_acts_2 9 rfl) (lv_at hl 0 rfl) ?_
      refine z_bnd hF (fun q22 hq22 hF => ?_)
      refine z_muN (L := [w_SP Z mm u x, w_Arr Z.2.1 2 ag g, w_Arr Z.2.1 41 ak q20, w_Arr Z.2.1 41 al q21, w_Arr Z.2.1 41 ap pr, w_Arr Z.2.1 41 ab lb, w_Arr Z.2.1 41 am mk]) (L' := [w_SP Z mm u x, w_Arr Z.2.1 2 ag g, w_Arr Z.2.1 41 ak q20, w_Arr Z.2.1 41 al q21, w_Arr Z.2.1 41 ap q22, w_Arr Z.2.1 41 ab lb, w_Arr Z.2.1 41 am mk]) [(4, w_Arr Z.2.1 41 ap pr, w_Arr Z.2.1 41 ap q22)] (z_rS (As := [.ref ap, .int x9, .int x12, .int z0]) (rest := []) hx hb hml hown hts vs_L_opens (c_L_opens l Z ap pr x9 x12 z0 _ hq22) rfl rfl ⟨Nat.le_of_ble_eq_true rfl, Nat.le_of_ble_eq_true rfl⟩ k_m_L_49 zPmu_blind (z_prem hK (zP_c (zP_reg hP 4 rfl) zP_n) (zDq [(4, w_Arr Z.2.1 41 ap pr, w_Arr Z.2.1 41 ap q22)] hD (List.forall_mem_cons.mpr ⟨⟨rfl, rfl⟩, (fun _ h => absurd h List.not_mem_nil)⟩) (show List.Nodup [4] by decide))) rfl hl.1 (Nat.le_of_ble_eq_true rfl) (z_d hL_acts_2 10 rfl) ⟨Nat.le_of_ble_eq_true rfl, Nat.le_of_ble_eq_true rfl⟩) hS hP hD (List.forall_mem_cons.mpr ⟨⟨rfl, rfl⟩, (fun _ h => absurd h List.not_mem_nil)⟩) (show List.Nodup [4] by decide) rfl rfl rfl (fun H locs hP hD hS => ?_)
      refine W.eq (g2 := F0 m 242 ls []) rfl ?_
      refine lv_aload hx hb (z_d hL_acts_2 11 rfl) (lv_at hl 6 rfl) ?_
      refine lv_iload hx hb (z_d hL_acts_2 12 rfl) (lv_at hl 9 rfl) ?_
      refine lv_iload hx hb (z_d hL_acts_2 13 rfl) (lv_at hl 10 rfl) ?_
      refine lv_iconst (v := (-1)) hx hb (z_d hL_acts_2 14 rfl) (by decide) ?_
      refine z_bnd hF (fun q23 hq23 hF => ?_)
      refine z_muN (L := [w_SP Z mm u x, w_Arr Z.2.1 2 ag g, w_Arr Z.2.1 41 ak q20, w_Arr Z.2.1 41 al q21, w_Arr Z.2.1 41 ap q22, w_Arr Z.2.1 41 ab lb, w_Arr Z.2.1 41 am mk]) (L' := [w_SP Z mm u x, w_Arr Z.2.1 2 ag g, w_Arr Z.2.1 41 ak q20, w_Arr Z.2.1 41 al q21, w_Arr Z.2.1 41 ap q22, w_Arr Z.2.1 41 ab q23, w_Arr Z.2.1 41 am mk]) [(5, w_Arr Z.2.1 41 ab lb, w_Arr Z.2.1 41 ab q23)] (z_rS (As := [.ref ab, .int x9, .int x12, .int (-1)]) (rest := []) hx hb hml hown hts vs_L_opens (c_L_opens l Z ab lb x9 x12 (-1) _ hq23) rfl rfl ⟨Nat.le_of_ble_eq_true rfl, Nat.le_of_ble_eq_true rfl⟩ k_m_L_49 zPmu_blind (z_prem hK (zP_c (zP_reg hP 5 rfl) zP_n) (zDq [(5, w_Arr Z.2.1 41 ab lb, w_Arr Z.2.1 41 ab q23)] hD (List.forall_mem_cons.mpr ⟨⟨rfl, rfl⟩, (fun _ h => absurd h List.not_mem_nil)⟩) (show List.Nodup [5] by decide))) rfl hl.1 (Nat.le_of_ble_eq_true rfl) (z_d hL_acts_2 15 rfl) ⟨Nat.le_of_ble_eq_true rfl, Nat.le_of_ble_eq_true rfl⟩) hS hP hD (List.forall_mem_cons.mpr ⟨⟨rfl, rfl⟩, (fun _ h => absurd h List.not_mem_nil)⟩) (show List.Nodup [5] by decide) rfl rfl rfl (fun H locs hP hD hS => ?_)
      refine W.eq (g2 := F0 m 252 ls []) rfl ?_
      refine lv_aload hx hb (z_d hL_acts_2 16 rfl) (lv_at hl 7 rfl) ?_
      refine lv_iload hx hb (z_d hL_acts_2 17 rfl) (lv_at hl 9 rfl) ?_
      refine lv_iload hx hb (z_d hL_acts_2 18 rfl) (lv_at hl 10 rfl) ?_
      refine lv_iconst (v := 0) hx hb (z_d hL_acts_2 19 rfl) (by decide) ?_
      refine z_bnd hF (fun q24 hq24 hF => ?_)
      refine z_muN (L := [w_SP Z mm u x, w_Arr Z.2.1 2 ag g, w_Arr Z.2.1 41 ak q20, w_Arr Z.2.1 41 al q21, w_Arr Z.2.1 41 ap q22, w_Arr Z.2.1 41 ab q23, w_Arr Z.2.1 41 am mk]) (L' := [w_SP Z mm u x, w_Arr Z.2.1 2 ag g, w_Arr Z.2.1 41 ak q20, w_Arr Z.2.1 41 al q21, w_Arr Z.2.1 41 ap q22, w_Arr Z.2.1 41 ab q23, w_Arr Z.2.1 41 am q24]) [(6, w_Arr Z.2.1 41 am mk, w_Arr Z.2.1 41 am q24)] (z_rS (As := [.ref am, .int x9, .int x12, .int 0]) (rest := []) hx hb hml hown hts vs_L_opens (c_L_opens l Z am mk x9 x12 0 _ hq24) rfl rfl ⟨Nat.le_of_ble_eq_true rfl, Nat.le_of_ble_eq_true rfl⟩ k_m_L_49 zPmu_blind (z_prem hK (zP_c (zP_reg hP 6 rfl) zP_n) (zDq [(6, w_Arr Z.2.1 41 am mk, w_Arr Z.2.1 41 am q24)] hD (List.forall_mem_cons.mpr ⟨⟨rfl, rfl⟩, (fun _ h => absurd h List.not_mem_nil)⟩) (show List.Nodup [6] by decide))) rfl hl.1 (Nat.le_of_ble_eq_true rfl) (z_d hL_acts_2 20 rfl) ⟨Nat.le_of_ble_eq_true rfl, Nat.le_of_ble_eq_true rfl⟩) hS hP hD (List.forall_mem_cons.mpr ⟨⟨rfl, rfl⟩, (fun _ h => absurd h List.not_mem_nil)⟩) (show List.Nodup [6] by decide) rfl rfl rfl (fun H locs hP hD hS => ?_)
      refine W.eq (g2 := F0 m 262 ls []) rfl ?_
      refine lv_aload_n hx hb (z_d hL_acts_2 21 rfl) rfl (lv_at hl 2 rfl) ?_
      refine lv_iconst (v := 0) hx hb (z_d hL_acts_2 22 rfl) (by decide) ?_
      refine lv_dup2_11 hx hb (z_d hL_acts_2 23 rfl) rfl rfl ?_
      refine z_ix hF (fun hin hF => ?_)
      refine va_iald (D := Z.1) (f := g) hx hb hK.1 (zP_reg hP 1 rfl) 0 0 rfl rfl hin (z_d hL_acts_2 24 rfl) ?_
      refine z_let hF (fun u25 hu25 hF => ?_)
      refine lv_topE hu25 ?_
      refine lv_iconst (v := 1) hx hb (z_d hL_acts_2 25 rfl) (by decide) ?_
      refine lv_iadd hx hb (z_d hL_acts_2 26 rfl) ?_
      refine z_let hF (fun u26 hu26 hF => ?_)
      refine lv_topE hu26 ?_
      refine z_ix hF (fun hin hF => ?_)
      refine z_let hF (fun g27 hg27 hF => ?_)
      refine z_iast (Z := Z) (L := [w_SP Z mm u x, w_Arr Z.2.1 2 ag g, w_Arr Z.2.1 41 ak q20, w_Arr Z.2.1 41 al q21, w_Arr Z.2.1 41 ap q22, w_Arr Z.2.1 41 ab q23, w_Arr Z.2.1 41 am q24]) (L' := [w_SP Z mm u x, w_Arr Z.2.1 2 ag g27, w_Arr Z.2.1 41 ak q20, w_Arr Z.2.1 41 al q21, w_Arr Z.2.1 41 ap q22, w_Arr Z.2.1 41 ab q23, w_Arr Z.2.1 41 am q24]) (f := g) hx hb hK hP hD hS 1 rfl hin hg27 rfl (z_d hL_acts_2 27 rfl) (fun H locs hP hD hS => ?_)
      refine lv_iload hx hb (z_d hL_acts_2 28 rfl) (lv_at hl 11 rfl) ?_
      refine lv_if_ne (tgt := 365) hx hb (z_d hL_acts_2 29 rfl) (by decide) (fun hc271 => ?_) (fun hc271 => ?_)
      · have hF := z_neg hc271 hF
        exact W.widen (Nat.le_of_ble_eq_true rfl) (Nat.le_of_ble_eq_true rfl) (J365 x g27 q20 q21 q22 q23 q24 x9 x12 x13 x14 z0 hF _ _ ls hP hD hS (lv_sub hl [1, 2, 3, 4, 5, 6, 7, 8, 9, 10, 11, 12, 0] rfl))
      · have hF := z_pos hc271 hF
        refine lv_aload_n hx hb (z_d hL_acts_2 30 rfl) rfl (lv_at hl 2 rfl) ?_
        refine lv_aload_n hx hb (z_d hL_acts_2 31 rfl) rfl (lv_at hl 3 rfl) ?_
        refine lv_aload hx hb (z_d hL_acts_2 32 rfl) (lv_at hl 6 rfl) ?_
        refine z_bnd hF (fun q30 hq30 hF => ?_)
        refine z_kmN (L := [w_SP Z mm u x, w_Arr Z.2.1 2 ag g27, w_Arr Z.2.1 41 ak q20, w_Arr Z.2.1 41 al q21, w_Arr Z.2.1 41 ap q22, w_Arr Z.2.1 41 ab q23, w_Arr Z.2.1 41 am q24]) (L' := [w_SP Z mm u x, w_Arr Z.2.1 2 ag g27, w_Arr Z.2.1 41 ak q20, w_Arr Z.2.1 41 al q21, w_Arr Z.2.1 41 ap q22, w_Arr Z.2.1 41 ab q23, w_Arr Z.2.1 41 am q24]) [(1, w_Arr Z.2.1 2 ag g27, w_Arr Z.2.1 2 ag g27), (2, w_Arr Z.2.1 41 ak q20, w_Arr Z.2.1 41 ak q20), (5, w_Arr Z.2.1 41 ab q23, w_Arr Z.2.1 41 ab q23)] (z_rKM (As := [.ref ag, .ref ak, .ref ab]) (rest := []) hx hb hml hown hts vs_L_hasTwo (c_L_hasTwo l hlt Z sa H.size ag ak ab g27 q20 q23 _ hq30) rfl rfl ⟨Nat.le_of_ble_eq_true rfl, Nat.le_of_ble_eq_true rfl⟩ k_m_L_53 hK ((hT.kept hS.2.1).narrow (zkA hS hA0 (zDq [(1, w_Arr Z.2.1 2 ag g27, w_Arr Z.2.1 2 ag g27), (2, w_Arr Z.2.1 41 ak q20, w_Arr Z.2.1 41 ak q20), (5, w_Arr Z.2.1 41 ab q23, w_Arr Z.2.1 41 ab q23)] hD (List.forall_mem_cons.mpr ⟨⟨rfl, rfl⟩, (List.forall_mem_cons.mpr ⟨⟨rfl, rfl⟩, (List.forall_mem_cons.mpr ⟨⟨rfl, rfl⟩, (fun _ h => absurd h List.not_mem_nil)⟩)⟩)⟩) (show List.Nodup [1, 2, 5] by decide)))) hN (zP_c (zP_reg hP 1 rfl) (zP_c (zP_reg hP 2 rfl) (zP_c (zP_reg hP 5 rfl) zP_n))) (zDq [(1, w_Arr Z.2.1 2 ag g27, w_Arr Z.2.1 2 ag g27), (2, w_Arr Z.2.1 41 ak q20, w_Arr Z.2.1 41 ak q20), (5, w_Arr Z.2.1 41 ab q23, w_Arr Z.2.1 41 ab q23)] hD (List.forall_mem_cons.mpr ⟨⟨rfl, rfl⟩, (List.forall_mem_cons.mpr ⟨⟨rfl, rfl⟩, (List.forall_mem_cons.mpr ⟨⟨rfl, rfl⟩, (fun _ h => absurd h List.not_mem_nil)⟩)⟩)⟩) (show List.Nodup [1, 2, 5] by decide)) rfl hl.1 (Nat.le_of_ble_eq_true rfl) (z_d hL_acts_2 33 rfl) ⟨Nat.le_of_ble_eq_true rfl, Nat.le_of_ble_eq_true rfl⟩) hS hA0 hP hD (List.forall_mem_cons.mpr ⟨⟨rfl, rfl⟩, (List.forall_mem_cons.mpr ⟨⟨rfl, rfl⟩, (List.forall_mem_cons.mpr ⟨⟨rfl, rfl⟩, (fun _ h => absurd h List.not_mem_nil)⟩)⟩)⟩) (show List.Nodup [1, 2, 5] by decide) rfl rfl rfl (fun H locs hP hD hS => ?_)
        refine W.eq (g2 := F0 m 281 ls [.int q30]) rfl ?_
        refine lv_if_eq (tgt := 365) hx hb (z_d hL_acts_2 34 rfl) (by decide) (fun hc281 => ?_) (fun hc281 => ?_)
        · have hF := z_pos hc281 hF
          exact J365 x g27 q20 q21 q22 q23 q24 x9 x12 x13 x14 z0 hF _ _ ls hP hD hS (lv_sub hl [1, 2, 3, 4, 5, 6, 7, 8, 9, 10, 11, 12, 0] rfl)
        · have hF := z_neg hc281 hF
          refine lv_aload_n hx hb (z_d hL_acts_2 35 rfl) rfl (lv_at hl 3 rfl) ?_
          refine lv_iload hx hb (z_d hL_acts_2 36 rfl) (lv_at hl 9 rfl) ?_
          refine lv_iconst (v := 1) hx hb (z_d hL_acts_2 37 rfl) (by decide) ?_
          refine lv_iadd hx hb (z_d hL_acts_2 38 rfl) ?_
          refine z_let hF (fun u31 hu31 hF => ?_)
          refine lv_topE hu31 ?_
          refine lv_iload hx hb (z_d hL_acts_2 39 rfl) (lv_at hl 10 rfl) ?_
          refine z_bnd hF (fun q32 hq32 hF => ?_)
          refine z_muN (L := [w_SP Z mm u x, w_Arr Z.2.1 2 ag g27, w_Arr Z.2.1 41 ak q20, w_Arr Z.2.1 41 al q21, w_Arr Z.2.1 41 ap q22, w_Arr Z.2.1 41 ab q23, w_Arr Z.2.1 41 am q24]) (L' := [w_SP Z mm u x, w_Arr Z.2.1 2 ag g27, w_Arr Z.2.1 41 ak q32, w_Arr Z.2.1 41 al q21, w_Arr Z.2.1 41 ap q22, w_Arr Z.2.1 41 ab q23, w_Arr Z.2.1 41 am q24]) [(2, w_Arr Z.2.1 41 ak q20, w_Arr Z.2.1 41 ak q32)] (z_rS (As := [.ref ak, .int u31, .int x12]) (rest := []) hx hb hml hown hts vs_L_closes (c_L_closes l Z ak q20 u31 x12 _ hq32) rfl rfl ⟨Nat.le_of_ble_eq_true rfl, Nat.le_of_ble_eq_true rfl⟩ k_m_L_19 zPmu_blind (z_prem hK (zP_c (zP_reg hP 2 rfl) zP_n) (zDq [(2, w_Arr Z.2.1 41 ak q20, w_Arr Z.2.1 41 ak q32)] hD (List.forall_mem_cons.mpr ⟨⟨rfl, rfl⟩, (fun _ h => absurd h List.not_mem_nil)⟩) (show List.Nodup [2] by decide))) rfl hl.1 (Nat.le_of_ble_eq_true rfl) (z_d hL_acts_2 40 rfl) ⟨Nat.le_of_ble_eq_true rfl, Nat.le_of_ble_eq_true rfl⟩) hS hP hD (List.forall_mem_cons.mpr ⟨⟨rfl, rfl⟩, (fun _ h => absurd h List.not_mem_nil)⟩) (show List.Nodup [2] by decide) rfl rfl rfl (fun H locs hP hD hS => ?_)
          refine W.eq (g2 := F0 m 294 ls []) rfl ?_
          refine lv_aload_n hx hb (z_d hL_acts_2 41 rfl) rfl (lv_at hl 4 rfl) ?_
          refine lv_iload hx hb (z_d hL_acts_2 42 rfl) (lv_at hl 9 rfl) ?_
          refine lv_iconst (v := 1) hx hb (z_d hL_acts_2 43 rfl) (by decide) ?_
          refine lv_iadd hx hb (z_d hL_acts_2 44 rfl) ?_
          refine z_let hF (fun u33 hu33 hF => ?_)
          refine lv_topE hu33 ?_
          refine lv_iload hx hb (z_d hL_acts_2 45 rfl) (lv_at hl 10 rfl) ?_
          refine z_bnd hF (fun q34 hq34 hF => ?_)
          refine z_muN (L := [w_SP Z mm u x, w_Arr Z.2.1 2 ag g27, w_Arr Z.2.1 41 ak q32, w_Arr Z.2.1 41 al q21, w_Arr Z.2.1 41 ap q22, w_Arr Z.2.1 41 ab q23, w_Arr Z.2.1 41 am q24]) (L' := [w_SP Z mm u x, w_Arr Z.2.1 2 ag g27, w_Arr Z.2.1 41 ak q32, w_Arr Z.2.1 41 al q34, w_Arr Z.2.1 41 ap q22, w_Arr Z.2.1 41 ab q23, w_Arr Z.2.1 41 am q24]) [(3, w_Arr Z.2.1 41 al q21, w_Arr Z.2.1 41 al q34)] (z_rS (As := [.ref al, .int u33, .int x12]) (rest := []) hx hb hml hown hts vs_L_closes (c_L_closes l Z al q21 u33 x12 _ hq34) rfl rfl ⟨Nat.le_of_ble_eq_true rfl, Nat.le_of_ble_eq_true rfl⟩ k_m_L_19 zPmu_blind (z_prem hK (zP_c (zP_reg hP 3 rfl) zP_n) (zDq [(3, w_Arr Z.2.1 41 al q21, w_Arr Z.2.1 41 al q34)] hD (List.forall_mem_cons.mpr ⟨⟨rfl, rfl⟩, (fun _ h => absurd h List.not_mem_nil)⟩) (show List.Nodup [3] by decide))) rfl hl.1 (Nat.le_of_ble_eq_true rfl) (z_d hL_acts_2 46 rfl) ⟨Nat.le_of_ble_eq_true rfl, Nat.le_of_ble_eq_true rfl⟩) hS hP hD (List.forall_mem_cons.mpr ⟨⟨rfl, rfl⟩, (fun _ h => absurd h List.not_mem_nil)⟩) (show List.Nodup [3] by decide) rfl rfl rfl (fun H locs hP hD hS => ?_)
          refine W.eq (g2 := F0 m 304 ls []) rfl ?_
          refine lv_aload hx hb (z_d hL_acts_2 47 rfl) (lv_at hl 5 rfl) ?_
          refine lv_iload hx hb (z_d hL_acts_2 48 rfl) (lv_at hl 9 rfl) ?_
          refine lv_iconst (v := 1) hx hb (z_d hL_acts_2 49 rfl) (by decide) ?_
          refine lv_iadd hx hb (z_d hL_acts_2 50 rfl) ?_
          refine z_let hF (fun u35 hu35 hF => ?_)
          refine lv_topE hu35 ?_
          refine lv_iload hx hb (z_d hL_acts_2 51 rfl) (lv_at hl 10 rfl) ?_
          refine z_bnd hF (fun q36 hq36 hF => ?_)
          refine z_muN (L := [w_SP Z mm u x, w_Arr Z.2.1 2 ag g27, w_Arr Z.2.1 41 ak q32, w_Arr Z.2.1 41 al q34, w_Arr Z.2.1 41 ap q22, w_Arr Z.2.1 41 ab q23, w_Arr Z.2.1 41 am q24]) (L' := [w_SP Z mm u x, w_Arr Z.2.1 2 ag g27, w_Arr Z.2.1 41 ak q32, w_Arr Z.2.1 41 al q34, w_Arr Z.2.1 41 ap q36, w_Arr Z.2.1 41 ab q23, w_Arr Z.2.1 41 am q24]) [(4, w_Arr Z.2.1 41 ap q22, w_Arr Z.2.1 41 ap q36)] (z_rS (As := [.ref ap, .int u35, .int x12]) (rest := []) hx hb hml hown hts vs_L_closes (c_L_closes l Z ap q22 u35 x12 _ hq36) rfl rfl ⟨Nat.le_of_ble_eq_true rfl, Nat.le_of_ble_eq_true rfl⟩ k_m_L_19 zPmu_blind (z_prem hK (zP_c (zP_reg hP 4 rfl) zP_n) (zDq [(4, w_Arr Z.2.1 41 ap q22, w_Arr Z.2.1 41 ap q36)] hD (List.forall_mem_cons.mpr ⟨⟨rfl, rfl⟩, (fun _ h => absurd h List.not_mem_nil)⟩) (show List.Nodup [4] by decide))) rfl hl.1 (Nat.le_of_ble_eq_true rfl) (z_d hL_acts_2 52 rfl) ⟨Nat.le_of_ble_eq_true rfl, Nat.le_of_ble_eq_true rfl⟩) hS hP hD (List.forall_mem_cons.mpr ⟨⟨rfl, rfl⟩, (fun _ h => absurd h List.not_mem_nil)⟩) (show List.Nodup [4] by decide) rfl rfl rfl (fun H locs hP hD hS => ?_)
          refine W.eq (g2 := F0 m 315 ls []) rfl ?_
          refine lv_aload hx hb (z_d hL_acts_2 53 rfl) (lv_at hl 6 rfl) ?_
          refine lv_iload hx hb (z_d hL_acts_2 54 rfl) (lv_at hl 9 rfl) ?_
          refine lv_iconst (v := 1) hx hb (z_d hL_acts_2 55 rfl) (by decide) ?_
          refine lv_iadd hx hb (z_d hL_acts_2 56 rfl) ?_
          refine z_let hF (fun u37 hu37 hF => ?_)
          refine lv_topE hu37 ?_
          refine lv_iload hx hb (z_d hL_acts_2 57 rfl) (lv_at hl 10 rfl) ?_
          refine z_bnd hF (fun q38 hq38 hF => ?_)
          refine z_muN (L := [w_SP Z mm u x, w_Arr Z.2.1 2 ag g27, w_Arr Z.2.1 41 ak q32, w_Arr Z.2.1 41 al q34, w_Arr Z.2.1 41 ap q36, w_Arr Z.2.1 41 ab q23, w_Arr Z.2.1 41 am q24]) (L' := [w_SP Z mm u x, w_Arr Z.2.1 2 ag g27, w_Arr Z.2.1 41 ak q32, w_Arr Z.2.1 41 al q34, w_Arr Z.2.1 41 ap q36, w_Arr Z.2.1 41 ab q38, w_Arr Z.2.1 41 am q24]) [(5, w_Arr Z.2.1 41 ab q23, w_Arr Z.2.1 41 ab q38)] (z_rS (As := [.ref ab, .int u37, .int x12]) (rest := []) hx hb hml hown hts vs_L_closes (c_L_closes l Z ab q23 u37 x12 _ hq38) rfl rfl ⟨Nat.le_of_ble_eq_true rfl, Nat.le_of_ble_eq_true rfl⟩ k_m_L_19 zPmu_blind (z_prem hK (zP_c (zP_reg hP 5 rfl) zP_n) (zDq [(5, w_Arr Z.2.1 41 ab q23, w_Arr Z.2.1 41 ab q38)] hD (List.forall_mem_cons.mpr ⟨⟨rfl, rfl⟩, (fun _ h => absurd h List.not_mem_nil)⟩) (show List.Nodup [5] by decide))) rfl hl.1 (Nat.le_of_ble_eq_true rfl) (z_d hL_acts_2 58 rfl) ⟨Nat.le_of_ble_eq_true rfl, Nat.le_of_ble_eq_true rfl⟩) hS hP hD (List.forall_mem_cons.mpr ⟨⟨rfl, rfl⟩, (fun _ h => absurd h List.not_mem_nil)⟩) (show List.Nodup [5] by decide) rfl rfl rfl (fun H locs hP hD hS => ?_)
          refine W.eq (g2 := F0 m 326 ls []) rfl ?_
          refine lv_aload hx hb (z_d hL_acts_2 59 rfl) (lv_at hl 7 rfl) ?_
          refine lv_iload hx hb (z_d hL_acts_3 0 rfl) (lv_at hl 9 rfl) ?_
          refine lv_iconst (v := 1) hx hb (z_d hL_acts_3 1 rfl) (by decide) ?_
          refine lv_iadd hx hb (z_d hL_acts_3 2 rfl) ?_
          refine z_let hF (fun u39 hu39 hF => ?_)
          refine lv_topE hu39 ?_
          refine lv_iload hx hb (z_d hL_acts_3 3 rfl) (lv_at hl 10 rfl) ?_
          refine z_bnd hF (fun q40 hq40 hF => ?_)
          refine z_muN (L := [w_SP Z mm u x, w_Arr Z.2.1 2 ag g27, w_Arr Z.2.1 41 ak q32, w_Arr Z.2.1 41 al q34, w_Arr Z.2.1 41 ap q36, w_Arr Z.2.1 41 ab q38, w_Arr Z.2.1 41 am q24]) (L' := [w_SP Z mm u x, w_Arr Z.2.1 2 ag g27, w_Arr Z.2.1 41 ak q32, w_Arr Z.2.1 41 al q34, w_Arr Z.2.1 41 ap q36, w_Arr Z.2.1 41 ab q38, w_Arr Z.2.1 41 am q40]) [(6, w_Arr Z.2.1 41 am q24, w_Arr Z.2.1 41 am q40)] (z_rS (As := [.ref am, .int u39, .int x12]) (rest := []) hx hb hml hown hts vs_L_closes (c_L_closes l Z am q24 u39 x12 _ hq40) rfl rfl ⟨Nat.le_of_ble_eq_true rfl, Nat.le_of_ble_eq_true rfl⟩ k_m_L_19 zPmu_blind (z_prem hK (zP_c (zP_reg hP 6 rfl) zP_n) (zDq [(6, w_Arr Z.2.1 41 am q24, w_Arr Z.2.1 41 am q40)] hD (List.forall_mem_cons.mpr ⟨⟨rfl, rfl⟩, (fun _ h => absurd h List.not_mem_nil)⟩) (show List.Nodup [6] by decide))) rfl hl.1 (Nat.le_of_ble_eq_true rfl) (z_d hL_acts_3 4 rfl) ⟨Nat.le_of_ble_eq_true rfl, Nat.le_of_ble_eq_true rfl⟩) hS hP hD (List.forall_mem_cons.mpr ⟨⟨rfl, rfl⟩, (fun _ h => absurd h List.not_mem_nil)⟩) (show List.Nodup [6] by decide) rfl rfl rfl (fun H locs hP hD hS => ?_)
          refine W.eq (g2 := F0 m 337 ls []) rfl ?_
          refine lv_aload_n hx hb (z_d hL_acts_3 5 rfl) rfl (lv_at hl 2 rfl) ?_
          refine lv_iconst (v := 0) hx hb (z_d hL_acts_3 6 rfl) (by decide) ?_
          refine lv_dup2_11 hx hb (z_d hL_acts_3 7 rfl) rfl rfl ?_
          refine z_ix hF (fun hin hF => ?_)
          refine va_iald (D := Z.1) (f := g27) hx hb hK.1 (zP_reg hP 1 rfl) 0 0 rfl rfl hin (z_d hL_acts_3 8 rfl) ?_
          refine z_let hF (fun u41 hu41 hF => ?_)
          refine lv_topE hu41 ?_
          refine lv_iconst (v := 1) hx hb (z_d hL_acts_3 9 rfl) (by decide) ?_
          refine lv_isub hx hb (z_d hL_acts_3 10 rfl) ?_
          refine z_let hF (fun u42 hu42 hF => ?_)
          refine lv_topE hu42 ?_
          refine z_ix hF (fun hin hF => ?_)
          refine z_let hF (fun g43 hg43 hF => ?_)
          refine z_iast (Z := Z) (L := [w_SP Z mm u x, w_Arr Z.2.1 2 ag g27, w_Arr Z.2.1 41 ak q32, w_Arr Z.2.1 41 al q34, w_Arr Z.2.1 41 ap q36, w_Arr Z.2.1 41 ab q38, w_Arr Z.2.1 41 am q40]) (L' := [w_SP Z mm u x, w_Arr Z.2.1 2 ag g43, w_Arr Z.2.1 41 ak q32, w_Arr Z.2.1 41 al q34, w_Arr Z.2.1 41 ap q36, w_Arr Z.2.1 41 ab q38, w_Arr Z.2.1 41 am q40]) (f := g27) hx hb hK hP hD hS 1 rfl hin hg43 rfl (z_d hL_acts_3 11 rfl) (fun H locs hP hD hS => ?_)
          refine lv_aload_n hx hb (z_d hL_acts_3 12 rfl) rfl (lv_at hl 1 rfl) ?_
          refine lv_iload hx hb (z_d hL_acts_3 13 rfl) (lv_at hl 10 rfl) ?_
          refine lv_iconst (v := 0) hx hb (z_d hL_acts_3 14 rfl) (by decide) ?_
          refine lv_iload hx hb (z_d hL_acts_3 15 rfl) (lv_at hl 12 rfl) ?_
          refine lv_iconst (v := (-1)) hx hb (z_d hL_acts_3 16 rfl) (by decide) ?_
          refine z_bnd hF (fun q44 hq44 hF => ?_)
          refine z_muN (L := [w_SP Z mm u x, w_Arr Z.2.1 2 ag g43, w_Arr Z.2.1 41 ak q32, w_Arr Z.2.1 41 al q34, w_Arr Z.2.1 41 ap q36, w_Arr Z.2.1 41 ab q38, w_Arr Z.2.1 41 am q40]) (L' := [w_SP Z mm u q44.2, w_Arr Z.2.1 2 ag g43, w_Arr Z.2.1 41 ak q32, w_Arr Z.2.1 41 al q34, w_Arr Z.2.1 41 ap q36, w_Arr Z.2.1 41 ab q38, w_Arr Z.2.1 41 am q40]) [(0, w_SP Z mm u x, w_SP Z mm u q44.2)] (z_rL (As := [.ref mm, .int x12, .int 0, .int x14, .int (-1)]) (rest := []) hx hb hml hown hts ht_L_inserts (c_L_inserts l hlt Z sa mm u x x12 0 x14 (-1) _ hq44) rfl rfl ⟨Nat.le_of_ble_eq_true rfl, Nat.le_of_ble_eq_true rfl⟩ k_m_L_44 hK ((hT.kept hS.2.1).narrow (z_zA (zDq [(0, w_SP Z mm u x, w_SP Z mm u q44.2)] hD (List.forall_mem_cons.mpr ⟨⟨rfl, (adr_SP _ _ _ _ _)⟩, (fun _ h => absurd h List.not_mem_nil)⟩) (show List.Nodup [0] by decide)))) hN (zP_c (zP_reg hP 0 rfl) zP_n) (zDq [(0, w_SP Z mm u x, w_SP Z mm u q44.2)] hD (List.forall_mem_cons.mpr ⟨⟨rfl, (adr_SP _ _ _ _ _)⟩, (fun _ h => absurd h List.not_mem_nil)⟩) (show List.Nodup [0] by decide)) rfl hl.1 (Nat.le_of_ble_eq_true rfl) (z_d hL_acts_3 17 rfl) ⟨Nat.le_of_ble_eq_true rfl, Nat.le_of_ble_eq_true rfl⟩) hS hP hD (List.forall_mem_cons.mpr ⟨⟨rfl, (adr_SP _ _ _ _ _)⟩, (fun _ h => absurd h List.not_mem_nil)⟩) (show List.Nodup [0] by decide) rfl rfl rfl (fun H locs hP hD hS => ?_)
          refine W.eq (g2 := F0 m 354 ls [.int q44.1]) rfl ?_
          refine lv_ldc (v := (-100003)) hx hb hown (hts _ k_i_L_57) (z_d hL_acts_3 18 rfl) ?_
          refine lv_icmp_ne (tgt := 363) hx hb (z_d hL_acts_3 19 rfl) (by decide) (fun hc356 => ?_) (fun hc356 => ?_)
          · have hF := z_neg hc356 hF
            refine lv_iconst (v := 0) hx hb (z_d hL_acts_3 22 rfl) (by decide) ?_
            have hz9 : narrow .boolean (.int 0) = .int 0 := rfl
            obtain rfl := Option.some.inj hF
            subst hQ
            subst hA
            exact z_kretZ (L := [w_SP Z mm u q44.2, w_Arr Z.2.1 2 ag g43, w_Arr Z.2.1 41 ak q32, w_Arr Z.2.1 41 al q34, w_Arr Z.2.1 41 ap q36, w_Arr Z.2.1 41 ab q38, w_Arr Z.2.1 41 am q40]) (Lr := []) hx hb hr hlocks hz9 rfl hP hS (Nat.le_of_ble_eq_true rfl) (Nat.le_of_ble_eq_true rfl) (z_d hL_acts_3 23 rfl)
          · have hF := z_pos hc356 hF
            refine lv_iconst (v := 1) hx hb (z_d hL_acts_3 20 rfl) (by decide) ?_
            refine lv_goto (tgt := 364) hx hb (z_d hL_acts_3 21 rfl) (by decide) ?_
            have hz9 : narrow .boolean (.int 1) = .int 1 := rfl
            obtain rfl := Option.some.inj hF
            subst hQ
            subst hA
            exact z_kretZ (L := [w_SP Z mm u q44.2, w_Arr Z.2.1 2 ag g43, w_Arr Z.2.1 41 ak q32, w_Arr Z.2.1 41 al q34, w_Arr Z.2.1 41 ap q36, w_Arr Z.2.1 41 ab q38, w_Arr Z.2.1 41 am q40]) (Lr := []) hx hb hr hlocks hz9 rfl hP hS (Nat.le_of_ble_eq_true rfl) (Nat.le_of_ble_eq_true rfl) (z_d hL_acts_3 23 rfl)
    · have hF := z_pos hc185 hF
      refine lv_aload_n hx hb (z_d hL_acts_1 44 rfl) rfl (lv_at hl 1 rfl) ?_
      refine lv_bipush (v := 41) hx hb (z_d hL_acts_1 45 rfl) (by decide) ?_
      refine lv_iload hx hb (z_d hL_acts_1 46 rfl) (lv_at hl 11 rfl) ?_
      refine lv_iload hx hb (z_d hL_acts_1 47 rfl) (lv_at hl 12 rfl) ?_
      refine lv_iload hx hb (z_d hL_acts_1 48 rfl) (lv_at hl 0 rfl) ?_
      refine z_bnd hF (fun q45 hq45 hF => ?_)
      refine z_muN (L := [w_SP Z mm u x, w_Arr Z.2.1 2 ag g, w_Arr Z.2.1 41 ak k, w_Arr Z.2.1 41 al ln, w_Arr Z.2.1 41 ap pr, w_Arr Z.2.1 41 ab lb, w_Arr Z.2.1 41 am mk]) (L' := [w_SP Z mm u q45.2, w_Arr Z.2.1 2 ag g, w_Arr Z.2.1 41 ak k, w_Arr Z.2.1 41 al ln, w_Arr Z.2.1 41 ap pr, w_Arr Z.2.1 41 ab lb, w_Arr Z.2.1 41 am mk]) [(0, w_SP Z mm u x, w_SP Z mm u q45.2)] (z_rL (As := [.ref mm, .int 41, .int x13, .int x14, .int z0]) (rest := []) hx hb hml hown hts ht_L_inserts (c_L_inserts l hlt Z sa mm u x 41 x13 x14 z0 _ hq45) rfl rfl ⟨Nat.le_of_ble_eq_true rfl, Nat.le_of_ble_eq_true rfl⟩ k_m_L_44 hK ((hT.kept hS.2.1).narrow (z_zA (zDq [(0, w_SP Z mm u x, w_SP Z mm u q45.2)] hD (List.forall_mem_cons.mpr ⟨⟨rfl, (adr_SP _ _ _ _ _)⟩, (fun _ h => absurd h List.not_mem_nil)⟩) (show List.Nodup [0] by decide)))) hN (zP_c (zP_reg hP 0 rfl) zP_n) (zDq [(0, w_SP Z mm u x, w_SP Z mm u q45.2)] hD (List.forall_mem_cons.mpr ⟨⟨rfl, (adr_SP _ _ _ _ _)⟩, (fun _ h => absurd h List.not_mem_nil)⟩) (show List.Nodup [0] by decide)) rfl hl.1 (Nat.le_of_ble_eq_true rfl) (z_d hL_acts_1 49 rfl) ⟨Nat.le_of_ble_eq_true rfl, Nat.le_of_ble_eq_true rfl⟩) hS hP hD (List.forall_mem_cons.mpr ⟨⟨rfl, (adr_SP _ _ _ _ _)⟩, (fun _ h => absurd h List.not_mem_nil)⟩) (show List.Nodup [0] by decide) rfl rfl rfl (fun H locs hP hD hS => ?_)
      refine W.eq (g2 := F0 m 200 ls [.int q45.1]) rfl ?_
      refine lv_ldc (v := (-100001)) hx hb hown (hts _ k_i_L_48) (z_d hL_acts_1 50 rfl) ?_
      refine lv_icmp_ne (tgt := 209) hx hb (z_d hL_acts_1 51 rfl) (by decide) (fun hc202 => ?_) (fun hc202 => ?_)
      · have hF := z_neg hc202 hF
        refine lv_iconst (v := 0) hx hb (z_d hL_acts_1 54 rfl) (by decide) ?_
        have hz9 : narrow .boolean (.int 0) = .int 0 := rfl
        obtain rfl := Option.some.inj hF
        subst hQ
        subst hA
        exact z_kretZ (L := [w_SP Z mm u q45.2, w_Arr Z.2.1 2 ag g, w_Arr Z.2.1 41 ak k, w_Arr Z.2.1 41 al ln, w_Arr Z.2.1 41 ap pr, w_Arr Z.2.1 41 ab lb, w_Arr Z.2.1 41 am mk]) (Lr := []) hx hb hr hlocks hz9 rfl hP hS (Nat.le_of_ble_eq_true rfl) (Nat.le_of_ble_eq_true rfl) (z_d hL_acts_1 55 rfl)
      · have hF := z_pos hc202 hF
        refine lv_iconst (v := 1) hx hb (z_d hL_acts_1 52 rfl) (by decide) ?_
        refine lv_goto (tgt := 210) hx hb (z_d hL_acts_1 53 rfl) (by decide) ?_
        have hz9 : narrow .boolean (.int 1) = .int 1 := rfl
        obtain rfl := Option.some.inj hF
        subst hQ
        subst hA
        exact z_kretZ (L := [w_SP Z mm u q45.2, w_Arr Z.2.1 2 ag g, w_Arr Z.2.1 41 ak k, w_Arr Z.2.1 41 al ln, w_Arr Z.2.1 41 ap pr, w_Arr Z.2.1 41 ab lb, w_Arr Z.2.1 41 am mk]) (Lr := []) hx hb hr hlocks hz9 rfl hP hS (Nat.le_of_ble_eq_true rfl) (Nat.le_of_ble_eq_true rfl) (z_d hL_acts_1 55 rfl)
  have J163 : ∀  (x : t_SP) (g : Rw) (k : Rw) (ln : Rw) (pr : Rw) (lb : Rw) (mk : Rw) (x8 : Int32) (x9 : Int32) (x12 : Int32) (x13 : Int32) (z0 : Int32) (hF : j_L_acts_163 p7 x g k ln pr lb mk x8 x9 x12 x13 z0 = some R) (H : Heap) (locs : List Loc) (ls : Array Slot) (hP : va_P Z.1 vwCl (List.flatten [w_SP Z mm u x, w_Arr Z.2.1 2 ag g, w_Arr Z.2.1 41 ak k, w_Arr Z.2.1 41 al ln, w_Arr Z.2.1 41 ap pr, w_Arr Z.2.1 41 ab lb, w_Arr Z.2.1 41 am mk]) H) (hD : va_D A (List.flatten [w_SP Z mm u x, w_Arr Z.2.1 2 ag g, w_Arr Z.2.1 41 ak k, w_Arr Z.2.1 41 al ln, w_Arr Z.2.1 41 ap pr, w_Arr Z.2.1 41 ab lb, w_Arr Z.2.1 41 am mk])) (hS : va_S A s.heap H locs) (hl : lv_has ls 21 [(0, .ref mm), (1, .ref ag), (2, .ref ak), (3, .ref al), (4, .ref ap), (5, .ref ab), (6, .ref am), (7, .int p7), (8, .int x8), (9, .int x9), (12, .int x12), (13, .int x13)]), W p l e rm_L_acts s m ([.ref mm, .ref ag, .ref ak, .ref al, .ref ap, .ref ab, .ref am, .int p7] : List Value).toArray below meth c H locs 0 0 Q (F0 m 163 ls [.int z0]) := by
    intro x g k ln pr lb mk x8 x9 x12 x13 z0 hF H locs ls hP hD hS hl
    unfold j_L_acts_163 at hF
    refine lv_istore (lv' := [(14, .int z0), (0, .ref mm), (1, .ref ag), (2, .ref ak), (3, .ref al), (4, .ref ap), (5, .ref ab), (6, .ref am), (7, .int p7), (8, .int x8), (9, .int x9), (12, .int x12), (13, .int x13)]) hx hb (z_d hL_acts_1 31 rfl) hl (by decide) rfl (fun ls hl => ?_)
    refine lv_iload hx hb (z_d hL_acts_1 32 rfl) (lv_at hl 12 rfl) ?_
    refine lv_iconst (v := 2) hx hb (z_d hL_acts_1 33 rfl) (by decide) ?_
    refine lv_icmp_ne (tgt := 178) hx hb (z_d hL_acts_1 34 rfl) (by decide) (fun hc168 => ?_) (fun hc168 => ?_)
    · have hF := z_neg hc168 hF
      refine lv_iconst (v := (-1)) hx hb (z_d hL_acts_1 39 rfl) (by decide) ?_
      exact J179 x g k ln pr lb mk x9 x12 x13 z0 (-1) hF _ _ ls hP hD hS (lv_sub hl [1, 2, 3, 4, 5, 6, 7, 8, 10, 11, 12, 0] rfl)
    · have hF := z_pos hc168 hF
      refine lv_iload hx hb (z_d hL_acts_1 35 rfl) (lv_at hl 9 rfl) ?_
      refine lv_iconst (v := 3) hx hb (z_d hL_acts_1 36 rfl) (by decide) ?_
      refine lv_irem hx hb (z_d hL_acts_1 37 rfl) (by decide) ?_
      refine z_let hF (fun u46 hu46 hF => ?_)
      refine lv_topE hu46 ?_
      refine lv_goto (tgt := 179) hx hb (z_d hL_acts_1 38 rfl) (by decide) ?_
      exact J179 x g k ln pr lb mk x9 x12 x13 z0 u46 hF _ _ ls hP hD hS (lv_sub hl [1, 2, 3, 4, 5, 6, 7, 8, 10, 11, 12, 0] rfl)
  have J130 : ∀  (x : t_SP) (g : Rw) (k : Rw) (ln : Rw) (pr : Rw) (lb : Rw) (mk : Rw) (x8 : Int32) (x9 : Int32) (x12 : Int32) (z0 : Int32) (hF : j_L_acts_130 p7 x g k ln pr lb mk x8 x9 x12 z0 = some R) (H : Heap) (locs : List Loc) (ls : Array Slot) (hP : va_P Z.1 vwCl (List.flatten [w_SP Z mm u x, w_Arr Z.2.1 2 ag g, w_Arr Z.2.1 41 ak k, w_Arr Z.2.1 41 al ln, w_Arr Z.2.1 41 ap pr, w_Arr Z.2.1 41 ab lb, w_Arr Z.2.1 41 am mk]) H) (hD : va_D A (List.flatten [w_SP Z mm u x, w_Arr Z.2.1 2 ag g, w_Arr Z.2.1 41 ak k, w_Arr Z.2.1 41 al ln, w_Arr Z.2.1 41 ap pr, w_Arr Z.2.1 41 ab lb, w_Arr Z.2.1 41 am mk])) (hS : va_S A s.heap H locs) (hl : lv_has ls 21 [(0, .ref mm), (1, .ref ag), (2, .ref ak), (3, .ref al), (4, .ref ap), (5, .ref ab), (6, .ref am), (7, .int p7), (8, .int x8), (9, .int x9), (12, .int x12)]), W p l e rm_L_acts s m ([.ref mm, .ref ag, .ref ak, .ref al, .ref ap, .ref ab, .ref am, .int p7] : List Value).toArray below meth c H locs 0 0 Q (F0 m 130 ls [.int z0]) := by
    intro x g k ln pr lb mk x8 x9 x12 z0 hF H locs ls hP hD hS hl
    unfold j_L_acts_130 at hF
    refine lv_istore (lv' := [(13, .int z0), (0, .ref mm), (1, .ref ag), (2, .ref ak), (3, .ref al), (4, .ref ap), (5, .ref ab), (6, .ref am), (7, .int p7), (8, .int x8), (9, .int x9), (12, .int x12)]) hx hb (z_d hL_acts_1 11 rfl) hl (by decide) rfl (fun ls hl => ?_)
    refine lv_iload hx hb (z_d hL_acts_1 12 rfl) (lv_at hl 9 rfl) ?_
    refine lv_iconst (v := 5) hx hb (z_d hL_acts_1 13 rfl) (by decide) ?_
    refine lv_irem hx hb (z_d hL_acts_1 14 rfl) (by decide) ?_
    refine z_let hF (fun u16 hu16 hF => ?_)
    refine lv_topE hu16 ?_
    refine lv_if_ne (tgt := 153) hx hb (z_d hL_acts_1 15 rfl) (by decide) (fun hc136 => ?_) (fun hc136 => ?_)
    · have hF := z_neg hc136 hF
      refine lv_iconst (v := 1) hx hb (z_d hL_acts_1 24 rfl) (by decide) ?_
      refine lv_iload hx hb (z_d hL_acts_1 25 rfl) (lv_at hl 9 rfl) ?_
      refine lv_bipush (v := 7) hx hb (z_d hL_acts_1 26 rfl) (by decide) ?_
      refine lv_idiv hx hb (z_d hL_acts_1 27 rfl) (by decide) ?_
      refine z_let hF (fun u17 hu17 hF => ?_)
      refine lv_topE hu17 ?_
      refine lv_bipush (v := 90) hx hb (z_d hL_acts_1 28 rfl) (by decide) ?_
      refine lv_irem hx hb (z_d hL_acts_1 29 rfl) (by decide) ?_
      refine z_let hF (fun u18 hu18 hF => ?_)
      refine lv_topE hu18 ?_
      refine lv_iadd hx hb (z_d hL_acts_1 30 rfl) ?_
      refine z_let hF (fun u19 hu19 hF => ?_)
      refine lv_topE hu19 ?_
      exact J163 x g k ln pr lb mk x8 x9 x12 z0 u19 hF _ _ ls hP hD hS (lv_sub hl [1, 2, 3, 4, 5, 6, 7, 8, 9, 10, 11, 0] rfl)
    · have hF := z_pos hc136 hF
      refine lv_iconst (v := 1) hx hb (z_d hL_acts_1 16 rfl) (by decide) ?_
      refine lv_iload hx hb (z_d hL_acts_1 17 rfl) (lv_at hl 9 rfl) ?_
      refine lv_bipush (v := 7) hx hb (z_d hL_acts_1 18 rfl) (by decide) ?_
      refine lv_idiv hx hb (z_d hL_acts_1 19 rfl) (by decide) ?_
      refine z_let hF (fun u47 hu47 hF => ?_)
      refine lv_topE hu47 ?_
      refine lv_sipush (v := 400) hx hb (z_d hL_acts_1 20 rfl) (by decide) ?_
      refine lv_irem hx hb (z_d hL_acts_1 21 rfl) (by decide) ?_
      refine z_let hF (fun u48 hu48 hF => ?_)
      refine lv_topE hu48 ?_
      refine lv_iadd hx hb (z_d hL_acts_1 22 rfl) ?_
      refine z_let hF (fun u49 hu49 hF => ?_)
      refine lv_topE hu49 ?_
      refine lv_goto (tgt := 163) hx hb (z_d hL_acts_1 23 rfl) (by decide) ?_
      exact J163 x g k ln pr lb mk x8 x9 x12 z0 u49 hF _ _ ls hP hD hS (lv_sub hl [1, 2, 3, 4, 5, 6, 7, 8, 9, 10, 11, 0] rfl)
  have J54 : ∀  (x : t_SP) (g : Rw) (k : Rw) (ln : Rw) (pr : Rw) (lb : Rw) (mk : Rw) (x8 : Int32) (x9 : Int32) (hF : j_L_acts_54 p7 x g k ln pr lb mk x8 x9 = some R) (H : Heap) (locs : List Loc) (ls : Array Slot) (hP : va_P Z.1 vwCl (List.flatten [w_SP Z mm u x, w_Arr Z.2.1 2 ag g, w_Arr Z.2.1 41 ak k, w_Arr Z.2.1 41 al ln, w_Arr Z.2.1 41 ap pr, w_Arr Z.2.1 41 ab lb, w_Arr Z.2.1 41 am mk]) H) (hD : va_D A (List.flatten [w_SP Z mm u x, w_Arr Z.2.1 2 ag g, w_Arr Z.2.1 41 ak k, w_Arr Z.2.1 41 al ln, w_Arr Z.2.1 41 ap pr, w_Arr Z.2.1 41 ab lb, w_Arr Z.2.1 41 am mk])) (hS : va_S A s.heap H locs) (hl : lv_has ls 21 [(0, .ref mm), (1, .ref ag), (2, .ref ak), (3, .ref al), (4, .ref ap), (5, .ref ab), (6, .ref am), (7, .int p7), (8, .int x8), (9, .int x9)]), W p l e rm_L_acts s m ([.ref mm, .ref ag, .ref ak, .ref al, .ref ap, .ref ab, .ref am, .int p7] : List Value).toArray below meth c H locs 0 0 Q (F0 m 54 ls []) := by
    intro x g k ln pr lb mk x8 x9 hF H locs ls hP hD hS hl
    unfold j_L_acts_54 at hF
    refine lv_iload hx hb (z_d hL_acts_0 28 rfl) (lv_at hl 8 rfl) ?_
    refine lv_iload hx hb (z_d hL_acts_0 29 rfl) (lv_at hl 9 rfl) ?_
    refine lv_iconst (v := 1) hx hb (z_d hL_acts_0 30 rfl) (by decide) ?_
    refine lv_iadd hx hb (z_d hL_acts_0 31 rfl) ?_
    refine z_let hF (fun u6 hu6 hF => ?_)
    refine lv_topE hu6 ?_
    refine z_dv hF (fun hne hF => ?_)
    refine lv_irem hx hb (z_d hL_acts_0 32 rfl) hne ?_
    refine z_let hF (fun u7 hu7 hF => ?_)
    refine lv_topE hu7 ?_
    refine lv_istore (lv' := [(12, .int u7), (0, .ref mm), (1, .ref ag), (2, .ref ak), (3, .ref al), (4, .ref ap), (5, .ref ab), (6, .ref am), (7, .int p7), (8, .int x8), (9, .int x9)]) hx hb (z_d hL_acts_0 33 rfl) hl (by decide) rfl (fun ls hl => ?_)
    refine lv_iload hx hb (z_d hL_acts_0 34 rfl) (lv_at hl 9 rfl) ?_
    refine lv_bipush (v := 41) hx hb (z_d hL_acts_0 35 rfl) (by decide) ?_
    refine lv_idiv hx hb (z_d hL_acts_0 36 rfl) (by decide) ?_
    refine z_let hF (fun u8 hu8 hF => ?_)
    refine lv_topE hu8 ?_
    refine lv_bipush (v := 12) hx hb (z_d hL_acts_0 37 rfl) (by decide) ?_
    refine lv_irem hx hb (z_d hL_acts_0 38 rfl) (by decide) ?_
    refine z_let hF (fun u9 hu9 hF => ?_)
    refine lv_topE hu9 ?_
    refine lv_iconst (v := 2) hx hb (z_d hL_acts_0 39 rfl) (by decide) ?_
    refine lv_icmp_ge (tgt := 79) hx hb (z_d hL_acts_0 40 rfl) (by decide) (fun hc72 => ?_) (fun hc72 => ?_)
    · have hF := z_pos hc72 hF
      refine lv_iload hx hb (z_d hL_acts_0 43 rfl) (lv_at hl 9 rfl) ?_
      refine lv_bipush (v := 41) hx hb (z_d hL_acts_0 44 rfl) (by decide) ?_
      refine lv_idiv hx hb (z_d hL_acts_0 45 rfl) (by decide) ?_
      refine z_let hF (fun u10 hu10 hF => ?_)
      refine lv_topE hu10 ?_
      refine lv_bipush (v := 12) hx hb (z_d hL_acts_0 46 rfl) (by decide) ?_
      refine lv_irem hx hb (z_d hL_acts_0 47 rfl) (by decide) ?_
      refine z_let hF (fun u11 hu11 hF => ?_)
      refine lv_topE hu11 ?_
      refine lv_iconst (v := 5) hx hb (z_d hL_acts_0 48 rfl) (by decide) ?_
      refine lv_icmp_ge (tgt := 95) hx hb (z_d hL_acts_0 49 rfl) (by decide) (fun hc88 => ?_) (fun hc88 => ?_)
      · have hF := z_pos hc88 hF
        refine lv_iload hx hb (z_d hL_acts_0 52 rfl) (lv_at hl 9 rfl) ?_
        refine lv_bipush (v := 41) hx hb (z_d hL_acts_0 53 rfl) (by decide) ?_
        refine lv_idiv hx hb (z_d hL_acts_0 54 rfl) (by decide) ?_
        refine z_let hF (fun u12 hu12 hF => ?_)
        refine lv_topE hu12 ?_
        refine lv_bipush (v := 12) hx hb (z_d hL_acts_0 55 rfl) (by decide) ?_
        refine lv_irem hx hb (z_d hL_acts_0 56 rfl) (by decide) ?_
        refine z_let hF (fun u13 hu13 hF => ?_)
        refine lv_topE hu13 ?_
        refine lv_bipush (v := 8) hx hb (z_d hL_acts_0 57 rfl) (by decide) ?_
        refine lv_icmp_ge (tgt := 112) hx hb (z_d hL_acts_0 58 rfl) (by decide) (fun hc105 => ?_) (fun hc105 => ?_)
        · have hF := z_pos hc105 hF
          refine lv_iload hx hb (z_d hL_acts_1 1 rfl) (lv_at hl 9 rfl) ?_
          refine lv_bipush (v := 41) hx hb (z_d hL_acts_1 2 rfl) (by decide) ?_
          refine lv_idiv hx hb (z_d hL_acts_1 3 rfl) (by decide) ?_
          refine z_let hF (fun u14 hu14 hF => ?_)
          refine lv_topE hu14 ?_
          refine lv_bipush (v := 12) hx hb (z_d hL_acts_1 4 rfl) (by decide) ?_
          refine lv_irem hx hb (z_d hL_acts_1 5 rfl) (by decide) ?_
          refine z_let hF (fun u15 hu15 hF => ?_)
          refine lv_topE hu15 ?_
          refine lv_bipush (v := 10) hx hb (z_d hL_acts_1 6 rfl) (by decide) ?_
          refine lv_icmp_ge (tgt := 129) hx hb (z_d hL_acts_1 7 rfl) (by decide) (fun hc122 => ?_) (fun hc122 => ?_)
          · have hF := z_pos hc122 hF
            refine lv_iconst (v := 4) hx hb (z_d hL_acts_1 10 rfl) (by decide) ?_
            exact J130 x g k ln pr lb mk x8 x9 u7 4 hF _ _ ls hP hD hS (lv_sub hl [1, 2, 3, 4, 5, 6, 7, 8, 9, 10, 0] rfl)
          · have hF := z_neg hc122 hF
            refine lv_iconst (v := 3) hx hb (z_d hL_acts_1 8 rfl) (by decide) ?_
            refine lv_goto (tgt := 130) hx hb (z_d hL_acts_1 9 rfl) (by decide) ?_
            exact J130 x g k ln pr lb mk x8 x9 u7 3 hF _ _ ls hP hD hS (lv_sub hl [1, 2, 3, 4, 5, 6, 7, 8, 9, 10, 0] rfl)
        · have hF := z_neg hc105 hF
          refine lv_iconst (v := 2) hx hb (z_d hL_acts_0 59 rfl) (by decide) ?_
          refine lv_goto (tgt := 130) hx hb (z_d hL_acts_1 0 rfl) (by decide) ?_
          exact J130 x g k ln pr lb mk x8 x9 u7 2 hF _ _ ls hP hD hS (lv_sub hl [1, 2, 3, 4, 5, 6, 7, 8, 9, 10, 0] rfl)
      · have hF := z_neg hc88 hF
        refine lv_iconst (v := 1) hx hb (z_d hL_acts_0 50 rfl) (by decide) ?_
        refine lv_goto (tgt := 130) hx hb (z_d hL_acts_0 51 rfl) (by decide) ?_
        exact J130 x g k ln pr lb mk x8 x9 u7 1 hF _ _ ls hP hD hS (lv_sub hl [1, 2, 3, 4, 5, 6, 7, 8, 9, 10, 0] rfl)
    · have hF := z_neg hc72 hF
      refine lv_iconst (v := 0) hx hb (z_d hL_acts_0 41 rfl) (by decide) ?_
      refine lv_goto (tgt := 130) hx hb (z_d hL_acts_0 42 rfl) (by decide) ?_
      exact J130 x g k ln pr lb mk x8 x9 u7 0 hF _ _ ls hP hD hS (lv_sub hl [1, 2, 3, 4, 5, 6, 7, 8, 9, 10, 0] rfl)
  have J470 : ∀  (x : t_SP) (g : Rw) (k : Rw) (ln : Rw) (pr : Rw) (lb : Rw) (mk : Rw) (x10 : Int32) (hF : j_L_acts_470 p7 x g k ln pr lb mk x10 = some R) (H : Heap) (locs : List Loc) (ls : Array Slot) (hP : va_P Z.1 vwCl (List.flatten [w_SP Z mm u x, w_Arr Z.2.1 2 ag g, w_Arr Z.2.1 41 ak k, w_Arr Z.2.1 41 al ln, w_Arr Z.2.1 41 ap pr, w_Arr Z.2.1 41 ab lb, w_Arr Z.2.1 41 am mk]) H) (hD : va_D A (List.flatten [w_SP Z mm u x, w_Arr Z.2.1 2 ag g, w_Arr Z.2.1 41 ak k, w_Arr Z.2.1 41 al ln, w_Arr Z.2.1 41 ap pr, w_Arr Z.2.1 41 ab lb, w_Arr Z.2.1 41 am mk])) (hS : va_S A s.heap H locs) (hl : lv_has ls 21 [(0, .ref mm), (1, .ref ag), (2, .ref ak), (3, .ref al), (4, .ref ap), (5, .ref ab), (6, .ref am), (7, .int p7), (10, .int x10)]), W p l e rm_L_acts s m ([.ref mm, .ref ag, .ref ak, .ref al, .ref ap, .ref ab, .ref am, .int p7] : List Value).toArray below meth c H locs 0 0 Q (F0 m 470 ls []) := by
    intro x g k ln pr lb mk x10 hF H locs ls hP hD hS hl
    unfold j_L_acts_470 at hF
    refine lv_aload_n hx hb (z_d hL_acts_3 57 rfl) rfl (lv_at hl 1 rfl) ?_
    refine lv_aload_n hx hb (z_d hL_acts_3 58 rfl) rfl (lv_at hl 2 rfl) ?_
    refine lv_aload_n hx hb (z_d hL_acts_3 59 rfl) rfl (lv_at hl 3 rfl) ?_
    refine lv_aload hx hb (z_d hL_acts_4 0 rfl) (lv_at hl 4 rfl) ?_
    refine lv_aload hx hb (z_d hL_acts_4 1 rfl) (lv_at hl 5 rfl) ?_
    refine lv_aload hx hb (z_d hL_acts_4 2 rfl) (lv_at hl 6 rfl) ?_
    refine lv_iload hx hb (z_d hL_acts_4 3 rfl) (lv_at hl 8 rfl) ?_
    refine z_bnd hF (fun q51 hq51 hF => ?_)
    refine z_muN (L := [w_SP Z mm u x, w_Arr Z.2.1 2 ag g, w_Arr Z.2.1 41 ak k, w_Arr Z.2.1 41 al ln, w_Arr Z.2.1 41 ap pr, w_Arr Z.2.1 41 ab lb, w_Arr Z.2.1 41 am mk]) (L' := [w_SP Z mm u x, w_Arr Z.2.1 2 ag q51.1, w_Arr Z.2.1 41 ak q51.2.1, w_Arr Z.2.1 41 al q51.2.2.1, w_Arr Z.2.1 41 ap q51.2.2.2.1, w_Arr Z.2.1 41 ab q51.2.2.2.2.1, w_Arr Z.2.1 41 am q51.2.2.2.2.2]) [(1, w_Arr Z.2.1 2 ag g, w_Arr Z.2.1 2 ag q51.1), (2, w_Arr Z.2.1 41 ak k, w_Arr Z.2.1 41 ak q51.2.1), (3, w_Arr Z.2.1 41 al ln, w_Arr Z.2.1 41 al q51.2.2.1), (4, w_Arr Z.2.1 41 ap pr, w_Arr Z.2.1 41 ap q51.2.2.2.1), (5, w_Arr Z.2.1 41 ab lb, w_Arr Z.2.1 41 ab q51.2.2.2.2.1), (6, w_Arr Z.2.1 41 am mk, w_Arr Z.2.1 41 am q51.2.2.2.2.2)] (z_rS (As := [.ref ag, .ref ak, .ref al, .ref ap, .ref ab, .ref am, .int x10]) (rest := []) hx hb hml hown hts vs_L_drop (c_L_drop l Z ag ak al ap ab am g k ln pr lb mk x10 _ hq51) rfl rfl ⟨Nat.le_of_ble_eq_true rfl, Nat.le_of_ble_eq_true rfl⟩ k_m_L_62 zPmu_blind (z_prem hK (zP_c (zP_reg hP 1 rfl) (zP_c (zP_reg hP 2 rfl) (zP_c (zP_reg hP 3 rfl) (zP_c (zP_reg hP 4 rfl) (zP_c (zP_reg hP 5 rfl) (zP_c (zP_reg hP 6 rfl) zP_n)))))) (zDq [(1, w_Arr Z.2.1 2 ag g, w_Arr Z.2.1 2 ag q51.1), (2, w_Arr Z.2.1 41 ak k, w_Arr Z.2.1 41 ak q51.2.1), (3, w_Arr Z.2.1 41 al ln, w_Arr Z.2.1 41 al q51.2.2.1), (4, w_Arr Z.2.1 41 ap pr, w_Arr Z.2.1 41 ap q51.2.2.2.1), (5, w_Arr Z.2.1 41 ab lb, w_Arr Z.2.1 41 ab q51.2.2.2.2.1), (6, w_Arr Z.2.1 41 am mk, w_Arr Z.2.1 41 am q51.2.2.2.2.2)] hD (List.forall_mem_cons.mpr ⟨⟨rfl, rfl⟩, (List.forall_mem_cons.mpr ⟨⟨rfl, rfl⟩, (List.forall_mem_cons.mpr ⟨⟨rfl, rfl⟩, (List.forall_mem_cons.mpr ⟨⟨rfl, rfl⟩, (List.forall_mem_cons.mpr ⟨⟨rfl, rfl⟩, (List.forall_mem_cons.mpr ⟨⟨rfl, rfl⟩, (fun _ h => absurd h List.not_mem_nil)⟩)⟩)⟩)⟩)⟩)⟩) (show List.Nodup [1, 2, 3, 4, 5, 6] by decide))) rfl hl.1 (Nat.le_of_ble_eq_true rfl) (z_d hL_acts_4 4 rfl) ⟨Nat.le_of_ble_eq_true rfl, Nat.le_of_ble_eq_true rfl⟩) hS hP hD (List.forall_mem_cons.mpr ⟨⟨rfl, rfl⟩, (List.forall_mem_cons.mpr ⟨⟨rfl, rfl⟩, (List.forall_mem_cons.mpr ⟨⟨rfl, rfl⟩, (List.forall_mem_cons.mpr ⟨⟨rfl, rfl⟩, (List.forall_mem_cons.mpr ⟨⟨rfl, rfl⟩, (List.forall_mem_cons.mpr ⟨⟨rfl, rfl⟩, (fun _ h => absurd h List.not_mem_nil)⟩)⟩)⟩)⟩)⟩)⟩) (show List.Nodup [1, 2, 3, 4, 5, 6] by decide) rfl rfl rfl (fun H locs hP hD hS => ?_)
    refine W.eq (g2 := F0 m 484 ls []) rfl ?_
    refine lv_aload_n hx hb (z_d hL_acts_4 5 rfl) rfl (lv_at hl 0 rfl) ?_
    refine lv_iload hx hb (z_d hL_acts_4 6 rfl) (lv_at hl 8 rfl) ?_
    refine z_bnd hF (fun q52 hq52 hF => ?_)
    refine z_muN (L := [w_SP Z mm u x, w_Arr Z.2.1 2 ag q51.1, w_Arr Z.2.1 41 ak q51.2.1, w_Arr Z.2.1 41 al q51.2.2.1, w_Arr Z.2.1 41 ap q51.2.2.2.1, w_Arr Z.2.1 41 ab q51.2.2.2.2.1, w_Arr Z.2.1 41 am q51.2.2.2.2.2]) (L' := [w_SP Z mm u q52.2, w_Arr Z.2.1 2 ag q51.1, w_Arr Z.2.1 41 ak q51.2.1, w_Arr Z.2.1 41 al q51.2.2.1, w_Arr Z.2.1 41 ap q51.2.2.2.1, w_Arr Z.2.1 41 ab q51.2.2.2.2.1, w_Arr Z.2.1 41 am q51.2.2.2.2.2]) [(0, w_SP Z mm u x, w_SP Z mm u q52.2)] (z_rL (As := [.ref mm, .int x10]) (rest := []) hx hb hml hown hts ht_L_drops (c_L_drops l hlt Z sa mm u x x10 _ hq52) rfl rfl ⟨Nat.le_of_ble_eq_true rfl, Nat.le_of_ble_eq_true rfl⟩ k_m_L_58 hK ((hT.kept hS.2.1).narrow (z_zA (zDq [(0, w_SP Z mm u x, w_SP Z mm u q52.2)] hD (List.forall_mem_cons.mpr ⟨⟨rfl, (adr_SP _ _ _ _ _)⟩, (fun _ h => absurd h List.not_mem_nil)⟩) (show List.Nodup [0] by decide)))) hN (zP_c (zP_reg hP 0 rfl) zP_n) (zDq [(0, w_SP Z mm u x, w_SP Z mm u q52.2)] hD (List.forall_mem_cons.mpr ⟨⟨rfl, (adr_SP _ _ _ _ _)⟩, (fun _ h => absurd h List.not_mem_nil)⟩) (show List.Nodup [0] by decide)) rfl hl.1 (Nat.le_of_ble_eq_true rfl) (z_d hL_acts_4 7 rfl) ⟨Nat.le_of_ble_eq_true rfl, Nat.le_of_ble_eq_true rfl⟩) hS hP hD (List.forall_mem_cons.mpr ⟨⟨rfl, (adr_SP _ _ _ _ _)⟩, (fun _ h => absurd h List.not_mem_nil)⟩) (show List.Nodup [0] by decide) rfl rfl rfl (fun H locs hP hD hS => ?_)
    refine W.eq (g2 := F0 m 490 ls [.int q52.1]) rfl ?_
    refine lv_aload_n hx hb (z_d hL_acts_4 8 rfl) rfl (lv_at hl 1 rfl) ?_
    refine lv_iconst (v := 0) hx hb (z_d hL_acts_4 9 rfl) (by decide) ?_
    refine z_ix hF (fun hin hF => ?_)
    refine va_iald (D := Z.1) (f := q51.1) hx hb hK.1 (zP_reg hP 1 rfl) 0 0 rfl rfl hin (z_d hL_acts_4 10 rfl) ?_
    refine z_let hF (fun u53 hu53 hF => ?_)
    refine lv_topE hu53 ?_
    refine lv_icmp_ne (tgt := 500) hx hb (z_d hL_acts_4 11 rfl) (by decide) (fun hc493 => ?_) (fun hc493 => ?_)
    · have hF := z_neg hc493 hF
      refine lv_iconst (v := 0) hx hb (z_d hL_acts_4 14 rfl) (by decide) ?_
      have hz9 : narrow .boolean (.int 0) = .int 0 := rfl
      obtain rfl := Option.some.inj hF
      subst hQ
      subst hA
      exact z_kretZ (L := [w_SP Z mm u q52.2, w_Arr Z.2.1 2 ag q51.1, w_Arr Z.2.1 41 ak q51.2.1, w_Arr Z.2.1 41 al q51.2.2.1, w_Arr Z.2.1 41 ap q51.2.2.2.1, w_Arr Z.2.1 41 ab q51.2.2.2.2.1, w_Arr Z.2.1 41 am q51.2.2.2.2.2]) (Lr := []) hx hb hr hlocks hz9 rfl hP hS (Nat.le_of_ble_eq_true rfl) (Nat.le_of_ble_eq_true rfl) (z_d hL_acts_4 15 rfl)
    · have hF := z_pos hc493 hF
      refine lv_iconst (v := 1) hx hb (z_d hL_acts_4 12 rfl) (by decide) ?_
      refine lv_goto (tgt := 501) hx hb (z_d hL_acts_4 13 rfl) (by decide) ?_
      have hz9 : narrow .boolean (.int 1) = .int 1 := rfl
      obtain rfl := Option.some.inj hF
      subst hQ
      subst hA
      exact z_kretZ (L := [w_SP Z mm u q52.2, w_Arr Z.2.1 2 ag q51.1, w_Arr Z.2.1 41 ak q51.2.1, w_Arr Z.2.1 41 al q51.2.2.1, w_Arr Z.2.1 41 ap q51.2.2.2.1, w_Arr Z.2.1 41 ab q51.2.2.2.2.1, w_Arr Z.2.1 41 am q51.2.2.2.2.2]) (Lr := []) hx hb hr hlocks hz9 rfl hP hS (Nat.le_of_ble_eq_true rfl) (Nat.le_of_ble_eq_true rfl) (z_d hL_acts_4 15 rfl)
  have J537 : ∀  (x : t_SP) (g : Rw) (k : Rw) (ln : Rw) (pr : Rw) (lb : Rw) (mk : Rw) (x10 : Int32) (z0 : Int32) (z1 : Int32) (hF : j_L_acts_537 p7 x g k ln pr lb mk x10 z0 z1 = some R) (H : Heap) (locs : List Loc) (ls : Array Slot) (hP : va_P Z.1 vwCl (List.flatten [w_SP Z mm u x, w_Arr Z.2.1 2 ag g, w_Arr Z.2.1 41 ak k, w_Arr Z.2.1 41 al ln, w_Arr Z.2.1 41 ap pr, w_Arr Z.2.1 41 ab lb, w_Arr Z.2.1 41 am mk]) H) (hD : va_D A (List.flatten [w_SP Z mm u x, w_Arr Z.2.1 2 ag g, w_Arr Z.2.1 41 ak k, w_Arr Z.2.1 41 al ln, w_Arr Z.2.1 41 ap pr, w_Arr Z.2.1 41 ab lb, w_Arr Z.2.1 41 am mk])) (hS : va_S A s.heap H locs) (hl : lv_has ls 21 [(0, .ref mm), (1, .ref ag), (2, .ref ak), (3, .ref al), (4, .ref ap), (5, .ref ab), (6, .ref am), (7, .int p7), (10, .int x10)]), W p l e rm_L_acts s m ([.ref mm, .ref ag, .ref ak, .ref al, .ref ap, .ref ab, .ref am, .int p7] : List Value).toArray below meth c H locs 0 0 Q (F0 m 537 ls [.int z0, .int z1, .ref al]) := by
    intro x g k ln pr lb mk x10 z0 z1 hF H locs ls hP hD hS hl
    unfold j_L_acts_537 at hF
    refine z_ix hF (fun hin hF => ?_)
    refine z_let hF (fun g63 hg63 hF => ?_)
    refine z_iast (Z := Z) (L := [w_SP Z mm u x, w_Arr Z.2.1 2 ag g, w_Arr Z.2.1 41 ak k, w_Arr Z.2.1 41 al ln, w_Arr Z.2.1 41 ap pr, w_Arr Z.2.1 41 ab lb, w_Arr Z.2.1 41 am mk]) (L' := [w_SP Z mm u x, w_Arr Z.2.1 2 ag g, w_Arr Z.2.1 41 ak k, w_Arr Z.2.1 41 al g63, w_Arr Z.2.1 41 ap pr, w_Arr Z.2.1 41 ab lb, w_Arr Z.2.1 41 am mk]) (f := ln) hx hb hK hP hD hS 3 rfl hin hg63 rfl (z_d hL_acts_4 37 rfl) (fun H locs hP hD hS => ?_)
    refine lv_aload_n hx hb (z_d hL_acts_4 38 rfl) rfl (lv_at hl 0 rfl) ?_
    refine lv_iload hx hb (z_d hL_acts_4 39 rfl) (lv_at hl 8 rfl) ?_
    refine lv_aload_n hx hb (z_d hL_acts_4 40 rfl) rfl (lv_at hl 3 rfl) ?_
    refine lv_iload hx hb (z_d hL_acts_4 41 rfl) (lv_at hl 8 rfl) ?_
    refine z_ix hF (fun hin hF => ?_)
    refine va_iald (D := Z.1) (f := g63) hx hb hK.1 (zP_reg hP 3 rfl) 0 0 rfl rfl hin (z_d hL_acts_4 42 rfl) ?_
    refine z_let hF (fun u64 hu64 hF => ?_)
    refine lv_topE hu64 ?_
    refine z_bnd hF (fun q65 hq65 hF => ?_)
    refine z_muN (L := [w_SP Z mm u x, w_Arr Z.2.1 2 ag g, w_Arr Z.2.1 41 ak k, w_Arr Z.2.1 41 al g63, w_Arr Z.2.1 41 ap pr, w_Arr Z.2.1 41 ab lb, w_Arr Z.2.1 41 am mk]) (L' := [w_SP Z mm u q65.2, w_Arr Z.2.1 2 ag g, w_Arr Z.2.1 41 ak k, w_Arr Z.2.1 41 al g63, w_Arr Z.2.1 41 ap pr, w_Arr Z.2.1 41 ab lb, w_Arr Z.2.1 41 am mk]) [(0, w_SP Z mm u x, w_SP Z mm u q65.2)] (z_rL (As := [.ref mm, .int x10, .int u64]) (rest := []) hx hb hml hown hts ht_L_lengths (c_L_lengths l hlt Z sa mm u x x10 u64 _ hq65) rfl rfl ⟨Nat.le_of_ble_eq_true rfl, Nat.le_of_ble_eq_true rfl⟩ k_m_L_66 hK ((hT.kept hS.2.1).narrow (z_zA (zDq [(0, w_SP Z mm u x, w_SP Z mm u q65.2)] hD (List.forall_mem_cons.mpr ⟨⟨rfl, (adr_SP _ _ _ _ _)⟩, (fun _ h => absurd h List.not_mem_nil)⟩) (show List.Nodup [0] by decide)))) hN (zP_c (zP_reg hP 0 rfl) zP_n) (zDq [(0, w_SP Z mm u x, w_SP Z mm u q65.2)] hD (List.forall_mem_cons.mpr ⟨⟨rfl, (adr_SP _ _ _ _ _)⟩, (fun _ h => absurd h List.not_mem_nil)⟩) (show List.Nodup [0] by decide)) rfl hl.1 (Nat.le_of_ble_eq_true rfl) (z_d hL_acts_4 43 rfl) ⟨Nat.le_of_ble_eq_true rfl, Nat.le_of_ble_eq_true rfl⟩) hS hP hD (List.forall_mem_cons.mpr ⟨⟨rfl, (adr_SP _ _ _ _ _)⟩, (fun _ h => absurd h List.not_mem_nil)⟩) (show List.Nodup [0] by decide) rfl rfl rfl (fun H locs hP hD hS => ?_)
    refine W.eq (g2 := F0 m 548 ls [.int q65.1]) rfl ?_
    refine lv_aload_n hx hb (z_d hL_acts_4 44 rfl) rfl (lv_at hl 2 rfl) ?_
    refine lv_aload_n hx hb (z_d hL_acts_4 45 rfl) rfl (lv_at hl 3 rfl) ?_
    refine lv_iload hx hb (z_d hL_acts_4 46 rfl) (lv_at hl 8 rfl) ?_
    refine z_bnd hF (fun q66 hq66 hF => ?_)
    refine z_ro_i (z_rS (As := [.ref ak, .ref al, .int x10]) (rest := [.int q65.1]) hx hb hml hown hts vs_L_lines (c_L_lines l Z ak al k g63 x10 _ hq66) rfl rfl ⟨Nat.le_of_ble_eq_true rfl, Nat.le_of_ble_eq_true rfl⟩ k_m_L_23 zPro_blind (z_prec hK (zP_c (zP_reg hP 2 rfl) (zP_c (zP_reg hP 3 rfl) zP_n))) rfl hl.1 (Nat.le_of_ble_eq_true rfl) (z_d hL_acts_4 47 rfl) ⟨Nat.le_of_ble_eq_true rfl, Nat.le_of_ble_eq_true rfl⟩) hS hP (fun H locs hP hS => ?_)
    refine lv_icmp_ne (tgt := 562) hx hb (z_d hL_acts_4 48 rfl) (by decide) (fun hc555 => ?_) (fun hc555 => ?_)
    · have hF := z_neg hc555 hF
      refine lv_iconst (v := 0) hx hb (z_d hL_acts_4 51 rfl) (by decide) ?_
      have hz9 : narrow .boolean (.int 0) = .int 0 := rfl
      obtain rfl := Option.some.inj hF
      subst hQ
      subst hA
      exact z_kretZ (L := [w_SP Z mm u q65.2, w_Arr Z.2.1 2 ag g, w_Arr Z.2.1 41 ak k, w_Arr Z.2.1 41 al g63, w_Arr Z.2.1 41 ap pr, w_Arr Z.2.1 41 ab lb, w_Arr Z.2.1 41 am mk]) (Lr := []) hx hb hr hlocks hz9 rfl hP hS (Nat.le_of_ble_eq_true rfl) (Nat.le_of_ble_eq_true rfl) (z_d hL_acts_4 52 rfl)
    · have hF := z_pos hc555 hF
      refine lv_iconst (v := 1) hx hb (z_d hL_acts_4 49 rfl) (by decide) ?_
      refine lv_goto (tgt := 563) hx hb (z_d hL_acts_4 50 rfl) (by decide) ?_
      have hz9 : narrow .boolean (.int 1) = .int 1 := rfl
      obtain rfl := Option.some.inj hF
      subst hQ
      subst hA
      exact z_kretZ (L := [w_SP Z mm u q65.2, w_Arr Z.2.1 2 ag g, w_Arr Z.2.1 41 ak k, w_Arr Z.2.1 41 al g63, w_Arr Z.2.1 41 ap pr, w_Arr Z.2.1 41 ab lb, w_Arr Z.2.1 41 am mk]) (Lr := []) hx hb hr hlocks hz9 rfl hP hS (Nat.le_of_ble_eq_true rfl) (Nat.le_of_ble_eq_true rfl) (z_d hL_acts_4 52 rfl)
  have J593 : ∀  (x : t_SP) (g : Rw) (k : Rw) (ln : Rw) (pr : Rw) (lb : Rw) (mk : Rw) (x12 : Int32) (z0 : Int32) (z1 : Int32) (hF : j_L_acts_593 p7 x g k ln pr lb mk x12 z0 z1 = some R) (H : Heap) (locs : List Loc) (ls : Array Slot) (hP : va_P Z.1 vwCl (List.flatten [w_SP Z mm u x, w_Arr Z.2.1 2 ag g, w_Arr Z.2.1 41 ak k, w_Arr Z.2.1 41 al ln, w_Arr Z.2.1 41 ap pr, w_Arr Z.2.1 41 ab lb, w_Arr Z.2.1 41 am mk]) H) (hD : va_D A (List.flatten [w_SP Z mm u x, w_Arr Z.2.1 2 ag g, w_Arr Z.2.1 41 ak k, w_Arr Z.2.1 41 al ln, w_Arr Z.2.1 41 ap pr, w_Arr Z.2.1 41 ab lb, w_Arr Z.2.1 41 am mk])) (hS : va_S A s.heap H locs) (hl : lv_has ls 21 [(0, .ref mm), (1, .ref ag), (2, .ref ak), (3, .ref al), (4, .ref ap), (5, .ref ab), (6, .ref am), (7, .int p7), (12, .int x12)]), W p l e rm_L_acts s m ([.ref mm, .ref ag, .ref ak, .ref al, .ref ap, .ref ab, .ref am, .int p7] : List Value).toArray below meth c H locs 0 0 Q (F0 m 593 ls [.int z0, .int z1, .ref ag]) := by
    intro x g k ln pr lb mk x12 z0 z1 hF H locs ls hP hD hS hl
    unfold j_L_acts_593 at hF
    refine z_ix hF (fun hin hF => ?_)
    refine z_let hF (fun g82 hg82 hF => ?_)
    refine z_iast (Z := Z) (L := [w_SP Z mm u x, w_Arr Z.2.1 2 ag g, w_Arr Z.2.1 41 ak k, w_Arr Z.2.1 41 al ln, w_Arr Z.2.1 41 ap pr, w_Arr Z.2.1 41 ab lb, w_Arr Z.2.1 41 am mk]) (L' := [w_SP Z mm u x, w_Arr Z.2.1 2 ag g82, w_Arr Z.2.1 41 ak k, w_Arr Z.2.1 41 al ln, w_Arr Z.2.1 41 ap pr, w_Arr Z.2.1 41 ab lb, w_Arr Z.2.1 41 am mk]) (f := g) hx hb hK hP hD hS 1 rfl hin hg82 rfl (z_d hL_acts_5 12 rfl) (fun H locs hP hD hS => ?_)
    refine lv_aload_n hx hb (z_d hL_acts_5 13 rfl) rfl (lv_at hl 0 rfl) ?_
    refine lv_aload_n hx hb (z_d hL_acts_5 14 rfl) rfl (lv_at hl 1 rfl) ?_
    refine lv_iconst (v := 1) hx hb (z_d hL_acts_5 15 rfl) (by decide) ?_
    refine z_ix hF (fun hin hF => ?_)
    refine va_iald (D := Z.1) (f := g82) hx hb hK.1 (zP_reg hP 1 rfl) 0 0 rfl rfl hin (z_d hL_acts_5 16 rfl) ?_
    refine z_let hF (fun u83 hu83 hF => ?_)
    refine lv_topE hu83 ?_
    refine z_bnd hF (fun q84 hq84 hF => ?_)
    refine z_muN (L := [w_SP Z mm u x, w_Arr Z.2.1 2 ag g82, w_Arr Z.2.1 41 ak k, w_Arr Z.2.1 41 al ln, w_Arr Z.2.1 41 ap pr, w_Arr Z.2.1 41 ab lb, w_Arr Z.2.1 41 am mk]) (L' := [w_SP Z mm u q84.2, w_Arr Z.2.1 2 ag g82, w_Arr Z.2.1 41 ak k, w_Arr Z.2.1 41 al ln, w_Arr Z.2.1 41 ap pr, w_Arr Z.2.1 41 ab lb, w_Arr Z.2.1 41 am mk]) [(0, w_SP Z mm u x, w_SP Z mm u q84.2)] (z_rL (As := [.ref mm, .int u83]) (rest := []) hx hb hml hown hts ht_L_sizes (c_L_sizes l hlt Z sa mm u x u83 _ hq84) rfl rfl ⟨Nat.le_of_ble_eq_true rfl, Nat.le_of_ble_eq_true rfl⟩ k_m_L_70 hK ((hT.kept hS.2.1).narrow (z_zA (zDq [(0, w_SP Z mm u x, w_SP Z mm u q84.2)] hD (List.forall_mem_cons.mpr ⟨⟨rfl, (adr_SP _ _ _ _ _)⟩, (fun _ h => absurd h List.not_mem_nil)⟩) (show List.Nodup [0] by decide)))) hN (zP_c (zP_reg hP 0 rfl) zP_n) (zDq [(0, w_SP Z mm u x, w_SP Z mm u q84.2)] hD (List.forall_mem_cons.mpr ⟨⟨rfl, (adr_SP _ _ _ _ _)⟩, (fun _ h => absurd h List.not_mem_nil)⟩) (show List.Nodup [0] by decide)) rfl hl.1 (Nat.le_of_ble_eq_true rfl) (z_d hL_acts_5 17 rfl) ⟨Nat.le_of_ble_eq_true rfl, Nat.le_of_ble_eq_true rfl⟩) hS hP hD (List.forall_mem_cons.mpr ⟨⟨rfl, (adr_SP _ _ _ _ _)⟩, (fun _ h => absurd h List.not_mem_nil)⟩) (show List.Nodup [0] by decide) rfl rfl rfl (fun H locs hP hD hS => ?_)
    refine W.eq (g2 := F0 m 601 ls [.int q84.1]) rfl ?_
    refine lv_iload hx hb (z_d hL_acts_5 18 rfl) (lv_at hl 8 rfl) ?_
    refine lv_icmp_ne (tgt := 610) hx hb (z_d hL_acts_5 19 rfl) (by decide) (fun hc603 => ?_) (fun hc603 => ?_)
    · have hF := z_neg hc603 hF
      refine lv_iconst (v := 0) hx hb (z_d hL_acts_5 22 rfl) (by decide) ?_
      have hz9 : narrow .boolean (.int 0) = .int 0 := rfl
      obtain rfl := Option.some.inj hF
      subst hQ
      subst hA
      exact z_kretZ (L := [w_SP Z mm u q84.2, w_Arr Z.2.1 2 ag g82, w_Arr Z.2.1 41 ak k, w_Arr Z.2.1 41 al ln, w_Arr Z.2.1 41 ap pr, w_Arr Z.2.1 41 ab lb, w_Arr Z.2.1 41 am mk]) (Lr := []) hx hb hr hlocks hz9 rfl hP hS (Nat.le_of_ble_eq_true rfl) (Nat.le_of_ble_eq_true rfl) (z_d hL_acts_5 23 rfl)
    · have hF := z_pos hc603 hF
      refine lv_iconst (v := 1) hx hb (z_d hL_acts_5 20 rfl) (by decide) ?_
      refine lv_goto (tgt := 611) hx hb (z_d hL_acts_5 21 rfl) (by decide) ?_
      have hz9 : narrow .boolean (.int 1) = .int 1 := rfl
      obtain rfl := Option.some.inj hF
      subst hQ
      subst hA
      exact z_kretZ (L := [w_SP Z mm u q84.2, w_Arr Z.2.1 2 ag g82, w_Arr Z.2.1 41 ak k, w_Arr Z.2.1 41 al ln, w_Arr Z.2.1 41 ap pr, w_Arr Z.2.1 41 ab lb, w_Arr Z.2.1 41 am mk]) (Lr := []) hx hb hr hlocks hz9 rfl hP hS (Nat.le_of_ble_eq_true rfl) (Nat.le_of_ble_eq_true rfl) (z_d hL_acts_5 23 rfl)
  have L633 : ∀ (a91 : Nat) (x : t_SP) (g : Rw) (k : Rw) (ln : Rw) (pr : Rw) (mk : Rw) (ya91 : Rw) (x9 : Int32) (n : Nat) (v : Rw × Int32 × Int32) (X : Rw × Int32) (hF : zloop (b_L_acts_633 p7 x g k ln pr mk ya91 x9) n v = some X) (H : Heap) (locs : List Loc) (ls : Array Slot) (hP : va_P Z.1 vwCl (List.flatten [w_SP Z mm u x, w_Arr Z.2.1 2 ag g, w_Arr Z.2.1 41 ak k, w_Arr Z.2.1 41 al ln, w_Arr Z.2.1 41 ap pr, w_Arr Z.2.1 41 ab v.1, w_Arr Z.2.1 41 am mk, w_Arr Z.2.1 41 a91 ya91]) H) (hD : va_D A (List.flatten [w_SP Z mm u x, w_Arr Z.2.1 2 ag g, w_Arr Z.2.1 41 ak k, w_Arr Z.2.1 41 al ln, w_Arr Z.2.1 41 ap pr, w_Arr Z.2.1 41 ab v.1, w_Arr Z.2.1 41 am mk, w_Arr Z.2.1 41 a91 ya91])) (hS : va_S A s.heap H locs) (hl : lv_has ls 21 [(0, .ref mm), (1, .ref ag), (2, .ref ak), (3, .ref al), (4, .ref ap), (5, .ref ab), (6, .ref am), (7, .int p7), (9, .int x9), (13, .ref a91), (14, .int v.2.1), (15, .int v.2.2)]) (K1 : ∀ (H : Heap) (locs : List Loc) (ls : Array Slot) (hP : va_P Z.1 vwCl (List.flatten [w_SP Z mm u x, w_Arr Z.2.1 2 ag g, w_Arr Z.2.1 41 ak k, w_Arr Z.2.1 41 al ln, w_Arr Z.2.1 41 ap pr, w_Arr Z.2.1 41 ab X.1, w_Arr Z.2.1 41 am mk, w_Arr Z.2.1 41 a91 ya91]) H) (hD : va_D A (List.flatten [w_SP Z mm u x, w_Arr Z.2.1 2 ag g, w_Arr Z.2.1 41 ak k, w_Arr Z.2.1 41 al ln, w_Arr Z.2.1 41 ap pr, w_Arr Z.2.1 41 ab X.1, w_Arr Z.2.1 41 am mk, w_Arr Z.2.1 41 a91 ya91])) (hS : va_S A s.heap H locs) (hl : lv_has ls 21 [(0, .ref mm), (1, .ref ag), (2, .ref ak), (3, .ref al), (4, .ref ap), (5, .ref ab), (6, .ref am), (7, .int p7), (14, .int X.2)]), W p l e rm_L_acts s m ([.ref mm, .ref ag, .ref ak, .ref al, .ref ap, .ref ab, .ref am, .int p7] : List Value).toArray below meth c H locs 1 41 Q (F0 m 696 ls [])), W p l e rm_L_acts s m ([.ref mm, .ref ag, .ref ak, .ref al, .ref ap, .ref ab, .ref am, .int p7] : List Value).toArray below meth c H locs 1 41 Q (F0 m 633 ls []) := by
    intro a91 x g k ln pr mk ya91 x9
    refine z_loopE (fun rec ih v X hF H locs ls hP hD hS hl K1 => ?_)
    unfold b_L_acts_633 at hF
    have J664_a91 : ∀  (lb : Rw) (x15 : Int32) (z0 : Int32) (z1 : Int32) (hF : j_L_acts_664_a91 p7 x g k ln pr mk ya91 x9 rec lb x15 z0 z1 = some X) (H : Heap) (locs : List Loc) (ls : Array Slot) (hP : va_P Z.1 vwCl (List.flatten [w_SP Z mm u x, w_Arr Z.2.1 2 ag g, w_Arr Z.2.1 41 ak k, w_Arr Z.2.1 41 al ln, w_Arr Z.2.1 41 ap pr, w_Arr Z.2.1 41 ab lb, w_Arr Z.2.1 41 am mk, w_Arr Z.2.1 41 a91 ya91]) H) (hD : va_D A (List.flatten [w_SP Z mm u x, w_Arr Z.2.1 2 ag g, w_Arr Z.2.1 41 ak k, w_Arr Z.2.1 41 al ln, w_Arr Z.2.1 41 ap pr, w_Arr Z.2.1 41 ab lb, w_Arr Z.2.1 41 am mk, w_Arr Z.2.1 41 a91 ya91])) (hS : va_S A s.heap H locs) (hl : lv_has ls 21 [(0, .ref mm), (1, .ref ag), (2, .ref ak), (3, .ref al), (4, .ref ap), (5, .ref ab), (6, .ref am), (7, .int p7), (9, .int x9), (13, .ref a91), (15, .int x15)]), W p l e rm_L_acts s m ([.ref mm, .ref ag, .ref ak, .ref al, .ref ap, .ref ab, .ref am, .int p7] : List Value).toArray below meth c H locs 1 41 Q (F0 m 664 ls [.int z0, .int z1]) := by
      intro lb x15 z0 z1 hF H locs ls hP hD hS hl
      unfold j_L_acts_664_a91 at hF
      refine lv_iadd hx hb (z_d hL_acts_5 51 rfl) ?_
      refine z_let hF (fun u87 hu87 hF => ?_)
      refine lv_topE hu87 ?_
      refine lv_istore (lv' := [(14, .int u87), (0, .ref mm), (1, .ref ag), (2, .ref ak), (3, .ref al), (4, .ref ap), (5, .ref ab), (6, .ref am), (7, .int p7), (9, .int x9), (13, .ref a91), (15, .int x15)]) hx hb (z_d hL_acts_5 52 rfl) hl (by decide) rfl (fun ls hl => ?_)
      refine lv_aload hx hb (z_d hL_acts_5 53 rfl) (lv_at hl 6 rfl) ?_
      refine lv_iload hx hb (z_d hL_acts_5 54 rfl) (lv_at hl 11 rfl) ?_
      refine lv_aload_n hx hb (z_d hL_acts_5 55 rfl) rfl (lv_at hl 3 rfl) ?_
      refine lv_iload hx hb (z_d hL_acts_5 56 rfl) (lv_at hl 11 rfl) ?_
      refine z_bnd hF (fun q88 hq88 hF => ?_)
      refine z_ro_i (z_rS (As := [.ref ak, .int x15]) (rest := [.int x15, .ref ab]) hx hb hml hown hts vs_L_heads (c_L_heads l Z ak k x15 _ hq88) rfl rfl ⟨Nat.le_of_ble_eq_true rfl, Nat.le_of_ble_eq_true rfl⟩ k_m_L_9 zPro_blind (z_prec hK (zP_c (zP_reg hP 2 rfl) zP_n)) rfl hl.1 (Nat.le_of_ble_eq_true rfl) (z_d hL_acts_5 57 rfl) ⟨Nat.le_of_ble_eq_true rfl, Nat.le_of_ble_eq_true rfl⟩) hS hP (fun H locs hP hS => ?_)
      refine lv_if_eq (tgt := 688) hx hb (z_d hL_acts_5 58 rfl) (by decide) (fun hc677 => ?_) (fun hc677 => ?_)
      · have hF := z_pos hc677 hF
        refine lv_iconst (v := (-1)) hx hb (z_d hL_acts_6 3 rfl) (by decide) ?_
        refine z_ix hF (fun hin hF => ?_)
        refine z_let hF (fun g89 hg89 hF => ?_)
        refine z_iast (Z := Z) (L := [w_SP Z mm u x, w_Arr Z.2.1 2 ag g, w_Arr Z.2.1 41 ak k, w_Arr Z.2.1 41 al ln, w_Arr Z.2.1 41 ap pr, w_Arr Z.2.1 41 ab lb, w_Arr Z.2.1 41 am mk, w_Arr Z.2.1 41 a91 ya91]) (L' := [w_SP Z mm u x, w_Arr Z.2.1 2 ag g, w_Arr Z.2.1 41 ak k, w_Arr Z.2.1 41 al ln, w_Arr Z.2.1 41 ap pr, w_Arr Z.2.1 41 ab g89, w_Arr Z.2.1 41 am mk, w_Arr Z.2.1 41 a91 ya91]) (f := lb) hx hb hK hP hD hS 5 rfl hin hg89 rfl (z_d hL_acts_6 4 rfl) (fun H locs hP hD hS => ?_)
        refine z_let hF (fun u90 hu90 hF => ?_)
        refine lv_iinc (v := u90) (lv' := [(15, .int u90), (14, .int u87), (0, .ref mm), (1, .ref ag), (2, .ref ak), (3, .ref al), (4, .ref ap), (5, .ref ab), (6, .ref am), (7, .int p7), (9, .int x9), (13, .ref a91)]) hx hb (z_d hL_acts_6 5 rfl) hl (k := 11) rfl (z_inc1 hu90) (by decide) rfl (fun ls hl => ?_)
        refine lv_goto (tgt := 633) hx hb (z_d hL_acts_6 6 rfl) (by decide) ?_
        exact ih _ _ hF _ _ ls hP hD hS (lv_sub hl [2, 3, 4, 5, 6, 7, 8, 9, 10, 11, 1, 0] rfl) K1
      · have hF := z_neg hc677 hF
        refine lv_aload hx hb (z_d hL_acts_5 59 rfl) (lv_at hl 10 rfl) ?_
        refine lv_iload hx hb (z_d hL_acts_6 0 rfl) (lv_at hl 11 rfl) ?_
        refine z_ix hF (fun hin hF => ?_)
        refine va_iald (D := Z.1) (f := ya91) hx hb hK.1 (zP_reg hP 7 rfl) 0 0 rfl rfl hin (z_d hL_acts_6 1 rfl) ?_
        refine z_let hF (fun u91 hu91 hF => ?_)
        refine lv_topE hu91 ?_
        refine lv_goto (tgt := 689) hx hb (z_d hL_acts_6 2 rfl) (by decide) ?_
        refine z_ix hF (fun hin hF => ?_)
        refine z_let hF (fun g92 hg92 hF => ?_)
        refine z_iast (Z := Z) (L := [w_SP Z mm u x, w_Arr Z.2.1 2 ag g, w_Arr Z.2.1 41 ak k, w_Arr Z.2.1 41 al ln, w_Arr Z.2.1 41 ap pr, w_Arr Z.2.1 41 ab lb, w_Arr Z.2.1 41 am mk, w_Arr Z.2.1 41 a91 ya91]) (L' := [w_SP Z mm u x, w_Arr Z.2.1 2 ag g, w_Arr Z.2.1 41 ak k, w_Arr Z.2.1 41 al ln, w_Arr Z.2.1 41 ap pr, w_Arr Z.2.1 41 ab g92, w_Arr Z.2.1 41 am mk, w_Arr Z.2.1 41 a91 ya91]) (f := lb) hx hb hK hP hD hS 5 rfl hin hg92 rfl (z_d hL_acts_6 4 rfl) (fun H locs hP hD hS => ?_)
        refine z_let hF (fun u93 hu93 hF => ?_)
        refine lv_iinc (v := u93) (lv' := [(15, .int u93), (14, .int u87), (0, .ref mm), (1, .ref ag), (2, .ref ak), (3, .ref al), (4, .ref ap), (5, .ref ab), (6, .ref am), (7, .int p7), (9, .int x9), (13, .ref a91)]) hx hb (z_d hL_acts_6 5 rfl) hl (k := 11) rfl (z_inc1 hu93) (by decide) rfl (fun ls hl => ?_)
        refine lv_goto (tgt := 633) hx hb (z_d hL_acts_6 6 rfl) (by decide) ?_
        exact ih _ _ hF _ _ ls hP hD hS (lv_sub hl [2, 3, 4, 5, 6, 7, 8, 9, 10, 11, 1, 0] rfl) K1
    have J663_a91 : ∀  (lb : Rw) (x15 : Int32) (z0 : Int32) (hF : j_L_acts_663_a91 p7 x g k ln pr mk ya91 x9 rec lb x15 z0 = some X) (H : Heap) (locs : List Loc) (ls : Array Slot) (hP : va_P Z.1 vwCl (List.flatten [w_SP Z mm u x, w_Arr Z.2.1 2 ag g, w_Arr Z.2.1 41 ak k, w_Arr Z.2.1 41 al ln, w_Arr Z.2.1 41 ap pr, w_Arr Z.2.1 41 ab lb, w_Arr Z.2.1 41 am mk, w_Arr Z.2.1 41 a91 ya91]) H) (hD : va_D A (List.flatten [w_SP Z mm u x, w_Arr Z.2.1 2 ag g, w_Arr Z.2.1 41 ak k, w_Arr Z.2.1 41 al ln, w_Arr Z.2.1 41 ap pr, w_Arr Z.2.1 41 ab lb, w_Arr Z.2.1 41 am mk, w_Arr Z.2.1 41 a91 ya91])) (hS : va_S A s.heap H locs) (hl : lv_has ls 21 [(0, .ref mm), (1, .ref ag), (2, .ref ak), (3, .ref al), (4, .ref ap), (5, .ref ab), (6, .ref am), (7, .int p7), (9, .int x9), (13, .ref a91), (15, .int x15)]), W p l e rm_L_acts s m ([.ref mm, .ref ag, .ref ak, .ref al, .ref ap, .ref ab, .ref am, .int p7] : List Value).toArray below meth c H locs 1 41 Q (F0 m 663 ls [.int z0]) := by
      intro lb x15 z0 hF H locs ls hP hD hS hl
      unfold j_L_acts_663_a91 at hF
      refine lv_iconst (v := 0) hx hb (z_d hL_acts_5 50 rfl) (by decide) ?_
      exact J664_a91 lb x15 0 z0 hF _ _ ls hP hD hS (lv_sub hl [0, 1, 2, 3, 4, 5, 6, 7, 8, 9, 10] rfl)
    refine lv_iload hx hb (z_d hL_acts_5 36 rfl) (lv_at hl 11 rfl) ?_
    refine lv_iload hx hb (z_d hL_acts_5 37 rfl) (lv_at hl 8 rfl) ?_
    refine lv_icmp_ge (tgt := 696) hx hb (z_d hL_acts_5 38 rfl) (by decide) (fun hc637 => ?_) (fun hc637 => ?_)
    · have hF := z_pos hc637 hF
      obtain rfl := Option.some.inj hF
      exact K1 _ _ ls hP hD hS (lv_sub hl [0, 1, 2, 3, 4, 5, 6, 7, 10] rfl)
    · have hF := z_neg hc637 hF
      refine lv_iload hx hb (z_d hL_acts_5 39 rfl) (lv_at hl 10 rfl) ?_
      refine lv_aload_n hx hb (z_d hL_acts_5 40 rfl) rfl (lv_at hl 2 rfl) ?_
      refine lv_iload hx hb (z_d hL_acts_5 41 rfl) (lv_at hl 11 rfl) ?_
      refine z_bnd hF (fun q86 hq86 hF => ?_)
      refine z_ro_i (z_rS (As := [.ref ak, .int v.2.2]) (rest := [.int v.2.1]) hx hb hml hown hts vs_L_heads (c_L_heads l Z ak k v.2.2 _ hq86) rfl rfl ⟨Nat.le_of_ble_eq_true rfl, Nat.le_of_ble_eq_true rfl⟩ k_m_L_9 zPro_blind (z_prec hK (zP_c (zP_reg hP 2 rfl) zP_n)) rfl hl.1 (Nat.le_of_ble_eq_true rfl) (z_d hL_acts_5 42 rfl) ⟨Nat.le_of_ble_eq_true rfl, Nat.le_of_ble_eq_true rfl⟩) hS hP (fun H locs hP hS => ?_)
      refine lv_if_eq (tgt := 663) hx hb (z_d hL_acts_5 43 rfl) (by decide) (fun hc648 => ?_) (fun hc648 => ?_)
      · have hF := z_pos hc648 hF
        exact J663_a91 v.1 v.2.2 v.2.1 hF _ _ ls hP hD hS (lv_sub hl [0, 1, 2, 3, 4, 5, 6, 7, 8, 9, 11] rfl)
      · have hF := z_neg hc648 hF
        refine lv_aload hx hb (z_d hL_acts_5 44 rfl) (lv_at hl 5 rfl) ?_
        refine lv_iload hx hb (z_d hL_acts_5 45 rfl) (lv_at hl 11 rfl) ?_
        refine z_ix hF (fun hin hF => ?_)
        refine va_iald (D := Z.1) (f := v.1) hx hb hK.1 (zP_reg hP 5 rfl) 0 0 rfl rfl hin (z_d hL_acts_5 46 rfl) ?_
        refine z_let hF (fun u94 hu94 hF => ?_)
        refine lv_topE hu94 ?_
        refine lv_if_ge (tgt := 663) hx hb (z_d hL_acts_5 47 rfl) (by decide) (fun hc656 => ?_) (fun hc656 => ?_)
        · have hF := z_pos hc656 hF
          exact J663_a91 v.1 v.2.2 v.2.1 hF _ _ ls hP hD hS (lv_sub hl [0, 1, 2, 3, 4, 5, 6, 7, 8, 9, 11] rfl)
        · have hF := z_neg hc656 hF
          refine lv_iconst (v := 1) hx hb (z_d hL_acts_5 48 rfl) (by decide) ?_
          refine lv_goto (tgt := 664) hx hb (z_d hL_acts_5 49 rfl) (by decide) ?_
          exact J664_a91 v.1 v.2.2 1 v.2.1 hF _ _ ls hP hD hS (lv_sub hl [0, 1, 2, 3, 4, 5, 6, 7, 8, 9, 11] rfl)
  have L762 : ∀ (a92 : Nat) (a93 : Nat) (x : t_SP) (g : Rw) (k : Rw) (ln : Rw) (pr : Rw) (lb : Rw) (ya92 : Rw) (ya93 : Rw) (x9 : Int32) (x17 : Int32) (n : Nat) (v : Rw × Int32 × Int32) (X : Rw × Int32) (hF : zloop (b_L_acts_762 p7 x g k ln pr lb ya92 ya93 x9 x17) n v = some X) (H : Heap) (locs : List Loc) (ls : Array Slot) (hP : va_P Z.1 vwCl (List.flatten [w_SP Z mm u x, w_Arr Z.2.1 2 ag g, w_Arr Z.2.1 41 ak k, w_Arr Z.2.1 41 al ln, w_Arr Z.2.1 41 ap pr, w_Arr Z.2.1 41 ab lb, w_Arr Z.2.1 41 am v.1, w_Arr Z.2.1 41 a92 ya92, w_Arr Z.2.1 64 a93 ya93]) H) (hD : va_D A (List.flatten [w_SP Z mm u x, w_Arr Z.2.1 2 ag g, w_Arr Z.2.1 41 ak k, w_Arr Z.2.1 41 al ln, w_Arr Z.2.1 41 ap pr, w_Arr Z.2.1 41 ab lb, w_Arr Z.2.1 41 am v.1, w_Arr Z.2.1 41 a92 ya92, w_Arr Z.2.1 64 a93 ya93])) (hS : va_S A s.heap H locs) (hl : lv_has ls 21 [(0, .ref mm), (1, .ref ag), (2, .ref ak), (3, .ref al), (4, .ref ap), (5, .ref ab), (6, .ref am), (7, .int p7), (9, .int x9), (15, .ref a92), (17, .int x17), (18, .int v.2.1), (19, .int v.2.2)]) (K1 : ∀ (H : Heap) (locs : List Loc) (ls : Array Slot) (hP : va_P Z.1 vwCl (List.flatten [w_SP Z mm u x, w_Arr Z.2.1 2 ag g, w_Arr Z.2.1 41 ak k, w_Arr Z.2.1 41 al ln, w_Arr Z.2.1 41 ap pr, w_Arr Z.2.1 41 ab lb, w_Arr Z.2.1 41 am X.1, w_Arr Z.2.1 41 a92 ya92, w_Arr Z.2.1 64 a93 ya93]) H) (hD : va_D A (List.flatten [w_SP Z mm u x, w_Arr Z.2.1 2 ag g, w_Arr Z.2.1 41 ak k, w_Arr Z.2.1 41 al ln, w_Arr Z.2.1 41 ap pr, w_Arr Z.2.1 41 ab lb, w_Arr Z.2.1 41 am X.1, w_Arr Z.2.1 41 a92 ya92, w_Arr Z.2.1 64 a93 ya93])) (hS : va_S A s.heap H locs) (hl : lv_has ls 21 [(0, .ref mm), (1, .ref ag), (2, .ref ak), (3, .ref al), (4, .ref ap), (5, .ref ab), (6, .ref am), (7, .int p7), (17, .int x17), (18, .int X.2)]), W p l e rm_L_acts s m ([.ref mm, .ref ag, .ref ak, .ref al, .ref ap, .ref ab, .ref am, .int p7] : List Value).toArray below meth c H locs 3 146 Q (F0 m 841 ls [])), W p l e rm_L_acts s m ([.ref mm, .ref ag, .ref ak, .ref al, .ref ap, .ref ab, .ref am, .int p7] : List Value).toArray below meth c H locs 3 146 Q (F0 m 762 ls []) := by
    intro a92 a93 x g k ln pr lb ya92 ya93 x9 x17
    refine z_loopE (fun rec ih v X hF H locs ls hP hD hS hl K1 => ?_)
    unfold b_L_acts_762 at hF
    have J816_a92_a93 : ∀  (mk : Rw) (x19 : Int32) (x20 : Int32) (z0 : Int32) (z1 : Int32) (hF : j_L_acts_816_a92_a93 p7 x g k ln pr lb ya92 ya93 x9 x17 rec mk x19 x20 z0 z1 = some X) (H : Heap) (locs : List Loc) (ls : Array Slot) (hP : va_P Z.1 vwCl (List.flatten [w_SP Z mm u x, w_Arr Z.2.1 2 ag g, w_Arr Z.2.1 41 ak k, w_Arr Z.2.1 41 al ln, w_Arr Z.2.1 41 ap pr, w_Arr Z.2.1 41 ab lb, w_Arr Z.2.1 41 am mk, w_Arr Z.2.1 41 a92 ya92, w_Arr Z.2.1 64 a93 ya93]) H) (hD : va_D A (List.flatten [w_SP Z mm u x, w_Arr Z.2.1 2 ag g, w_Arr Z.2.1 41 ak k, w_Arr Z.2.1 41 al ln, w_Arr Z.2.1 41 ap pr, w_Arr Z.2.1 41 ab lb, w_Arr Z.2.1 41 am mk, w_Arr Z.2.1 41 a92 ya92, w_Arr Z.2.1 64 a93 ya93])) (hS : va_S A s.heap H locs) (hl : lv_has ls 21 [(0, .ref mm), (1, .ref ag), (2, .ref ak), (3, .ref al), (4, .ref ap), (5, .ref ab), (6, .ref am), (7, .int p7), (9, .int x9), (15, .ref a92), (17, .int x17), (19, .int x19), (20, .int x20)]), W p l e rm_L_acts s m ([.ref mm, .ref ag, .ref ak, .ref al, .ref ap, .ref ab, .ref am, .int p7] : List Value).toArray below meth c H locs 3 146 Q (F0 m 816 ls [.int z0, .int z1]) := by
      intro mk x19 x20 z0 z1 hF H locs ls hP hD hS hl
      unfold j_L_acts_816_a92_a93 at hF
      refine lv_iadd hx hb (z_d hL_acts_7 14 rfl) ?_
      refine z_let hF (fun u100 hu100 hF => ?_)
      refine lv_topE hu100 ?_
      refine lv_istore (lv' := [(18, .int u100), (0, .ref mm), (1, .ref ag), (2, .ref ak), (3, .ref al), (4, .ref ap), (5, .ref ab), (6, .ref am), (7, .int p7), (9, .int x9), (15, .ref a92), (17, .int x17), (19, .int x19), (20, .int x20)]) hx hb (z_d hL_acts_7 15 rfl) hl (by decide) rfl (fun ls hl => ?_)
      refine lv_aload hx hb (z_d hL_acts_7 16 rfl) (lv_at hl 7 rfl) ?_
      refine lv_iload hx hb (z_d hL_acts_7 17 rfl) (lv_at hl 12 rfl) ?_
      refine lv_iload hx hb (z_d hL_acts_7 18 rfl) (lv_at hl 13 rfl) ?_
      refine lv_if_eq (tgt := 833) hx hb (z_d hL_acts_7 19 rfl) (by decide) (fun hc825 => ?_) (fun hc825 => ?_)
      · have hF := z_pos hc825 hF
        refine lv_iconst (v := 0) hx hb (z_d hL_acts_7 22 rfl) (by decide) ?_
        refine z_ix hF (fun hin hF => ?_)
        refine z_let hF (fun g101 hg101 hF => ?_)
        refine z_iast (Z := Z) (L := [w_SP Z mm u x, w_Arr Z.2.1 2 ag g, w_Arr Z.2.1 41 ak k, w_Arr Z.2.1 41 al ln, w_Arr Z.2.1 41 ap pr, w_Arr Z.2.1 41 ab lb, w_Arr Z.2.1 41 am mk, w_Arr Z.2.1 41 a92 ya92, w_Arr Z.2.1 64 a93 ya93]) (L' := [w_SP Z mm u x, w_Arr Z.2.1 2 ag g, w_Arr Z.2.1 41 ak k, w_Arr Z.2.1 41 al ln, w_Arr Z.2.1 41 ap pr, w_Arr Z.2.1 41 ab lb, w_Arr Z.2.1 41 am g101, w_Arr Z.2.1 41 a92 ya92, w_Arr Z.2.1 64 a93 ya93]) (f := mk) hx hb hK hP hD hS 6 rfl hin hg101 rfl (z_d hL_acts_7 23 rfl) (fun H locs hP hD hS => ?_)
        refine z_let hF (fun u102 hu102 hF => ?_)
        refine lv_iinc (v := u102) (lv' := [(19, .int u102), (18, .int u100), (0, .ref mm), (1, .ref ag), (2, .ref ak), (3, .ref al), (4, .ref ap), (5, .ref ab), (6, .ref am), (7, .int p7), (9, .int x9), (15, .ref a92), (17, .int x17), (20, .int x20)]) hx hb (z_d hL_acts_7 24 rfl) hl (k := 12) rfl (z_inc1 hu102) (by decide) rfl (fun ls hl => ?_)
        refine lv_goto (tgt := 762) hx hb (z_d hL_acts_7 25 rfl) (by decide) ?_
        exact ih _ _ hF _ _ ls hP hD hS (lv_sub hl [2, 3, 4, 5, 6, 7, 8, 9, 10, 11, 12, 1, 0] rfl) K1
      · have hF := z_neg hc825 hF
        refine lv_iload hx hb (z_d hL_acts_7 20 rfl) (lv_at hl 0 rfl) ?_
        refine lv_goto (tgt := 834) hx hb (z_d hL_acts_7 21 rfl) (by decide) ?_
        refine z_ix hF (fun hin hF => ?_)
        refine z_let hF (fun g103 hg103 hF => ?_)
        refine z_iast (Z := Z) (L := [w_SP Z mm u x, w_Arr Z.2.1 2 ag g, w_Arr Z.2.1 41 ak k, w_Arr Z.2.1 41 al ln, w_Arr Z.2.1 41 ap pr, w_Arr Z.2.1 41 ab lb, w_Arr Z.2.1 41 am mk, w_Arr Z.2.1 41 a92 ya92, w_Arr Z.2.1 64 a93 ya93]) (L' := [w_SP Z mm u x, w_Arr Z.2.1 2 ag g, w_Arr Z.2.1 41 ak k, w_Arr Z.2.1 41 al ln, w_Arr Z.2.1 41 ap pr, w_Arr Z.2.1 41 ab lb, w_Arr Z.2.1 41 am g103, w_Arr Z.2.1 41 a92 ya92, w_Arr Z.2.1 64 a93 ya93]) (f := mk) hx hb hK hP hD hS 6 rfl hin hg103 rfl (z_d hL_acts_7 23 rfl) (fun H locs hP hD hS => ?_)
        refine z_let hF (fun u104 hu104 hF => ?_)
        refine lv_iinc (v := u104) (lv' := [(19, .int u104), (18, .int u100), (0, .ref mm), (1, .ref ag), (2, .ref ak), (3, .ref al), (4, .ref ap), (5, .ref ab), (6, .ref am), (7, .int p7), (9, .int x9), (15, .ref a92), (17, .int x17), (20, .int x20)]) hx hb (z_d hL_acts_7 24 rfl) hl (k := 12) rfl (z_inc1 hu104) (by decide) rfl (fun ls hl => ?_)
        refine lv_goto (tgt := 762) hx hb (z_d hL_acts_7 25 rfl) (by decide) ?_
        exact ih _ _ hF _ _ ls hP hD hS (lv_sub hl [2, 3, 4, 5, 6, 7, 8, 9, 10, 11, 12, 1, 0] rfl) K1
    have J802_a92_a93 : ∀  (mk : Rw) (x18 : Int32) (x19 : Int32) (z0 : Int32) (hF : j_L_acts_802_a92_a93 p7 x g k ln pr lb ya92 ya93 x9 x17 rec mk x18 x19 z0 = some X) (H : Heap) (locs : List Loc) (ls : Array Slot) (hP : va_P Z.1 vwCl (List.flatten [w_SP Z mm u x, w_Arr Z.2.1 2 ag g, w_Arr Z.2.1 41 ak k, w_Arr Z.2.1 41 al ln, w_Arr Z.2.1 41 ap pr, w_Arr Z.2.1 41 ab lb, w_Arr Z.2.1 41 am mk, w_Arr Z.2.1 41 a92 ya92, w_Arr Z.2.1 64 a93 ya93]) H) (hD : va_D A (List.flatten [w_SP Z mm u x, w_Arr Z.2.1 2 ag g, w_Arr Z.2.1 41 ak k, w_Arr Z.2.1 41 al ln, w_Arr Z.2.1 41 ap pr, w_Arr Z.2.1 41 ab lb, w_Arr Z.2.1 41 am mk, w_Arr Z.2.1 41 a92 ya92, w_Arr Z.2.1 64 a93 ya93])) (hS : va_S A s.heap H locs) (hl : lv_has ls 21 [(0, .ref mm), (1, .ref ag), (2, .ref ak), (3, .ref al), (4, .ref ap), (5, .ref ab), (6, .ref am), (7, .int p7), (9, .int x9), (15, .ref a92), (17, .int x17), (18, .int x18), (19, .int x19)]), W p l e rm_L_acts s m ([.ref mm, .ref ag, .ref ak, .ref al, .ref ap, .ref ab, .ref am, .int p7] : List Value).toArray below meth c H locs 3 146 Q (F0 m 802 ls [.int z0]) := by
      intro mk x18 x19 z0 hF H locs ls hP hD hS hl
      unfold j_L_acts_802_a92_a93 at hF
      refine lv_istore (lv' := [(20, .int z0), (0, .ref mm), (1, .ref ag), (2, .ref ak), (3, .ref al), (4, .ref ap), (5, .ref ab), (6, .ref am), (7, .int p7), (9, .int x9), (15, .ref a92), (17, .int x17), (18, .int x18), (19, .int x19)]) hx hb (z_d hL_acts_7 7 rfl) hl (by decide) rfl (fun ls hl => ?_)
      refine lv_iload hx hb (z_d hL_acts_7 8 rfl) (lv_at hl 12 rfl) ?_
      refine lv_iload hx hb (z_d hL_acts_7 9 rfl) (lv_at hl 0 rfl) ?_
      refine lv_if_eq (tgt := 815) hx hb (z_d hL_acts_7 10 rfl) (by decide) (fun hc808 => ?_) (fun hc808 => ?_)
      · have hF := z_pos hc808 hF
        refine lv_iconst (v := 0) hx hb (z_d hL_acts_7 13 rfl) (by decide) ?_
        exact J816_a92_a93 mk x19 z0 0 x18 hF _ _ ls hP hD hS (lv_sub hl [1, 2, 3, 4, 5, 6, 7, 8, 9, 10, 11, 13, 0] rfl)
      · have hF := z_neg hc808 hF
        refine lv_iconst (v := 1) hx hb (z_d hL_acts_7 11 rfl) (by decide) ?_
        refine lv_goto (tgt := 816) hx hb (z_d hL_acts_7 12 rfl) (by decide) ?_
        exact J816_a92_a93 mk x19 z0 1 x18 hF _ _ ls hP hD hS (lv_sub hl [1, 2, 3, 4, 5, 6, 7, 8, 9, 10, 11, 13, 0] rfl)
    have J797_a92_a93 : ∀  (mk : Rw) (x18 : Int32) (x19 : Int32) (hF : j_L_acts_797_a92_a93 p7 x g k ln pr lb ya92 ya93 x9 x17 rec mk x18 x19 = some X) (H : Heap) (locs : List Loc) (ls : Array Slot) (hP : va_P Z.1 vwCl (List.flatten [w_SP Z mm u x, w_Arr Z.2.1 2 ag g, w_Arr Z.2.1 41 ak k, w_Arr Z.2.1 41 al ln, w_Arr Z.2.1 41 ap pr, w_Arr Z.2.1 41 ab lb, w_Arr Z.2.1 41 am mk, w_Arr Z.2.1 41 a92 ya92, w_Arr Z.2.1 64 a93 ya93]) H) (hD : va_D A (List.flatten [w_SP Z mm u x, w_Arr Z.2.1 2 ag g, w_Arr Z.2.1 41 ak k, w_Arr Z.2.1 41 al ln, w_Arr Z.2.1 41 ap pr, w_Arr Z.2.1 41 ab lb, w_Arr Z.2.1 41 am mk, w_Arr Z.2.1 41 a92 ya92, w_Arr Z.2.1 64 a93 ya93])) (hS : va_S A s.heap H locs) (hl : lv_has ls 21 [(0, .ref mm), (1, .ref ag), (2, .ref ak), (3, .ref al), (4, .ref ap), (5, .ref ab), (6, .ref am), (7, .int p7), (9, .int x9), (15, .ref a92), (17, .int x17), (18, .int x18), (19, .int x19)]), W p l e rm_L_acts s m ([.ref mm, .ref ag, .ref ak, .ref al, .ref ap, .ref ab, .ref am, .int p7] : List Value).toArray below meth c H locs 3 146 Q (F0 m 797 ls []) := by
      intro mk x18 x19 hF H locs ls hP hD hS hl
      unfold j_L_acts_797_a92_a93 at hF
      refine lv_iconst (v := 1) hx hb (z_d hL_acts_7 4 rfl) (by decide) ?_
      refine lv_goto (tgt := 802) hx hb (z_d hL_acts_7 5 rfl) (by decide) ?_
      exact J802_a92_a93 mk x18 x19 1 hF _ _ ls hP hD hS (lv_sub hl [0, 1, 2, 3, 4, 5, 6, 7, 8, 9, 10, 11, 12] rfl)
    refine lv_iload hx hb (z_d hL_acts_6 46 rfl) (lv_at hl 12 rfl) ?_
    refine lv_iload hx hb (z_d hL_acts_6 47 rfl) (lv_at hl 8 rfl) ?_
    refine lv_icmp_ge (tgt := 841) hx hb (z_d hL_acts_6 48 rfl) (by decide) (fun hc766 => ?_) (fun hc766 => ?_)
    · have hF := z_pos hc766 hF
      obtain rfl := Option.some.inj hF
      exact K1 _ _ ls hP hD hS (lv_sub hl [0, 1, 2, 3, 4, 5, 6, 7, 10, 11] rfl)
    · have hF := z_neg hc766 hF
      refine lv_iload hx hb (z_d hL_acts_6 49 rfl) (lv_at hl 12 rfl) ?_
      refine lv_if_eq (tgt := 797) hx hb (z_d hL_acts_6 50 rfl) (by decide) (fun hc771 => ?_) (fun hc771 => ?_)
      · have hF := z_pos hc771 hF
        exact J797_a92_a93 v.1 v.2.1 v.2.2 hF _ _ ls hP hD hS (lv_sub hl [0, 1, 2, 3, 4, 5, 6, 7, 8, 9, 10, 11, 12] rfl)
      · have hF := z_neg hc771 hF
        refine lv_aload hx hb (z_d hL_acts_6 51 rfl) (lv_at hl 9 rfl) ?_
        refine lv_iload hx hb (z_d hL_acts_6 52 rfl) (lv_at hl 12 rfl) ?_
        refine z_ix hF (fun hin hF => ?_)
        refine va_iald (D := Z.1) (f := ya92) hx hb hK.1 (zP_reg hP 7 rfl) 0 0 rfl rfl hin (z_d hL_acts_6 53 rfl) ?_
        refine z_let hF (fun u105 hu105 hF => ?_)
        refine lv_topE hu105 ?_
        refine lv_sipush (v := 10000) hx hb (z_d hL_acts_6 54 rfl) (by decide) ?_
        refine lv_idiv hx hb (z_d hL_acts_6 55 rfl) (by decide) ?_
        refine z_let hF (fun u106 hu106 hF => ?_)
        refine lv_topE hu106 ?_
        refine lv_aload hx hb (z_d hL_acts_6 56 rfl) (lv_at hl 9 rfl) ?_
        refine lv_iload hx hb (z_d hL_acts_6 57 rfl) (lv_at hl 12 rfl) ?_
        refine lv_iconst (v := 1) hx hb (z_d hL_acts_6 58 rfl) (by decide) ?_
        refine lv_isub hx hb (z_d hL_acts_6 59 rfl) ?_
        refine z_let hF (fun u107 hu107 hF => ?_)
        refine lv_topE hu107 ?_
        refine z_ix hF (fun hin hF => ?_)
        refine va_iald (D := Z.1) (f := ya92) hx hb hK.1 (zP_reg hP 7 rfl) 0 0 rfl rfl hin (z_d hL_acts_7 0 rfl) ?_
        refine z_let hF (fun u108 hu108 hF => ?_)
        refine lv_topE hu108 ?_
        refine lv_sipush (v := 10000) hx hb (z_d hL_acts_7 1 rfl) (by decide) ?_
        refine lv_idiv hx hb (z_d hL_acts_7 2 rfl) (by decide) ?_
        refine z_let hF (fun u109 hu109 hF => ?_)
        refine lv_topE hu109 ?_
        refine lv_icmp_eq (tgt := 801) hx hb (z_d hL_acts_7 3 rfl) (by decide) (fun hc794 => ?_) (fun hc794 => ?_)
        · have hF := z_pos hc794 hF
          refine lv_iconst (v := 0) hx hb (z_d hL_acts_7 6 rfl) (by decide) ?_
          exact J802_a92_a93 v.1 v.2.1 v.2.2 0 hF _ _ ls hP hD hS (lv_sub hl [0, 1, 2, 3, 4, 5, 6, 7, 8, 9, 10, 11, 12] rfl)
        · have hF := z_neg hc794 hF
          exact J797_a92_a93 v.1 v.2.1 v.2.2 hF _ _ ls hP hD hS (lv_sub hl [0, 1, 2, 3, 4, 5, 6, 7, 8, 9, 10, 11, 12] rfl)
  have J30 : ∀  (x : t_SP) (g : Rw) (k : Rw) (ln : Rw) (pr : Rw) (lb : Rw) (mk : Rw) (x8 : Int32) (x9 : Int32) (z0 : Int32) (hF : j_L_acts_30 p7 x g k ln pr lb mk x8 x9 z0 = some R) (H : Heap) (locs : List Loc) (ls : Array Slot) (hP : va_P Z.1 vwCl (List.flatten [w_SP Z mm u x, w_Arr Z.2.1 2 ag g, w_Arr Z.2.1 41 ak k, w_Arr Z.2.1 41 al ln, w_Arr Z.2.1 41 ap pr, w_Arr Z.2.1 41 ab lb, w_Arr Z.2.1 41 am mk]) H) (hD : va_D A (List.flatten [w_SP Z mm u x, w_Arr Z.2.1 2 ag g, w_Arr Z.2.1 41 ak k, w_Arr Z.2.1 41 al ln, w_Arr Z.2.1 41 ap pr, w_Arr Z.2.1 41 ab lb, w_Arr Z.2.1 41 am mk])) (hS : va_S A s.heap H locs) (hl : lv_has ls 21 [(0, .ref mm), (1, .ref ag), (2, .ref ak), (3, .ref al), (4, .ref ap), (5, .ref ab), (6, .ref am), (7, .int p7), (8, .int x8), (9, .int x9)]), W p l e rm_L_acts s m ([.ref mm, .ref ag, .ref ak, .ref al, .ref ap, .ref ab, .ref am, .int p7] : List Value).toArray below meth c H locs 0 0 Q (F0 m 30 ls [.int z0]) := by
    intro x g k ln pr lb mk x8 x9 z0 hF H locs ls hP hD hS hl
    unfold j_L_acts_30 at hF
    refine lv_istore (lv' := [(10, .int z0), (0, .ref mm), (1, .ref ag), (2, .ref ak), (3, .ref al), (4, .ref ap), (5, .ref ab), (6, .ref am), (7, .int p7), (8, .int x8), (9, .int x9)]) hx hb (z_d hL_acts_0 17 rfl) hl (by decide) rfl (fun ls hl => ?_)
    refine lv_iload hx hb (z_d hL_acts_0 18 rfl) (lv_at hl 8 rfl) ?_
    refine lv_bipush (v := 16) hx hb (z_d hL_acts_0 19 rfl) (by decide) ?_
    refine z_bnd hF (fun q5 hq5 hF => ?_)
    refine z_ro_i (z_rS (As := [.int p7, .int 16]) (rest := []) hx hb hml hown hts vs_L_low (c_L_low l Z p7 16 _ hq5) rfl rfl ⟨Nat.le_of_ble_eq_true rfl, Nat.le_of_ble_eq_true rfl⟩ k_m_L_40 zPro_blind (z_prec hK zP_nil) rfl hl.1 (Nat.le_of_ble_eq_true rfl) (z_d hL_acts_0 20 rfl) ⟨Nat.le_of_ble_eq_true rfl, Nat.le_of_ble_eq_true rfl⟩) hS hP (fun H locs hP hS => ?_)
    refine lv_istore (lv' := [(11, .int q5), (10, .int z0), (0, .ref mm), (1, .ref ag), (2, .ref ak), (3, .ref al), (4, .ref ap), (5, .ref ab), (6, .ref am), (7, .int p7), (8, .int x8), (9, .int x9)]) hx hb (z_d hL_acts_0 21 rfl) hl (by decide) rfl (fun ls hl => ?_)
    refine lv_iload hx hb (z_d hL_acts_0 22 rfl) (lv_at hl 11 rfl) ?_
    refine lv_iconst (v := 3) hx hb (z_d hL_acts_0 23 rfl) (by decide) ?_
    refine lv_icmp_lt (tgt := 54) hx hb (z_d hL_acts_0 24 rfl) (by decide) (fun hc44 => ?_) (fun hc44 => ?_)
    · have hF := z_pos hc44 hF
      exact J54 x g k ln pr lb mk x8 x9 hF _ _ ls hP hD hS (lv_sub hl [2, 3, 4, 5, 6, 7, 8, 9, 10, 11] rfl)
    · have hF := z_neg hc44 hF
      refine lv_iload hx hb (z_d hL_acts_0 25 rfl) (lv_at hl 0 rfl) ?_
      refine lv_bipush (v := 7) hx hb (z_d hL_acts_0 26 rfl) (by decide) ?_
      refine lv_icmp_ge (tgt := 390) hx hb (z_d hL_acts_0 27 rfl) (by decide) (fun hc51 => ?_) (fun hc51 => ?_)
      · have hF := z_pos hc51 hF
        refine lv_iload hx hb (z_d hL_acts_3 38 rfl) (lv_at hl 0 rfl) ?_
        by_cases hs392_7 : q5 = 7
        · have hF := z_pos hs392_7 hF
          refine lv_tableIn (off := 44) (tgt := 436) hx hb (z_d hL_acts_3 39 rfl) (by rw [hs392_7]; decide) (by rw [hs392_7]; decide) (by rw [hs392_7]; first | done | rfl) (by decide) ?_
          refine lv_aload_n hx hb (z_d hL_acts_3 40 rfl) rfl (lv_at hl 4 rfl) ?_
          refine lv_iload hx hb (z_d hL_acts_3 41 rfl) (lv_at hl 1 rfl) ?_
          refine z_bnd hF (fun q50 hq50 hF => ?_)
          refine z_ro_i (z_rS (As := [.ref ak, .int z0]) (rest := []) hx hb hml hown hts vs_L_heads (c_L_heads l Z ak k z0 _ hq50) rfl rfl ⟨Nat.le_of_ble_eq_true rfl, Nat.le_of_ble_eq_true rfl⟩ k_m_L_9 zPro_blind (z_prec hK (zP_c (zP_reg hP 2 rfl) zP_n)) rfl hl.1 (Nat.le_of_ble_eq_true rfl) (z_d hL_acts_3 42 rfl) ⟨Nat.le_of_ble_eq_true rfl, Nat.le_of_ble_eq_true rfl⟩) hS hP (fun H locs hP hS => ?_)
          refine lv_if_eq (tgt := 470) hx hb (z_d hL_acts_3 43 rfl) (by decide) (fun hc442 => ?_) (fun hc442 => ?_)
          · have hF := z_pos hc442 hF
            exact J470 x g k ln pr lb mk z0 hF _ _ ls hP hD hS (lv_sub hl [2, 3, 4, 5, 6, 7, 8, 9, 1] rfl)
          · have hF := z_neg hc442 hF
            refine lv_aload hx hb (z_d hL_acts_3 44 rfl) (lv_at hl 7 rfl) ?_
            refine lv_iload hx hb (z_d hL_acts_3 45 rfl) (lv_at hl 1 rfl) ?_
            refine z_ix hF (fun hin hF => ?_)
            refine va_iald (D := Z.1) (f := lb) hx hb hK.1 (zP_reg hP 5 rfl) 0 0 rfl rfl hin (z_d hL_acts_3 46 rfl) ?_
            refine z_let hF (fun u54 hu54 hF => ?_)
            refine lv_topE hu54 ?_
            refine lv_if_lt (tgt := 470) hx hb (z_d hL_acts_3 47 rfl) (by decide) (fun hc450 => ?_) (fun hc450 => ?_)
            · have hF := z_pos hc450 hF
              exact J470 x g k ln pr lb mk z0 hF _ _ ls hP hD hS (lv_sub hl [2, 3, 4, 5, 6, 7, 8, 9, 1] rfl)
            · have hF := z_neg hc450 hF
              refine lv_aload_n hx hb (z_d hL_acts_3 48 rfl) rfl (lv_at hl 2 rfl) ?_
              refine lv_iload hx hb (z_d hL_acts_3 49 rfl) (lv_at hl 1 rfl) ?_
              refine z_bnd hF (fun q55 hq55 hF => ?_)
              refine z_muN (L := [w_SP Z mm u x, w_Arr Z.2.1 2 ag g, w_Arr Z.2.1 41 ak k, w_Arr Z.2.1 41 al ln, w_Arr Z.2.1 41 ap pr, w_Arr Z.2.1 41 ab lb, w_Arr Z.2.1 41 am mk]) (L' := [w_SP Z mm u q55.2, w_Arr Z.2.1 2 ag g, w_Arr Z.2.1 41 ak k, w_Arr Z.2.1 41 al ln, w_Arr Z.2.1 41 ap pr, w_Arr Z.2.1 41 ab lb, w_Arr Z.2.1 41 am mk]) [(0, w_SP Z mm u x, w_SP Z mm u q55.2)] (z_rL (As := [.ref mm, .int z0]) (rest := []) hx hb hml hown hts ht_L_drops (c_L_drops l hlt Z sa mm u x z0 _ hq55) rfl rfl ⟨Nat.le_of_ble_eq_true rfl, Nat.le_of_ble_eq_true rfl⟩ k_m_L_58 hK ((hT.kept hS.2.1).narrow (z_zA (zDq [(0, w_SP Z mm u x, w_SP Z mm u q55.2)] hD (List.forall_mem_cons.mpr ⟨⟨rfl, (adr_SP _ _ _ _ _)⟩, (fun _ h => absurd h List.not_mem_nil)⟩) (show List.Nodup [0] by decide)))) hN (zP_c (zP_reg hP 0 rfl) zP_n) (zDq [(0, w_SP Z mm u x, w_SP Z mm u q55.2)] hD (List.forall_mem_cons.mpr ⟨⟨rfl, (adr_SP _ _ _ _ _)⟩, (fun _ h => absurd h List.not_mem_nil)⟩) (show List.Nodup [0] by decide)) rfl hl.1 (Nat.le_of_ble_eq_true rfl) (z_d hL_acts_3 50 rfl) ⟨Nat.le_of_ble_eq_true rfl, Nat.le_of_ble_eq_true rfl⟩) hS hP hD (List.forall_mem_cons.mpr ⟨⟨rfl, (adr_SP _ _ _ _ _)⟩, (fun _ h => absurd h List.not_mem_nil)⟩) (show List.Nodup [0] by decide) rfl rfl rfl (fun H locs hP hD hS => ?_)
              refine W.eq (g2 := F0 m 459 ls [.int q55.1]) rfl ?_
              refine lv_ldc (v := (-100003)) hx hb hown (hts _ k_i_L_57) (z_d hL_acts_3 51 rfl) ?_
              refine lv_icmp_ne (tgt := 468) hx hb (z_d hL_acts_3 52 rfl) (by decide) (fun hc461 => ?_) (fun hc461 => ?_)
              · have hF := z_neg hc461 hF
                refine lv_iconst (v := 0) hx hb (z_d hL_acts_3 55 rfl) (by decide) ?_
                have hz9 : narrow .boolean (.int 0) = .int 0 := rfl
                obtain rfl := Option.some.inj hF
                subst hQ
                subst hA
                exact z_kretZ (L := [w_SP Z mm u q55.2, w_Arr Z.2.1 2 ag g, w_Arr Z.2.1 41 ak k, w_Arr Z.2.1 41 al ln, w_Arr Z.2.1 41 ap pr, w_Arr Z.2.1 41 ab lb, w_Arr Z.2.1 41 am mk]) (Lr := []) hx hb hr hlocks hz9 rfl hP hS (Nat.le_of_ble_eq_true rfl) (Nat.le_of_ble_eq_true rfl) (z_d hL_acts_3 56 rfl)
              · have hF := z_pos hc461 hF
                refine lv_iconst (v := 1) hx hb (z_d hL_acts_3 53 rfl) (by decide) ?_
                refine lv_goto (tgt := 469) hx hb (z_d hL_acts_3 54 rfl) (by decide) ?_
                have hz9 : narrow .boolean (.int 1) = .int 1 := rfl
                obtain rfl := Option.some.inj hF
                subst hQ
                subst hA
                exact z_kretZ (L := [w_SP Z mm u q55.2, w_Arr Z.2.1 2 ag g, w_Arr Z.2.1 41 ak k, w_Arr Z.2.1 41 al ln, w_Arr Z.2.1 41 ap pr, w_Arr Z.2.1 41 ab lb, w_Arr Z.2.1 41 am mk]) (Lr := []) hx hb hr hlocks hz9 rfl hP hS (Nat.le_of_ble_eq_true rfl) (Nat.le_of_ble_eq_true rfl) (z_d hL_acts_3 56 rfl)
        have hF := z_neg hs392_7 hF
        by_cases hs392_8 : q5 = 8
        · have hF := z_pos hs392_8 hF
          refine lv_tableIn (off := 44) (tgt := 436) hx hb (z_d hL_acts_3 39 rfl) (by rw [hs392_8]; decide) (by rw [hs392_8]; decide) (by rw [hs392_8]; first | done | rfl) (by decide) ?_
          refine lv_aload_n hx hb (z_d hL_acts_3 40 rfl) rfl (lv_at hl 4 rfl) ?_
          refine lv_iload hx hb (z_d hL_acts_3 41 rfl) (lv_at hl 1 rfl) ?_
          refine z_bnd hF (fun q56 hq56 hF => ?_)
          refine z_ro_i (z_rS (As := [.ref ak, .int z0]) (rest := []) hx hb hml hown hts vs_L_heads (c_L_heads l Z ak k z0 _ hq56) rfl rfl ⟨Nat.le_of_ble_eq_true rfl, Nat.le_of_ble_eq_true rfl⟩ k_m_L_9 zPro_blind (z_prec hK (zP_c (zP_reg hP 2 rfl) zP_n)) rfl hl.1 (Nat.le_of_ble_eq_true rfl) (z_d hL_acts_3 42 rfl) ⟨Nat.le_of_ble_eq_true rfl, Nat.le_of_ble_eq_true rfl⟩) hS hP (fun H locs hP hS => ?_)
          refine lv_if_eq (tgt := 470) hx hb (z_d hL_acts_3 43 rfl) (by decide) (fun hc442 => ?_) (fun hc442 => ?_)
          · have hF := z_pos hc442 hF
            exact J470 x g k ln pr lb mk z0 hF _ _ ls hP hD hS (lv_sub hl [2, 3, 4, 5, 6, 7, 8, 9, 1] rfl)
          · have hF := z_neg hc442 hF
            refine lv_aload hx hb (z_d hL_acts_3 44 rfl) (lv_at hl 7 rfl) ?_
            refine lv_iload hx hb (z_d hL_acts_3 45 rfl) (lv_at hl 1 rfl) ?_
            refine z_ix hF (fun hin hF => ?_)
            refine va_iald (D := Z.1) (f := lb) hx hb hK.1 (zP_reg hP 5 rfl) 0 0 rfl rfl hin (z_d hL_acts_3 46 rfl) ?_
            refine z_let hF (fun u57 hu57 hF => ?_)
            refine lv_topE hu57 ?_
            refine lv_if_lt (tgt := 470) hx hb (z_d hL_acts_3 47 rfl) (by decide) (fun hc450 => ?_) (fun hc450 => ?_)
            · have hF := z_pos hc450 hF
              exact J470 x g k ln pr lb mk z0 hF _ _ ls hP hD hS (lv_sub hl [2, 3, 4, 5, 6, 7, 8, 9, 1] rfl)
            · have hF := z_neg hc450 hF
              refine lv_aload_n hx hb (z_d hL_acts_3 48 rfl) rfl (lv_at hl 2 rfl) ?_
              refine lv_iload hx hb (z_d hL_acts_3 49 rfl) (lv_at hl 1 rfl) ?_
              refine z_bnd hF (fun q58 hq58 hF => ?_)
              refine z_muN (L := [w_SP Z mm u x, w_Arr Z.2.1 2 ag g, w_Arr Z.2.1 41 ak k, w_Arr Z.2.1 41 al ln, w_Arr Z.2.1 41 ap pr, w_Arr Z.2.1 41 ab lb, w_Arr Z.2.1 41 am mk]) (L' := [w_SP Z mm u q58.2, w_Arr Z.2.1 2 ag g, w_Arr Z.2.1 41 ak k, w_Arr Z.2.1 41 al ln, w_Arr Z.2.1 41 ap pr, w_Arr Z.2.1 41 ab lb, w_Arr Z.2.1 41 am mk]) [(0, w_SP Z mm u x, w_SP Z mm u q58.2)] (z_rL (As := [.ref mm, .int z0]) (rest := []) hx hb hml hown hts ht_L_drops (c_L_drops l hlt Z sa mm u x z0 _ hq58) rfl rfl ⟨Nat.le_of_ble_eq_true rfl, Nat.le_of_ble_eq_true rfl⟩ k_m_L_58 hK ((hT.kept hS.2.1).narrow (z_zA (zDq [(0, w_SP Z mm u x, w_SP Z mm u q58.2)] hD (List.forall_mem_cons.mpr ⟨⟨rfl, (adr_SP _ _ _ _ _)⟩, (fun _ h => absurd h List.not_mem_nil)⟩) (show List.Nodup [0] by decide)))) hN (zP_c (zP_reg hP 0 rfl) zP_n) (zDq [(0, w_SP Z mm u x, w_SP Z mm u q58.2)] hD (List.forall_mem_cons.mpr ⟨⟨rfl, (adr_SP _ _ _ _ _)⟩, (fun _ h => absurd h List.not_mem_nil)⟩) (show List.Nodup [0] by decide)) rfl hl.1 (Nat.le_of_ble_eq_true rfl) (z_d hL_acts_3 50 rfl) ⟨Nat.le_of_ble_eq_true rfl, Nat.le_of_ble_eq_true rfl⟩) hS hP hD (List.forall_mem_cons.mpr ⟨⟨rfl, (adr_SP _ _ _ _ _)⟩, (fun _ h => absurd h List.not_mem_nil)⟩) (show List.Nodup [0] by decide) rfl rfl rfl (fun H locs hP hD hS => ?_)
              refine W.eq (g2 := F0 m 459 ls [.int q58.1]) rfl ?_
              refine lv_ldc (v := (-100003)) hx hb hown (hts _ k_i_L_57) (z_d hL_acts_3 51 rfl) ?_
              refine lv_icmp_ne (tgt := 468) hx hb (z_d hL_acts_3 52 rfl) (by decide) (fun hc461 => ?_) (fun hc461 => ?_)
              · have hF := z_neg hc461 hF
                refine lv_iconst (v := 0) hx hb (z_d hL_acts_3 55 rfl) (by decide) ?_
                have hz9 : narrow .boolean (.int 0) = .int 0 := rfl
                obtain rfl := Option.some.inj hF
                subst hQ
                subst hA
                exact z_kretZ (L := [w_SP Z mm u q58.2, w_Arr Z.2.1 2 ag g, w_Arr Z.2.1 41 ak k, w_Arr Z.2.1 41 al ln, w_Arr Z.2.1 41 ap pr, w_Arr Z.2.1 41 ab lb, w_Arr Z.2.1 41 am mk]) (Lr := []) hx hb hr hlocks hz9 rfl hP hS (Nat.le_of_ble_eq_true rfl) (Nat.le_of_ble_eq_true rfl) (z_d hL_acts_3 56 rfl)
              · have hF := z_pos hc461 hF
                refine lv_iconst (v := 1) hx hb (z_d hL_acts_3 53 rfl) (by decide) ?_
                refine lv_goto (tgt := 469) hx hb (z_d hL_acts_3 54 rfl) (by decide) ?_
                have hz9 : narrow .boolean (.int 1) = .int 1 := rfl
                obtain rfl := Option.some.inj hF
                subst hQ
                subst hA
                exact z_kretZ (L := [w_SP Z mm u q58.2, w_Arr Z.2.1 2 ag g, w_Arr Z.2.1 41 ak k, w_Arr Z.2.1 41 al ln, w_Arr Z.2.1 41 ap pr, w_Arr Z.2.1 41 ab lb, w_Arr Z.2.1 41 am mk]) (Lr := []) hx hb hr hlocks hz9 rfl hP hS (Nat.le_of_ble_eq_true rfl) (Nat.le_of_ble_eq_true rfl) (z_d hL_acts_3 56 rfl)
        have hF := z_neg hs392_8 hF
        by_cases hs392_9 : q5 = 9
        · have hF := z_pos hs392_9 hF
          refine lv_tableIn (off := 110) (tgt := 502) hx hb (z_d hL_acts_3 39 rfl) (by rw [hs392_9]; decide) (by rw [hs392_9]; decide) (by rw [hs392_9]; first | done | rfl) (by decide) ?_
          refine lv_aload_n hx hb (z_d hL_acts_4 16 rfl) rfl (lv_at hl 5 rfl) ?_
          refine lv_iload hx hb (z_d hL_acts_4 17 rfl) (lv_at hl 1 rfl) ?_
          refine lv_iload hx hb (z_d hL_acts_4 18 rfl) (lv_at hl 10 rfl) ?_
          refine lv_iconst (v := 3) hx hb (z_d hL_acts_4 19 rfl) (by decide) ?_
          refine lv_irem hx hb (z_d hL_acts_4 20 rfl) (by decide) ?_
          refine z_let hF (fun u59 hu59 hF => ?_)
          refine lv_topE hu59 ?_
          refine lv_if_ne (tgt := 526) hx hb (z_d hL_acts_4 21 rfl) (by decide) (fun hc509 => ?_) (fun hc509 => ?_)
          · have hF := z_neg hc509 hF
            refine lv_iconst (v := 1) hx hb (z_d hL_acts_4 30 rfl) (by decide) ?_
            refine lv_iload hx hb (z_d hL_acts_4 31 rfl) (lv_at hl 10 rfl) ?_
            refine lv_bipush (v := 41) hx hb (z_d hL_acts_4 32 rfl) (by decide) ?_
            refine lv_idiv hx hb (z_d hL_acts_4 33 rfl) (by decide) ?_
            refine z_let hF (fun u60 hu60 hF => ?_)
            refine lv_topE hu60 ?_
            refine lv_sipush (v := 130) hx hb (z_d hL_acts_4 34 rfl) (by decide) ?_
            refine lv_irem hx hb (z_d hL_acts_4 35 rfl) (by decide) ?_
            refine z_let hF (fun u61 hu61 hF => ?_)
            refine lv_topE hu61 ?_
            refine lv_iadd hx hb (z_d hL_acts_4 36 rfl) ?_
            refine z_let hF (fun u62 hu62 hF => ?_)
            refine lv_topE hu62 ?_
            exact J537 x g k ln pr lb mk z0 u62 z0 hF _ _ ls hP hD hS (lv_sub hl [2, 3, 4, 5, 6, 7, 8, 9, 1] rfl)
          · have hF := z_pos hc509 hF
            refine lv_iconst (v := 1) hx hb (z_d hL_acts_4 22 rfl) (by decide) ?_
            refine lv_iload hx hb (z_d hL_acts_4 23 rfl) (lv_at hl 10 rfl) ?_
            refine lv_bipush (v := 41) hx hb (z_d hL_acts_4 24 rfl) (by decide) ?_
            refine lv_idiv hx hb (z_d hL_acts_4 25 rfl) (by decide) ?_
            refine z_let hF (fun u67 hu67 hF => ?_)
            refine lv_topE hu67 ?_
            refine lv_sipush (v := 400) hx hb (z_d hL_acts_4 26 rfl) (by decide) ?_
            refine lv_irem hx hb (z_d hL_acts_4 27 rfl) (by decide) ?_
            refine z_let hF (fun u68 hu68 hF => ?_)
            refine lv_topE hu68 ?_
            refine lv_iadd hx hb (z_d hL_acts_4 28 rfl) ?_
            refine z_let hF (fun u69 hu69 hF => ?_)
            refine lv_topE hu69 ?_
            refine lv_goto (tgt := 537) hx hb (z_d hL_acts_4 29 rfl) (by decide) ?_
            exact J537 x g k ln pr lb mk z0 u69 z0 hF _ _ ls hP hD hS (lv_sub hl [2, 3, 4, 5, 6, 7, 8, 9, 1] rfl)
        have hF := z_neg hs392_9 hF
        by_cases hs392_10 : q5 = 10
        · have hF := z_pos hs392_10 hF
          refine lv_tableIn (off := 110) (tgt := 502) hx hb (z_d hL_acts_3 39 rfl) (by rw [hs392_10]; decide) (by rw [hs392_10]; decide) (by rw [hs392_10]; first | done | rfl) (by decide) ?_
          refine lv_aload_n hx hb (z_d hL_acts_4 16 rfl) rfl (lv_at hl 5 rfl) ?_
          refine lv_iload hx hb (z_d hL_acts_4 17 rfl) (lv_at hl 1 rfl) ?_
          refine lv_iload hx hb (z_d hL_acts_4 18 rfl) (lv_at hl 10 rfl) ?_
          refine lv_iconst (v := 3) hx hb (z_d hL_acts_4 19 rfl) (by decide) ?_
          refine lv_irem hx hb (z_d hL_acts_4 20 rfl) (by decide) ?_
          refine z_let hF (fun u70 hu70 hF => ?_)
          refine lv_topE hu70 ?_
          refine lv_if_ne (tgt := 526) hx hb (z_d hL_acts_4 21 rfl) (by decide) (fun hc509 => ?_) (fun hc509 => ?_)
          · have hF := z_neg hc509 hF
            refine lv_iconst (v := 1) hx hb (z_d hL_acts_4 30 rfl) (by decide) ?_
            refine lv_iload hx hb (z_d hL_acts_4 31 rfl) (lv_at hl 10 rfl) ?_
            refine lv_bipush (v := 41) hx hb (z_d hL_acts_4 32 rfl) (by decide) ?_
            refine lv_idiv hx hb (z_d hL_acts_4 33 rfl) (by decide) ?_
            refine z_let hF (fun u71 hu71 hF => ?_)
            refine lv_topE hu71 ?_
            refine lv_sipush (v := 130) hx hb (z_d hL_acts_4 34 rfl) (by decide) ?_
            refine lv_irem hx hb (z_d hL_acts_4 35 rfl) (by decide) ?_
            refine z_let hF (fun u72 hu72 hF => ?_)
            refine lv_topE hu72 ?_
            refine lv_iadd hx hb (z_d hL_acts_4 36 rfl) ?_
            refine z_let hF (fun u73 hu73 hF => ?_)
            refine lv_topE hu73 ?_
            exact J537 x g k ln pr lb mk z0 u73 z0 hF _ _ ls hP hD hS (lv_sub hl [2, 3, 4, 5, 6, 7, 8, 9, 1] rfl)
          · have hF := z_pos hc509 hF
            refine lv_iconst (v := 1) hx hb (z_d hL_acts_4 22 rfl) (by decide) ?_
            refine lv_iload hx hb (z_d hL_acts_4 23 rfl) (lv_at hl 10 rfl) ?_
            refine lv_bipush (v := 41) hx hb (z_d hL_acts_4 24 rfl) (by decide) ?_
            refine lv_idiv hx hb (z_d hL_acts_4 25 rfl) (by decide) ?_
            refine z_let hF (fun u74 hu74 hF => ?_)
            refine lv_topE hu74 ?_
            refine lv_sipush (v := 400) hx hb (z_d hL_acts_4 26 rfl) (by decide) ?_
            refine lv_irem hx hb (z_d hL_acts_4 27 rfl) (by decide) ?_
            refine z_let hF (fun u75 hu75 hF => ?_)
            refine lv_topE hu75 ?_
            refine lv_iadd hx hb (z_d hL_acts_4 28 rfl) ?_
            refine z_let hF (fun u76 hu76 hF => ?_)
            refine lv_topE hu76 ?_
            refine lv_goto (tgt := 537) hx hb (z_d hL_acts_4 29 rfl) (by decide) ?_
            exact J537 x g k ln pr lb mk z0 u76 z0 hF _ _ ls hP hD hS (lv_sub hl [2, 3, 4, 5, 6, 7, 8, 9, 1] rfl)
        have hF := z_neg hs392_10 hF
        by_cases hs392_11 : q5 = 11
        · have hF := z_pos hs392_11 hF
          refine lv_tableIn (off := 172) (tgt := 564) hx hb (z_d hL_acts_3 39 rfl) (by rw [hs392_11]; decide) (by rw [hs392_11]; decide) (by rw [hs392_11]; first | done | rfl) (by decide) ?_
          refine lv_aload_n hx hb (z_d hL_acts_4 53 rfl) rfl (lv_at hl 3 rfl) ?_
          refine lv_iconst (v := 1) hx hb (z_d hL_acts_4 54 rfl) (by decide) ?_
          refine z_ix hF (fun hin hF => ?_)
          refine va_iald (D := Z.1) (f := g) hx hb hK.1 (zP_reg hP 1 rfl) 0 0 rfl rfl hin (z_d hL_acts_4 55 rfl) ?_
          refine z_let hF (fun u77 hu77 hF => ?_)
          refine lv_topE hu77 ?_
          refine lv_istore (lv' := [(12, .int u77), (11, .int q5), (10, .int z0), (0, .ref mm), (1, .ref ag), (2, .ref ak), (3, .ref al), (4, .ref ap), (5, .ref ab), (6, .ref am), (7, .int p7), (8, .int x8), (9, .int x9)]) hx hb (z_d hL_acts_4 56 rfl) hl (by decide) rfl (fun ls hl => ?_)
          refine lv_aload_n hx hb (z_d hL_acts_4 57 rfl) rfl (lv_at hl 4 rfl) ?_
          refine lv_iconst (v := 1) hx hb (z_d hL_acts_4 58 rfl) (by decide) ?_
          refine lv_iload hx hb (z_d hL_acts_4 59 rfl) (lv_at hl 11 rfl) ?_
          refine lv_iconst (v := 2) hx hb (z_d hL_acts_5 0 rfl) (by decide) ?_
          refine lv_irem hx hb (z_d hL_acts_5 1 rfl) (by decide) ?_
          refine z_let hF (fun u78 hu78 hF => ?_)
          refine lv_topE hu78 ?_
          refine lv_if_ne (tgt := 583) hx hb (z_d hL_acts_5 2 rfl) (by decide) (fun hc575 => ?_) (fun hc575 => ?_)
          · have hF := z_neg hc575 hF
            refine lv_bipush (v := 20) hx hb (z_d hL_acts_5 5 rfl) (by decide) ?_
            refine lv_iload hx hb (z_d hL_acts_5 6 rfl) (lv_at hl 11 rfl) ?_
            refine lv_iconst (v := 2) hx hb (z_d hL_acts_5 7 rfl) (by decide) ?_
            refine lv_idiv hx hb (z_d hL_acts_5 8 rfl) (by decide) ?_
            refine z_let hF (fun u79 hu79 hF => ?_)
            refine lv_topE hu79 ?_
            refine lv_bipush (v := 41) hx hb (z_d hL_acts_5 9 rfl) (by decide) ?_
            refine lv_irem hx hb (z_d hL_acts_5 10 rfl) (by decide) ?_
            refine z_let hF (fun u80 hu80 hF => ?_)
            refine lv_topE hu80 ?_
            refine lv_iadd hx hb (z_d hL_acts_5 11 rfl) ?_
            refine z_let hF (fun u81 hu81 hF => ?_)
            refine lv_topE hu81 ?_
            exact J593 x g k ln pr lb mk u77 u81 1 hF _ _ ls hP hD hS (lv_sub hl [3, 4, 5, 6, 7, 8, 9, 10, 0] rfl)
          · have hF := z_pos hc575 hF
            refine lv_bipush (v := 20) hx hb (z_d hL_acts_5 3 rfl) (by decide) ?_
            refine lv_goto (tgt := 593) hx hb (z_d hL_acts_5 4 rfl) (by decide) ?_
            exact J593 x g k ln pr lb mk u77 20 1 hF _ _ ls hP hD hS (lv_sub hl [3, 4, 5, 6, 7, 8, 9, 10, 0] rfl)
        have hF := z_neg hs392_11 hF
        by_cases hs392_12 : q5 = 12
        · have hF := z_pos hs392_12 hF
          refine lv_tableIn (off := 220) (tgt := 612) hx hb (z_d hL_acts_3 39 rfl) (by rw [hs392_12]; decide) (by rw [hs392_12]; decide) (by rw [hs392_12]; first | done | rfl) (by decide) ?_
          refine lv_bipush (v := 41) hx hb (z_d hL_acts_5 24 rfl) (by decide) ?_
          refine z_newarr (Z := Z) (L := [w_SP Z mm u x, w_Arr Z.2.1 2 ag g, w_Arr Z.2.1 41 ak k, w_Arr Z.2.1 41 al ln, w_Arr Z.2.1 41 ap pr, w_Arr Z.2.1 41 ab lb, w_Arr Z.2.1 41 am mk]) (N' := 41) hx hb (hts _ k_a_int) hK hP hD hS hA0 (by decide) (by decide) (Nat.le_of_ble_eq_true rfl) (Nat.le_of_ble_eq_true rfl) (Nat.le_of_ble_eq_true rfl) (z_d hL_acts_5 25 rfl) (fun a91 H hP hD hS => ?_)
          have hP : va_P Z.1 vwCl (List.flatten [w_SP Z mm u x, w_Arr Z.2.1 2 ag g, w_Arr Z.2.1 41 ak k, w_Arr Z.2.1 41 al ln, w_Arr Z.2.1 41 ap pr, w_Arr Z.2.1 41 ab lb, w_Arr Z.2.1 41 am mk, w_Arr Z.2.1 41 a91 z0R]) H := hP
          have hD : va_D A (List.flatten [w_SP Z mm u x, w_Arr Z.2.1 2 ag g, w_Arr Z.2.1 41 ak k, w_Arr Z.2.1 41 al ln, w_Arr Z.2.1 41 ap pr, w_Arr Z.2.1 41 ab lb, w_Arr Z.2.1 41 am mk, w_Arr Z.2.1 41 a91 z0R]) := hD
          refine W.eq (g2 := F0 m 616 ls [.ref a91]) rfl ?_
          refine lv_astore (lv' := [(13, .ref a91), (11, .int q5), (10, .int z0), (0, .ref mm), (1, .ref ag), (2, .ref ak), (3, .ref al), (4, .ref ap), (5, .ref ab), (6, .ref am), (7, .int p7), (8, .int x8), (9, .int x9)]) hx hb (z_d hL_acts_5 26 rfl) hl (by decide) rfl (fun ls hl => ?_)
          refine lv_iconst (v := 0) hx hb (z_d hL_acts_5 27 rfl) (by decide) ?_
          refine lv_istore (lv' := [(14, .int 0), (13, .ref a91), (11, .int q5), (10, .int z0), (0, .ref mm), (1, .ref ag), (2, .ref ak), (3, .ref al), (4, .ref ap), (5, .ref ab), (6, .ref am), (7, .int p7), (8, .int x8), (9, .int x9)]) hx hb (z_d hL_acts_5 28 rfl) hl (by decide) rfl (fun ls hl => ?_)
          refine lv_aload_n hx hb (z_d hL_acts_5 29 rfl) rfl (lv_at hl 5 rfl) ?_
          refine lv_aload_n hx hb (z_d hL_acts_5 30 rfl) rfl (lv_at hl 6 rfl) ?_
          refine lv_aload hx hb (z_d hL_acts_5 31 rfl) (lv_at hl 9 rfl) ?_
          refine lv_aload hx hb (z_d hL_acts_5 32 rfl) (lv_at hl 1 rfl) ?_
          refine z_bnd hF (fun q85 hq85 hF => ?_)
          refine z_muN (L := [w_SP Z mm u x, w_Arr Z.2.1 2 ag g, w_Arr Z.2.1 41 ak k, w_Arr Z.2.1 41 al ln, w_Arr Z.2.1 41 ap pr, w_Arr Z.2.1 41 ab lb, w_Arr Z.2.1 41 am mk, w_Arr Z.2.1 41 a91 z0R]) (L' := [w_SP Z mm u x, w_Arr Z.2.1 2 ag g, w_Arr Z.2.1 41 ak k, w_Arr Z.2.1 41 al ln, w_Arr Z.2.1 41 ap pr, w_Arr Z.2.1 41 ab lb, w_Arr Z.2.1 41 am mk, w_Arr Z.2.1 41 a91 q85]) [(1, w_Arr Z.2.1 2 ag g, w_Arr Z.2.1 2 ag g), (2, w_Arr Z.2.1 41 ak k, w_Arr Z.2.1 41 ak k), (5, w_Arr Z.2.1 41 ab lb, w_Arr Z.2.1 41 ab lb), (7, w_Arr Z.2.1 41 a91 z0R, w_Arr Z.2.1 41 a91 q85)] (z_rS (As := [.ref ag, .ref ak, .ref ab, .ref a91]) (rest := []) hx hb hml hown hts vs_L_labels (c_L_labels l Z ag ak ab a91 g k lb z0R _ hq85) rfl rfl ⟨Nat.le_of_ble_eq_true rfl, Nat.le_of_ble_eq_true rfl⟩ k_m_L_15 zPmu_blind (z_prem hK (zP_c (zP_reg hP 1 rfl) (zP_c (zP_reg hP 2 rfl) (zP_c (zP_reg hP 5 rfl) (zP_c (zP_reg hP 7 rfl) zP_n)))) (zDq [(1, w_Arr Z.2.1 2 ag g, w_Arr Z.2.1 2 ag g), (2, w_Arr Z.2.1 41 ak k, w_Arr Z.2.1 41 ak k), (5, w_Arr Z.2.1 41 ab lb, w_Arr Z.2.1 41 ab lb), (7, w_Arr Z.2.1 41 a91 z0R, w_Arr Z.2.1 41 a91 q85)] hD (List.forall_mem_cons.mpr ⟨⟨rfl, rfl⟩, (List.forall_mem_cons.mpr ⟨⟨rfl, rfl⟩, (List.forall_mem_cons.mpr ⟨⟨rfl, rfl⟩, (List.forall_mem_cons.mpr ⟨⟨rfl, rfl⟩, (fun _ h => absurd h List.not_mem_nil)⟩)⟩)⟩)⟩) (show List.Nodup [1, 2, 5, 7] by decide))) rfl hl.1 (Nat.le_of_ble_eq_true rfl) (z_d hL_acts_5 33 rfl) ⟨Nat.le_of_ble_eq_true rfl, Nat.le_of_ble_eq_true rfl⟩) hS hP hD (List.forall_mem_cons.mpr ⟨⟨rfl, rfl⟩, (List.forall_mem_cons.mpr ⟨⟨rfl, rfl⟩, (List.forall_mem_cons.mpr ⟨⟨rfl, rfl⟩, (List.forall_mem_cons.mpr ⟨⟨rfl, rfl⟩, (fun _ h => absurd h List.not_mem_nil)⟩)⟩)⟩)⟩) (show List.Nodup [1, 2, 5, 7] by decide) rfl rfl rfl (fun H locs hP hD hS => ?_)
          refine W.eq (g2 := F0 m 630 ls []) rfl ?_
          refine lv_iconst (v := 0) hx hb (z_d hL_acts_5 34 rfl) (by decide) ?_
          refine lv_istore (lv' := [(15, .int 0), (14, .int 0), (13, .ref a91), (11, .int q5), (10, .int z0), (0, .ref mm), (1, .ref ag), (2, .ref ak), (3, .ref al), (4, .ref ap), (5, .ref ab), (6, .ref am), (7, .int p7), (8, .int x8), (9, .int x9)]) hx hb (z_d hL_acts_5 35 rfl) hl (by decide) rfl (fun ls hl => ?_)
          refine z_bnd hF (fun q95 hq95 hF => ?_)
          refine L633 a91 x g k ln pr mk q85 x9 _ _ _ hq95 _ _ ls hP hD hS (lv_sub hl [5, 6, 7, 8, 9, 10, 11, 12, 14, 2, 1, 0] rfl) (fun H locs ls hP hD hS hl => ?_)
          refine lv_aload_n hx hb (z_d hL_acts_6 7 rfl) rfl (lv_at hl 0 rfl) ?_
          refine z_bnd hF (fun q96 hq96 hF => ?_)
          refine z_muN (L := [w_SP Z mm u x, w_Arr Z.2.1 2 ag g, w_Arr Z.2.1 41 ak k, w_Arr Z.2.1 41 al ln, w_Arr Z.2.1 41 ap pr, w_Arr Z.2.1 41 ab q95.1, w_Arr Z.2.1 41 am mk, w_Arr Z.2.1 41 a91 q85]) (L' := [w_SP Z mm u q96.2, w_Arr Z.2.1 2 ag g, w_Arr Z.2.1 41 ak k, w_Arr Z.2.1 41 al ln, w_Arr Z.2.1 41 ap pr, w_Arr Z.2.1 41 ab q95.1, w_Arr Z.2.1 41 am mk, w_Arr Z.2.1 41 a91 q85]) [(0, w_SP Z mm u x, w_SP Z mm u q96.2)] (z_rV (As := []) (rest := []) hx hb hml hown hts vt_X6_lockScenes (c_P_lockScenes l Z mm u x _ hq96) rfl rfl ⟨Nat.le_of_ble_eq_true rfl, Nat.le_of_ble_eq_true rfl⟩ k_m_L_73 zPmu_blind (z_recv (q := (RX6, TX6, 9)) (ci := 6) (q0 := 0) hK (zP_reg hP 0 rfl) rfl rfl) (z_prem hK (zP_c (zP_reg hP 0 rfl) zP_n) (zDq [(0, w_SP Z mm u x, w_SP Z mm u q96.2)] hD (List.forall_mem_cons.mpr ⟨⟨rfl, (adr_SP _ _ _ _ _)⟩, (fun _ h => absurd h List.not_mem_nil)⟩) (show List.Nodup [0] by decide))) rfl hl.1 (Nat.le_of_ble_eq_true rfl) (z_d hL_acts_6 8 rfl) ⟨Nat.le_of_ble_eq_true rfl, Nat.le_of_ble_eq_true rfl⟩) hS hP hD (List.forall_mem_cons.mpr ⟨⟨rfl, (adr_SP _ _ _ _ _)⟩, (fun _ h => absurd h List.not_mem_nil)⟩) (show List.Nodup [0] by decide) rfl rfl rfl (fun H locs hP hD hS => ?_)
          refine W.eq (g2 := F0 m 700 ls [.int q96.1]) rfl ?_
          refine lv_iload hx hb (z_d hL_acts_6 9 rfl) (lv_at hl 8 rfl) ?_
          refine lv_icmp_ne (tgt := 709) hx hb (z_d hL_acts_6 10 rfl) (by decide) (fun hc702 => ?_) (fun hc702 => ?_)
          · have hF := z_neg hc702 hF
            refine lv_iconst (v := 0) hx hb (z_d hL_acts_6 13 rfl) (by decide) ?_
            have hz9 : narrow .boolean (.int 0) = .int 0 := rfl
            obtain rfl := Option.some.inj hF
            subst hQ
            subst hA
            exact z_kretZ (L := [w_SP Z mm u q96.2, w_Arr Z.2.1 2 ag g, w_Arr Z.2.1 41 ak k, w_Arr Z.2.1 41 al ln, w_Arr Z.2.1 41 ap pr, w_Arr Z.2.1 41 ab q95.1, w_Arr Z.2.1 41 am mk]) (Lr := [w_Arr Z.2.1 41 a91 q85]) hx hb hr hlocks hz9 rfl hP hS (Nat.le_of_ble_eq_true rfl) (Nat.le_of_ble_eq_true rfl) (z_d hL_acts_6 14 rfl)
          · have hF := z_pos hc702 hF
            refine lv_iconst (v := 1) hx hb (z_d hL_acts_6 11 rfl) (by decide) ?_
            refine lv_goto (tgt := 710) hx hb (z_d hL_acts_6 12 rfl) (by decide) ?_
            have hz9 : narrow .boolean (.int 1) = .int 1 := rfl
            obtain rfl := Option.some.inj hF
            subst hQ
            subst hA
            exact z_kretZ (L := [w_SP Z mm u q96.2, w_Arr Z.2.1 2 ag g, w_Arr Z.2.1 41 ak k, w_Arr Z.2.1 41 al ln, w_Arr Z.2.1 41 ap pr, w_Arr Z.2.1 41 ab q95.1, w_Arr Z.2.1 41 am mk]) (Lr := [w_Arr Z.2.1 41 a91 q85]) hx hb hr hlocks hz9 rfl hP hS (Nat.le_of_ble_eq_true rfl) (Nat.le_of_ble_eq_true rfl) (z_d hL_acts_6 14 rfl)
        have hF := z_neg hs392_12 hF
        by_cases hs392_13 : q5 = 13
        · have hF := z_pos hs392_13 hF
          refine lv_tableIn (off := 319) (tgt := 711) hx hb (z_d hL_acts_3 39 rfl) (by rw [hs392_13]; decide) (by rw [hs392_13]; decide) (by rw [hs392_13]; first | done | rfl) (by decide) ?_
          refine lv_aload_n hx hb (z_d hL_acts_6 15 rfl) rfl (lv_at hl 2 rfl) ?_
          refine lv_aload_n hx hb (z_d hL_acts_6 16 rfl) rfl (lv_at hl 3 rfl) ?_
          refine lv_aload_n hx hb (z_d hL_acts_6 17 rfl) rfl (lv_at hl 4 rfl) ?_
          refine lv_aload_n hx hb (z_d hL_acts_6 18 rfl) rfl (lv_at hl 5 rfl) ?_
          refine lv_aload hx hb (z_d hL_acts_6 19 rfl) (lv_at hl 6 rfl) ?_
          refine lv_aload hx hb (z_d hL_acts_6 20 rfl) (lv_at hl 7 rfl) ?_
          refine lv_aload hx hb (z_d hL_acts_6 21 rfl) (lv_at hl 8 rfl) ?_
          refine lv_iload hx hb (z_d hL_acts_6 22 rfl) (lv_at hl 10 rfl) ?_
          refine z_bnd hF (fun q97 hq97 hF => ?_)
          refine z_kmN (L := [w_SP Z mm u x, w_Arr Z.2.1 2 ag g, w_Arr Z.2.1 41 ak k, w_Arr Z.2.1 41 al ln, w_Arr Z.2.1 41 ap pr, w_Arr Z.2.1 41 ab lb, w_Arr Z.2.1 41 am mk]) (L' := [w_SP Z mm u q97.2.1, w_Arr Z.2.1 2 ag q97.2.2.1, w_Arr Z.2.1 41 ak q97.2.2.2.1, w_Arr Z.2.1 41 al q97.2.2.2.2.1, w_Arr Z.2.1 41 ap q97.2.2.2.2.2.1, w_Arr Z.2.1 41 ab q97.2.2.2.2.2.2.1, w_Arr Z.2.1 41 am q97.2.2.2.2.2.2.2]) [(0, w_SP Z mm u x, w_SP Z mm u q97.2.1), (1, w_Arr Z.2.1 2 ag g, w_Arr Z.2.1 2 ag q97.2.2.1), (2, w_Arr Z.2.1 41 ak k, w_Arr Z.2.1 41 ak q97.2.2.2.1), (3, w_Arr Z.2.1 41 al ln, w_Arr Z.2.1 41 al q97.2.2.2.2.1), (4, w_Arr Z.2.1 41 ap pr, w_Arr Z.2.1 41 ap q97.2.2.2.2.2.1), (5, w_Arr Z.2.1 41 ab lb, w_Arr Z.2.1 41 ab q97.2.2.2.2.2.2.1), (6, w_Arr Z.2.1 41 am mk, w_Arr Z.2.1 41 am q97.2.2.2.2.2.2.2)] (z_rKM (As := [.ref mm, .ref ag, .ref ak, .ref al, .ref ap, .ref ab, .ref am, .int x8]) (rest := []) hx hb hml hown hts vs_L_omitted (c_L_omitted l hlt Z sa H.size mm u ag ak al ap ab am x g k ln pr lb mk x8 _ hq97) rfl rfl ⟨Nat.le_of_ble_eq_true rfl, Nat.le_of_ble_eq_true rfl⟩ k_m_L_79 hK ((hT.kept hS.2.1).narrow (zkA hS hA0 (zDq [(0, w_SP Z mm u x, w_SP Z mm u q97.2.1), (1, w_Arr Z.2.1 2 ag g, w_Arr Z.2.1 2 ag q97.2.2.1), (2, w_Arr Z.2.1 41 ak k, w_Arr Z.2.1 41 ak q97.2.2.2.1), (3, w_Arr Z.2.1 41 al ln, w_Arr Z.2.1 41 al q97.2.2.2.2.1), (4, w_Arr Z.2.1 41 ap pr, w_Arr Z.2.1 41 ap q97.2.2.2.2.2.1), (5, w_Arr Z.2.1 41 ab lb, w_Arr Z.2.1 41 ab q97.2.2.2.2.2.2.1), (6, w_Arr Z.2.1 41 am mk, w_Arr Z.2.1 41 am q97.2.2.2.2.2.2.2)] hD (List.forall_mem_cons.mpr ⟨⟨rfl, (adr_SP _ _ _ _ _)⟩, (List.forall_mem_cons.mpr ⟨⟨rfl, rfl⟩, (List.forall_mem_cons.mpr ⟨⟨rfl, rfl⟩, (List.forall_mem_cons.mpr ⟨⟨rfl, rfl⟩, (List.forall_mem_cons.mpr ⟨⟨rfl, rfl⟩, (List.forall_mem_cons.mpr ⟨⟨rfl, rfl⟩, (List.forall_mem_cons.mpr ⟨⟨rfl, rfl⟩, (fun _ h => absurd h List.not_mem_nil)⟩)⟩)⟩)⟩)⟩)⟩)⟩) (show List.Nodup [0, 1, 2, 3, 4, 5, 6] by decide)))) hN (zP_c (zP_reg hP 0 rfl) (zP_c (zP_reg hP 1 rfl) (zP_c (zP_reg hP 2 rfl) (zP_c (zP_reg hP 3 rfl) (zP_c (zP_reg hP 4 rfl) (zP_c (zP_reg hP 5 rfl) (zP_c (zP_reg hP 6 rfl) zP_n))))))) (zDq [(0, w_SP Z mm u x, w_SP Z mm u q97.2.1), (1, w_Arr Z.2.1 2 ag g, w_Arr Z.2.1 2 ag q97.2.2.1), (2, w_Arr Z.2.1 41 ak k, w_Arr Z.2.1 41 ak q97.2.2.2.1), (3, w_Arr Z.2.1 41 al ln, w_Arr Z.2.1 41 al q97.2.2.2.2.1), (4, w_Arr Z.2.1 41 ap pr, w_Arr Z.2.1 41 ap q97.2.2.2.2.2.1), (5, w_Arr Z.2.1 41 ab lb, w_Arr Z.2.1 41 ab q97.2.2.2.2.2.2.1), (6, w_Arr Z.2.1 41 am mk, w_Arr Z.2.1 41 am q97.2.2.2.2.2.2.2)] hD (List.forall_mem_cons.mpr ⟨⟨rfl, (adr_SP _ _ _ _ _)⟩, (List.forall_mem_cons.mpr ⟨⟨rfl, rfl⟩, (List.forall_mem_cons.mpr ⟨⟨rfl, rfl⟩, (List.forall_mem_cons.mpr ⟨⟨rfl, rfl⟩, (List.forall_mem_cons.mpr ⟨⟨rfl, rfl⟩, (List.forall_mem_cons.mpr ⟨⟨rfl, rfl⟩, (List.forall_mem_cons.mpr ⟨⟨rfl, rfl⟩, (fun _ h => absurd h List.not_mem_nil)⟩)⟩)⟩)⟩)⟩)⟩)⟩) (show List.Nodup [0, 1, 2, 3, 4, 5, 6] by decide)) rfl hl.1 (Nat.le_of_ble_eq_true rfl) (z_d hL_acts_6 23 rfl) ⟨Nat.le_of_ble_eq_true rfl, Nat.le_of_ble_eq_true rfl⟩) hS hA0 hP hD (List.forall_mem_cons.mpr ⟨⟨rfl, (adr_SP _ _ _ _ _)⟩, (List.forall_mem_cons.mpr ⟨⟨rfl, rfl⟩, (List.forall_mem_cons.mpr ⟨⟨rfl, rfl⟩, (List.forall_mem_cons.mpr ⟨⟨rfl, rfl⟩, (List.forall_mem_cons.mpr ⟨⟨rfl, rfl⟩, (List.forall_mem_cons.mpr ⟨⟨rfl, rfl⟩, (List.forall_mem_cons.mpr ⟨⟨rfl, rfl⟩, (fun _ h => absurd h List.not_mem_nil)⟩)⟩)⟩)⟩)⟩)⟩)⟩) (show List.Nodup [0, 1, 2, 3, 4, 5, 6] by decide) rfl rfl rfl (fun H locs hP hD hS => ?_)
          refine W.eq (g2 := F0 m 726 ls [.int q97.1]) rfl ?_
          refine z_bl hF (fun h9 hF => ?_)
          have hz9 := z_bool h9
          obtain rfl := Option.some.inj hF
          subst hQ
          subst hA
          exact z_kretZ (L := [w_SP Z mm u q97.2.1, w_Arr Z.2.1 2 ag q97.2.2.1, w_Arr Z.2.1 41 ak q97.2.2.2.1, w_Arr Z.2.1 41 al q97.2.2.2.2.1, w_Arr Z.2.1 41 ap q97.2.2.2.2.2.1, w_Arr Z.2.1 41 ab q97.2.2.2.2.2.2.1, w_Arr Z.2.1 41 am q97.2.2.2.2.2.2.2]) (Lr := []) hx hb hr hlocks hz9 rfl hP hS (Nat.le_of_ble_eq_true rfl) (Nat.le_of_ble_eq_true rfl) (z_d hL_acts_6 24 rfl)
        have hF := z_neg hs392_13 hF
        have n7 := lv_neT (a := 7) hs392_7 (by decide)
        have n8 := lv_neT (a := 8) hs392_8 (by decide)
        have n9 := lv_neT (a := 9) hs392_9 (by decide)
        have n10 := lv_neT (a := 10) hs392_10 (by decide)
        have n11 := lv_neT (a := 11) hs392_11 (by decide)
        have n12 := lv_neT (a := 12) hs392_12 (by decide)
        have n13 := lv_neT (a := 13) hs392_13 (by decide)
        refine lv_tableOut (tgt := 727) hx hb (z_d hL_acts_3 39 rfl) (by omega) (by decide) ?_
        refine lv_bipush (v := 41) hx hb (z_d hL_acts_6 25 rfl) (by decide) ?_
        refine z_newarr (Z := Z) (L := [w_SP Z mm u x, w_Arr Z.2.1 2 ag g, w_Arr Z.2.1 41 ak k, w_Arr Z.2.1 41 al ln, w_Arr Z.2.1 41 ap pr, w_Arr Z.2.1 41 ab lb, w_Arr Z.2.1 41 am mk]) (N' := 41) hx hb (hts _ k_a_int) hK hP hD hS hA0 (by decide) (by decide) (Nat.le_of_ble_eq_true rfl) (Nat.le_of_ble_eq_true rfl) (Nat.le_of_ble_eq_true rfl) (z_d hL_acts_6 26 rfl) (fun a92 H hP hD hS => ?_)
        have hP : va_P Z.1 vwCl (List.flatten [w_SP Z mm u x, w_Arr Z.2.1 2 ag g, w_Arr Z.2.1 41 ak k, w_Arr Z.2.1 41 al ln, w_Arr Z.2.1 41 ap pr, w_Arr Z.2.1 41 ab lb, w_Arr Z.2.1 41 am mk, w_Arr Z.2.1 41 a92 z0R]) H := hP
        have hD : va_D A (List.flatten [w_SP Z mm u x, w_Arr Z.2.1 2 ag g, w_Arr Z.2.1 41 ak k, w_Arr Z.2.1 41 al ln, w_Arr Z.2.1 41 ap pr, w_Arr Z.2.1 41 ab lb, w_Arr Z.2.1 41 am mk, w_Arr Z.2.1 41 a92 z0R]) := hD
        refine W.eq (g2 := F0 m 731 ls [.ref a92]) rfl ?_
        refine lv_astore (lv' := [(15, .ref a92), (11, .int q5), (10, .int z0), (0, .ref mm), (1, .ref ag), (2, .ref ak), (3, .ref al), (4, .ref ap), (5, .ref ab), (6, .ref am), (7, .int p7), (8, .int x8), (9, .int x9)]) hx hb (z_d hL_acts_6 27 rfl) hl (by decide) rfl (fun ls hl => ?_)
        refine lv_bipush (v := 64) hx hb (z_d hL_acts_6 28 rfl) (by decide) ?_
        refine z_newarr (Z := Z) (L := [w_SP Z mm u x, w_Arr Z.2.1 2 ag g, w_Arr Z.2.1 41 ak k, w_Arr Z.2.1 41 al ln, w_Arr Z.2.1 41 ap pr, w_Arr Z.2.1 41 ab lb, w_Arr Z.2.1 41 am mk, w_Arr Z.2.1 41 a92 z0R]) (N' := 64) hx hb (hts _ k_a_int) hK hP hD hS hA0 (by decide) (by decide) (Nat.le_of_ble_eq_true rfl) (Nat.le_of_ble_eq_true rfl) (Nat.le_of_ble_eq_true rfl) (z_d hL_acts_6 29 rfl) (fun a93 H hP hD hS => ?_)
        have hP : va_P Z.1 vwCl (List.flatten [w_SP Z mm u x, w_Arr Z.2.1 2 ag g, w_Arr Z.2.1 41 ak k, w_Arr Z.2.1 41 al ln, w_Arr Z.2.1 41 ap pr, w_Arr Z.2.1 41 ab lb, w_Arr Z.2.1 41 am mk, w_Arr Z.2.1 41 a92 z0R, w_Arr Z.2.1 64 a93 z0R]) H := hP
        have hD : va_D A (List.flatten [w_SP Z mm u x, w_Arr Z.2.1 2 ag g, w_Arr Z.2.1 41 ak k, w_Arr Z.2.1 41 al ln, w_Arr Z.2.1 41 ap pr, w_Arr Z.2.1 41 ab lb, w_Arr Z.2.1 41 am mk, w_Arr Z.2.1 41 a92 z0R, w_Arr Z.2.1 64 a93 z0R]) := hD
        refine W.eq (g2 := F0 m 737 ls [.ref a93]) rfl ?_
        refine lv_astore (lv' := [(16, .ref a93), (15, .ref a92), (11, .int q5), (10, .int z0), (0, .ref mm), (1, .ref ag), (2, .ref ak), (3, .ref al), (4, .ref ap), (5, .ref ab), (6, .ref am), (7, .int p7), (8, .int x8), (9, .int x9)]) hx hb (z_d hL_acts_6 30 rfl) hl (by decide) rfl (fun ls hl => ?_)
        refine lv_aload_n hx hb (z_d hL_acts_6 31 rfl) rfl (lv_at hl 5 rfl) ?_
        refine lv_aload_n hx hb (z_d hL_acts_6 32 rfl) rfl (lv_at hl 6 rfl) ?_
        refine lv_aload_n hx hb (z_d hL_acts_6 33 rfl) rfl (lv_at hl 7 rfl) ?_
        refine lv_aload hx hb (z_d hL_acts_6 34 rfl) (lv_at hl 10 rfl) ?_
        refine lv_aload_n hx hb (z_d hL_acts_6 35 rfl) rfl (lv_at hl 5 rfl) ?_
        refine lv_iconst (v := 1) hx hb (z_d hL_acts_6 36 rfl) (by decide) ?_
        refine z_ix hF (fun hin hF => ?_)
        refine va_iald (D := Z.1) (f := g) hx hb hK.1 (zP_reg hP 1 rfl) 0 0 rfl rfl hin (z_d hL_acts_6 37 rfl) ?_
        refine z_let hF (fun u98 hu98 hF => ?_)
        refine lv_topE hu98 ?_
        refine lv_aload hx hb (z_d hL_acts_6 38 rfl) (lv_at hl 1 rfl) ?_
        refine lv_aload hx hb (z_d hL_acts_6 39 rfl) (lv_at hl 0 rfl) ?_
        refine z_bnd hF (fun q99 hq99 hF => ?_)
        refine z_kmN (L := [w_SP Z mm u x, w_Arr Z.2.1 2 ag g, w_Arr Z.2.1 41 ak k, w_Arr Z.2.1 41 al ln, w_Arr Z.2.1 41 ap pr, w_Arr Z.2.1 41 ab lb, w_Arr Z.2.1 41 am mk, w_Arr Z.2.1 41 a92 z0R, w_Arr Z.2.1 64 a93 z0R]) (L' := [w_SP Z mm u x, w_Arr Z.2.1 2 ag g, w_Arr Z.2.1 41 ak k, w_Arr Z.2.1 41 al ln, w_Arr Z.2.1 41 ap pr, w_Arr Z.2.1 41 ab lb, w_Arr Z.2.1 41 am mk, w_Arr Z.2.1 41 a92 q99.2.1, w_Arr Z.2.1 64 a93 q99.2.2]) [(1, w_Arr Z.2.1 2 ag g, w_Arr Z.2.1 2 ag g), (2, w_Arr Z.2.1 41 ak k, w_Arr Z.2.1 41 ak k), (3, w_Arr Z.2.1 41 al ln, w_Arr Z.2.1 41 al ln), (6, w_Arr Z.2.1 41 am mk, w_Arr Z.2.1 41 am mk), (7, w_Arr Z.2.1 41 a92 z0R, w_Arr Z.2.1 41 a92 q99.2.1), (8, w_Arr Z.2.1 64 a93 z0R, w_Arr Z.2.1 64 a93 q99.2.2)] (z_rKM (As := [.ref ag, .ref ak, .ref al, .ref am, .int u98, .ref a92, .ref a93]) (rest := []) hx hb hml hown hts vs_L_sets (c_L_sets l hlt Z sa H.size ag ak al am a92 a93 g k ln mk z0R z0R u98 _ hq99) rfl rfl ⟨Nat.le_of_ble_eq_true rfl, Nat.le_of_ble_eq_true rfl⟩ k_m_L_83 hK ((hT.kept hS.2.1).narrow (zkA hS hA0 (zDq [(1, w_Arr Z.2.1 2 ag g, w_Arr Z.2.1 2 ag g), (2, w_Arr Z.2.1 41 ak k, w_Arr Z.2.1 41 ak k), (3, w_Arr Z.2.1 41 al ln, w_Arr Z.2.1 41 al ln), (6, w_Arr Z.2.1 41 am mk, w_Arr Z.2.1 41 am mk), (7, w_Arr Z.2.1 41 a92 z0R, w_Arr Z.2.1 41 a92 q99.2.1), (8, w_Arr Z.2.1 64 a93 z0R, w_Arr Z.2.1 64 a93 q99.2.2)] hD (List.forall_mem_cons.mpr ⟨⟨rfl, rfl⟩, (List.forall_mem_cons.mpr ⟨⟨rfl, rfl⟩, (List.forall_mem_cons.mpr ⟨⟨rfl, rfl⟩, (List.forall_mem_cons.mpr ⟨⟨rfl, rfl⟩, (List.forall_mem_cons.mpr ⟨⟨rfl, rfl⟩, (List.forall_mem_cons.mpr ⟨⟨rfl, rfl⟩, (fun _ h => absurd h List.not_mem_nil)⟩)⟩)⟩)⟩)⟩)⟩) (show List.Nodup [1, 2, 3, 6, 7, 8] by decide)))) hN (zP_c (zP_reg hP 1 rfl) (zP_c (zP_reg hP 2 rfl) (zP_c (zP_reg hP 3 rfl) (zP_c (zP_reg hP 6 rfl) (zP_c (zP_reg hP 7 rfl) (zP_c (zP_reg hP 8 rfl) zP_n)))))) (zDq [(1, w_Arr Z.2.1 2 ag g, w_Arr Z.2.1 2 ag g), (2, w_Arr Z.2.1 41 ak k, w_Arr Z.2.1 41 ak k), (3, w_Arr Z.2.1 41 al ln, w_Arr Z.2.1 41 al ln), (6, w_Arr Z.2.1 41 am mk, w_Arr Z.2.1 41 am mk), (7, w_Arr Z.2.1 41 a92 z0R, w_Arr Z.2.1 41 a92 q99.2.1), (8, w_Arr Z.2.1 64 a93 z0R, w_Arr Z.2.1 64 a93 q99.2.2)] hD (List.forall_mem_cons.mpr ⟨⟨rfl, rfl⟩, (List.forall_mem_cons.mpr ⟨⟨rfl, rfl⟩, (List.forall_mem_cons.mpr ⟨⟨rfl, rfl⟩, (List.forall_mem_cons.mpr ⟨⟨rfl, rfl⟩, (List.forall_mem_cons.mpr ⟨⟨rfl, rfl⟩, (List.forall_mem_cons.mpr ⟨⟨rfl, rfl⟩, (fun _ h => absurd h List.not_mem_nil)⟩)⟩)⟩)⟩)⟩)⟩) (show List.Nodup [1, 2, 3, 6, 7, 8] by decide)) rfl hl.1 (Nat.le_of_ble_eq_true rfl) (z_d hL_acts_6 40 rfl) ⟨Nat.le_of_ble_eq_true rfl, Nat.le_of_ble_eq_true rfl⟩) hS hA0 hP hD (List.forall_mem_cons.mpr ⟨⟨rfl, rfl⟩, (List.forall_mem_cons.mpr ⟨⟨rfl, rfl⟩, (List.forall_mem_cons.mpr ⟨⟨rfl, rfl⟩, (List.forall_mem_cons.mpr ⟨⟨rfl, rfl⟩, (List.forall_mem_cons.mpr ⟨⟨rfl, rfl⟩, (List.forall_mem_cons.mpr ⟨⟨rfl, rfl⟩, (fun _ h => absurd h List.not_mem_nil)⟩)⟩)⟩)⟩)⟩)⟩) (show List.Nodup [1, 2, 3, 6, 7, 8] by decide) rfl rfl rfl (fun H locs hP hD hS => ?_)
        refine W.eq (g2 := F0 m 754 ls [.int q99.1]) rfl ?_
        refine lv_istore (lv' := [(17, .int q99.1), (16, .ref a93), (15, .ref a92), (11, .int q5), (10, .int z0), (0, .ref mm), (1, .ref ag), (2, .ref ak), (3, .ref al), (4, .ref ap), (5, .ref ab), (6, .ref am), (7, .int p7), (8, .int x8), (9, .int x9)]) hx hb (z_d hL_acts_6 41 rfl) hl (by decide) rfl (fun ls hl => ?_)
        refine lv_iconst (v := 0) hx hb (z_d hL_acts_6 42 rfl) (by decide) ?_
        refine lv_istore (lv' := [(18, .int 0), (17, .int q99.1), (16, .ref a93), (15, .ref a92), (11, .int q5), (10, .int z0), (0, .ref mm), (1, .ref ag), (2, .ref ak), (3, .ref al), (4, .ref ap), (5, .ref ab), (6, .ref am), (7, .int p7), (8, .int x8), (9, .int x9)]) hx hb (z_d hL_acts_6 43 rfl) hl (by decide) rfl (fun ls hl => ?_)
        refine lv_iconst (v := 0) hx hb (z_d hL_acts_6 44 rfl) (by decide) ?_
        refine lv_istore (lv' := [(19, .int 0), (18, .int 0), (17, .int q99.1), (16, .ref a93), (15, .ref a92), (11, .int q5), (10, .int z0), (0, .ref mm), (1, .ref ag), (2, .ref ak), (3, .ref al), (4, .ref ap), (5, .ref ab), (6, .ref am), (7, .int p7), (8, .int x8), (9, .int x9)]) hx hb (z_d hL_acts_6 45 rfl) hl (by decide) rfl (fun ls hl => ?_)
        refine z_bnd hF (fun q110 hq110 hF => ?_)
        refine L762 a92 a93 x g k ln pr lb q99.2.1 q99.2.2 x9 q99.1 _ _ _ hq110 _ _ ls hP hD hS (lv_sub hl [7, 8, 9, 10, 11, 12, 13, 14, 16, 4, 2, 1, 0] rfl) (fun H locs ls hP hD hS hl => ?_)
        refine lv_iload hx hb (z_d hL_acts_7 26 rfl) (lv_at hl 8 rfl) ?_
        refine lv_if_lt (tgt := 855) hx hb (z_d hL_acts_7 27 rfl) (by decide) (fun hc843 => ?_) (fun hc843 => ?_)
        · have hF := z_pos hc843 hF
          refine lv_iconst (v := 1) hx hb (z_d hL_acts_7 32 rfl) (by decide) ?_
          refine lv_goto (tgt := 860) hx hb (z_d hL_acts_7 33 rfl) (by decide) ?_
          have hz9 : narrow .boolean (.int 1) = .int 1 := rfl
          obtain rfl := Option.some.inj hF
          subst hQ
          subst hA
          exact z_kretZ (L := [w_SP Z mm u x, w_Arr Z.2.1 2 ag g, w_Arr Z.2.1 41 ak k, w_Arr Z.2.1 41 al ln, w_Arr Z.2.1 41 ap pr, w_Arr Z.2.1 41 ab lb, w_Arr Z.2.1 41 am q110.1]) (Lr := [w_Arr Z.2.1 41 a92 q99.2.1, w_Arr Z.2.1 64 a93 q99.2.2]) hx hb hr hlocks hz9 rfl hP hS (Nat.le_of_ble_eq_true rfl) (Nat.le_of_ble_eq_true rfl) (z_d hL_acts_7 35 rfl)
        · have hF := z_neg hc843 hF
          refine lv_aload_n hx hb (z_d hL_acts_7 28 rfl) rfl (lv_at hl 0 rfl) ?_
          refine z_bnd hF (fun q111 hq111 hF => ?_)
          refine z_muN (L := [w_SP Z mm u x, w_Arr Z.2.1 2 ag g, w_Arr Z.2.1 41 ak k, w_Arr Z.2.1 41 al ln, w_Arr Z.2.1 41 ap pr, w_Arr Z.2.1 41 ab lb, w_Arr Z.2.1 41 am q110.1, w_Arr Z.2.1 41 a92 q99.2.1, w_Arr Z.2.1 64 a93 q99.2.2]) (L' := [w_SP Z mm u q111.2, w_Arr Z.2.1 2 ag g, w_Arr Z.2.1 41 ak k, w_Arr Z.2.1 41 al ln, w_Arr Z.2.1 41 ap pr, w_Arr Z.2.1 41 ab lb, w_Arr Z.2.1 41 am q110.1, w_Arr Z.2.1 41 a92 q99.2.1, w_Arr Z.2.1 64 a93 q99.2.2]) [(0, w_SP Z mm u x, w_SP Z mm u q111.2)] (z_rV (As := []) (rest := []) hx hb hml hown hts vt_X6_lockPages (c_P_lockPages l Z mm u x _ hq111) rfl rfl ⟨Nat.le_of_ble_eq_true rfl, Nat.le_of_ble_eq_true rfl⟩ k_m_L_87 zPmu_blind (z_recv (q := (RX6, TX6, 9)) (ci := 6) (q0 := 0) hK (zP_reg hP 0 rfl) rfl rfl) (z_prem hK (zP_c (zP_reg hP 0 rfl) zP_n) (zDq [(0, w_SP Z mm u x, w_SP Z mm u q111.2)] hD (List.forall_mem_cons.mpr ⟨⟨rfl, (adr_SP _ _ _ _ _)⟩, (fun _ h => absurd h List.not_mem_nil)⟩) (show List.Nodup [0] by decide))) rfl hl.1 (Nat.le_of_ble_eq_true rfl) (z_d hL_acts_7 29 rfl) ⟨Nat.le_of_ble_eq_true rfl, Nat.le_of_ble_eq_true rfl⟩) hS hP hD (List.forall_mem_cons.mpr ⟨⟨rfl, (adr_SP _ _ _ _ _)⟩, (fun _ h => absurd h List.not_mem_nil)⟩) (show List.Nodup [0] by decide) rfl rfl rfl (fun H locs hP hD hS => ?_)
          refine W.eq (g2 := F0 m 850 ls [.int q111.1]) rfl ?_
          refine lv_iload hx hb (z_d hL_acts_7 30 rfl) (lv_at hl 9 rfl) ?_
          refine lv_icmp_ne (tgt := 859) hx hb (z_d hL_acts_7 31 rfl) (by decide) (fun hc852 => ?_) (fun hc852 => ?_)
          · have hF := z_neg hc852 hF
            refine lv_iconst (v := 0) hx hb (z_d hL_acts_7 34 rfl) (by decide) ?_
            have hz9 : narrow .boolean (.int 0) = .int 0 := rfl
            obtain rfl := Option.some.inj hF
            subst hQ
            subst hA
            exact z_kretZ (L := [w_SP Z mm u q111.2, w_Arr Z.2.1 2 ag g, w_Arr Z.2.1 41 ak k, w_Arr Z.2.1 41 al ln, w_Arr Z.2.1 41 ap pr, w_Arr Z.2.1 41 ab lb, w_Arr Z.2.1 41 am q110.1]) (Lr := [w_Arr Z.2.1 41 a92 q99.2.1, w_Arr Z.2.1 64 a93 q99.2.2]) hx hb hr hlocks hz9 rfl hP hS (Nat.le_of_ble_eq_true rfl) (Nat.le_of_ble_eq_true rfl) (z_d hL_acts_7 35 rfl)
          · have hF := z_pos hc852 hF
            refine lv_iconst (v := 1) hx hb (z_d hL_acts_7 32 rfl) (by decide) ?_
            refine lv_goto (tgt := 860) hx hb (z_d hL_acts_7 33 rfl) (by decide) ?_
            have hz9 : narrow .boolean (.int 1) = .int 1 := rfl
            obtain rfl := Option.some.inj hF
            subst hQ
            subst hA
            exact z_kretZ (L := [w_SP Z mm u q111.2, w_Arr Z.2.1 2 ag g, w_Arr Z.2.1 41 ak k, w_Arr Z.2.1 41 al ln, w_Arr Z.2.1 41 ap pr, w_Arr Z.2.1 41 ab lb, w_Arr Z.2.1 41 am q110.1]) (Lr := [w_Arr Z.2.1 41 a92 q99.2.1, w_Arr Z.2.1 64 a93 q99.2.2]) hx hb hr hlocks hz9 rfl hP hS (Nat.le_of_ble_eq_true rfl) (Nat.le_of_ble_eq_true rfl) (z_d hL_acts_7 35 rfl)
      · have hF := z_neg hc51 hF
        exact J54 x g k ln pr lb mk x8 x9 hF _ _ ls hP hD hS (lv_sub hl [2, 3, 4, 5, 6, 7, 8, 9, 10, 11] rfl)
  refine lv_iload hx hb (z_d hL_acts_0 0 rfl) (lv_at hl 7 rfl) ?_
  refine lv_iconst (v := 4) hx hb (z_d hL_acts_0 1 rfl) (by decide) ?_
  refine lv_ishr hx hb (z_d hL_acts_0 2 rfl) ?_
  refine z_let hF (fun u1 hu1 hF => ?_)
  refine lv_topE hu1 ?_
  refine lv_ldc (v := 100000) hx hb hown (hts _ k_i_L_39) (z_d hL_acts_0 3 rfl) ?_
  refine z_bnd hF (fun q2 hq2 hF => ?_)
  refine z_ro_i (z_rS (As := [.int u1, .int 100000]) (rest := []) hx hb hml hown hts vs_L_low (c_L_low l Z u1 100000 _ hq2) rfl rfl ⟨Nat.le_of_ble_eq_true rfl, Nat.le_of_ble_eq_true rfl⟩ k_m_L_40 zPro_blind (z_prec hK zP_nil) rfl hl.1 (Nat.le_of_ble_eq_true rfl) (z_d hL_acts_0 4 rfl) ⟨Nat.le_of_ble_eq_true rfl, Nat.le_of_ble_eq_true rfl⟩) hS hP (fun H locs hP hS => ?_)
  refine lv_istore (lv' := [(8, .int q2), (0, .ref mm), (1, .ref ag), (2, .ref ak), (3, .ref al), (4, .ref ap), (5, .ref ab), (6, .ref am), (7, .int p7)]) hx hb (z_d hL_acts_0 5 rfl) hl (by decide) rfl (fun ls hl => ?_)
  refine lv_aload_n hx hb (z_d hL_acts_0 6 rfl) rfl (lv_at hl 2 rfl) ?_
  refine lv_iconst (v := 0) hx hb (z_d hL_acts_0 7 rfl) (by decide) ?_
  refine z_ix hF (fun hin hF => ?_)
  refine va_iald (D := Z.1) (f := g) hx hb hK.1 (zP_reg hP 1 rfl) 0 0 rfl rfl hin (z_d hL_acts_0 8 rfl) ?_
  refine z_let hF (fun u3 hu3 hF => ?_)
  refine lv_topE hu3 ?_
  refine lv_istore (lv' := [(9, .int u3), (8, .int q2), (0, .ref mm), (1, .ref ag), (2, .ref ak), (3, .ref al), (4, .ref ap), (5, .ref ab), (6, .ref am), (7, .int p7)]) hx hb (z_d hL_acts_0 9 rfl) hl (by decide) rfl (fun ls hl => ?_)
  refine lv_iload hx hb (z_d hL_acts_0 10 rfl) (lv_at hl 0 rfl) ?_
  refine lv_if_ne (tgt := 25) hx hb (z_d hL_acts_0 11 rfl) (by decide) (fun hc18 => ?_) (fun hc18 => ?_)
  · have hF := z_neg hc18 hF
    refine lv_iload hx hb (z_d hL_acts_0 14 rfl) (lv_at hl 1 rfl) ?_
    refine lv_iload hx hb (z_d hL_acts_0 15 rfl) (lv_at hl 0 rfl) ?_
    refine z_dv hF (fun hne hF => ?_)
    refine lv_irem hx hb (z_d hL_acts_0 16 rfl) hne ?_
    refine z_let hF (fun u4 hu4 hF => ?_)
    refine lv_topE hu4 ?_
    exact J30 x g k ln pr lb mk q2 u3 u4 hF _ _ ls hP hD hS (lv_sub hl [2, 3, 4, 5, 6, 7, 8, 9, 1, 0] rfl)
  · have hF := z_pos hc18 hF
    refine lv_iconst (v := 0) hx hb (z_d hL_acts_0 12 rfl) (by decide) ?_
    refine lv_goto (tgt := 30) hx hb (z_d hL_acts_0 13 rfl) (by decide) ?_
    exact J30 x g k ln pr lb mk q2 u3 0 hF _ _ ls hP hD hS (lv_sub hl [2, 3, 4, 5, 6, 7, 8, 9, 1, 0] rfl)

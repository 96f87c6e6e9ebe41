theorem vs_L_closes : zSt yL_closes cL_closes 4 none 3 := ⟨zG_at 596 (by decide +kernel) (by decide +kernel), zG_at 25 (by decide +kernel) (by decide +kernel), zG_at 597 (by decide +kernel) (by decide +kernel), by decide +kernel⟩
theorem vs_L_splits : zSt yL_splits cL_splits 3 (some .boolean) 3 := ⟨zG_at 684 (by decide +kernel) (by decide +kernel), zG_at 25 (by decide +kernel) (by decide +kernel), zG_at 685 (by decide +kernel) (by decide +kernel), by decide +kernel⟩
theorem vs_L_blanks : zSt yL_blanks cL_blanks 2 (some .int) 2 := ⟨zG_at 687 (by decide +kernel) (by decide +kernel), zG_at 25 (by decide +kernel) (by decide +kernel), zG_at 688 (by decide +kernel) (by decide +kernel), by decide +kernel⟩
theorem vs_L_labels : zSt yL_labels cL_labels 10 none 4 := ⟨zG_at 593 (by decide +kernel) (by decide +kernel), zG_at 25 (by decide +kernel) (by decide +kernel), zG_at 594 (by decide +kernel) (by decide +kernel), by decide +kernel⟩
theorem vs_L_needs : zSt yL_needs cL_needs 9 none 5 := ⟨zG_at 681 (by decide +kernel) (by decide +kernel), zG_at 25 (by decide +kernel) (by decide +kernel), zG_at 682 (by decide +kernel) (by decide +kernel), by decide +kernel⟩
theorem k_m_L_19 : Cond.methodLink RL 19 yL_closes ∈ zG := zG_at 595 (by decide +kernel) (by decide +kernel)
theorem k_m_L_27 : Cond.methodLink RL 27 yL_splits ∈ zG := zG_at 683 (by decide +kernel) (by decide +kernel)
theorem k_m_L_31 : Cond.methodLink RL 31 yL_blanks ∈ zG := zG_at 686 (by decide +kernel) (by decide +kernel)
theorem k_m_L_15 : Cond.methodLink RL 15 yL_labels ∈ zG := zG_at 592 (by decide +kernel) (by decide +kernel)
theorem k_m_L_35 : Cond.methodLink RL 35 yL_needs ∈ zG := zG_at 680 (by decide +kernel) (by decide +kernel)
def rm_L_drop : Room := { frames := 1, cells := 0, slots := 0, locals := 23 }
set_option maxRecDepth 100000 in
set_option maxHeartbeats 4000000 in
theorem c_L_drop (l : Launch) (Z : zZ) (ag : Nat) (ak : Nat) (al : Nat) (ap : Nat) (ab : Nat) (am : Nat) (g : Rw) (k : Rw) (ln : Rw) (pr : Rw) (lb : Rw) (mk : Rw) (p6 : Int32) (R : Rw × Rw × Rw × Rw × Rw × Rw) (hF : L_drop g k ln pr lb mk p6 = some R) : zMU l yL_drop (zw yL_drop cL_drop 8 none) rm_L_drop Z [.ref ag, .ref ak, .ref al, .ref ap, .ref ab, .ref am, .int p6] (List.flatten [w_Arr Z.2.1 2 ag g, w_Arr Z.2.1 41 ak k, w_Arr Z.2.1 41 al ln, w_Arr Z.2.1 41 ap pr, w_Arr Z.2.1 41 ab lb, w_Arr Z.2.1 41 am mk]) (List.flatten [w_Arr Z.2.1 2 ag R.1, w_Arr Z.2.1 41 ak R.2.1, w_Arr Z.2.1 41 al R.2.2.1, w_Arr Z.2.1 41 ap R.2.2.2.1, w_Arr Z.2.1 41 ab R.2.2.2.2.1, w_Arr Z.2.1 41 am R.2.2.2.2.2]) none := by
  refine zMU_of (by decide) (Nat.le_of_ble_eq_true rfl) (fun p e s m below meth c hx hb hr hml hown hts hlocks hK A hA Q hQ ls hl hP hD hS => ?_)
  unfold L_drop at hF
  have hl : lv_has ls 8 [(0, .ref ag), (1, .ref ak), (2, .ref al), (3, .ref ap), (4, .ref ab), (5, .ref am), (6, .int p6)] := hl
  have hown : s.vm.findClass RL = some m.cls := hown
  refine lv_aload hx hb (z_d hL_drop_0 0 rfl) (lv_at hl 5 rfl) ?_
  refine lv_iload hx hb (z_d hL_drop_0 1 rfl) (lv_at hl 6 rfl) ?_
  refine z_ix hF (fun hin hF => ?_)
  refine va_iald (D := Z.1) (f := mk) hx hb hK.1 (zP_reg hP 5 rfl) 0 0 rfl rfl hin (z_d hL_drop_0 2 rfl) ?_
  refine z_let hF (fun u1 hu1 hF => ?_)
  refine lv_topE hu1 ?_
  refine lv_istore (lv' := [(7, .int u1), (0, .ref ag), (1, .ref ak), (2, .ref al), (3, .ref ap), (4, .ref ab), (5, .ref am), (6, .int p6)]) hx hb (z_d hL_drop_0 3 rfl) hl (by decide) rfl (fun ls hl => ?_)
  refine lv_aload_n hx hb (z_d hL_drop_0 4 rfl) rfl (lv_at hl 2 rfl) ?_
  refine lv_aload_n hx hb (z_d hL_drop_0 5 rfl) rfl (lv_at hl 1 rfl) ?_
  refine lv_iconst (v := 0) hx hb (z_d hL_drop_0 6 rfl) (by decide) ?_
  refine z_ix hF (fun hin hF => ?_)
  refine va_iald (D := Z.1) (f := g) hx hb hK.1 (zP_reg hP 0 rfl) 0 0 rfl rfl hin (z_d hL_drop_0 7 rfl) ?_
  refine z_let hF (fun u2 hu2 hF => ?_)
  refine lv_topE hu2 ?_
  refine lv_iload hx hb (z_d hL_drop_0 8 rfl) (lv_at hl 7 rfl) ?_
  refine z_bnd hF (fun q3 hq3 hF => ?_)
  refine z_muN (L := [w_Arr Z.2.1 2 ag g, w_Arr Z.2.1 41 ak k, w_Arr Z.2.1 41 al ln, w_Arr Z.2.1 41 ap pr, w_Arr Z.2.1 41 ab lb, w_Arr Z.2.1 41 am mk]) (L' := [w_Arr Z.2.1 2 ag g, w_Arr Z.2.1 41 ak q3, w_Arr Z.2.1 41 al ln, w_Arr Z.2.1 41 ap pr, w_Arr Z.2.1 41 ab lb, w_Arr Z.2.1 41 am mk]) [(1, w_Arr Z.2.1 41 ak k, w_Arr Z.2.1 41 ak q3)] (z_rS (As := [.ref ak, .int u2, .int p6]) (rest := []) hx hb hml hown hts vs_L_closes (c_L_closes l Z ak k u2 p6 _ hq3) rfl rfl ⟨Nat.le_of_ble_eq_true rfl, Nat.le_of_ble_eq_true rfl⟩ k_m_L_19 zPmu_blind (z_prem hK (zP_c (zP_reg hP 1 rfl) zP_n) (zDq [(1, w_Arr Z.2.1 41 ak k, w_Arr Z.2.1 41 ak q3)] hD (List.forall_mem_cons.mpr ⟨⟨rfl, rfl⟩, (fun _ h => absurd h List.not_mem_nil)⟩) (show List.Nodup [1] by decide))) rfl hl.1 (Nat.le_of_ble_eq_true rfl) (z_d hL_drop_0 9 rfl) ⟨Nat.le_of_ble_eq_true rfl, Nat.le_of_ble_eq_true rfl⟩) hS hP hD (List.forall_mem_cons.mpr ⟨⟨rfl, rfl⟩, (fun _ h => absurd h List.not_mem_nil)⟩) (show List.Nodup [1] by decide) rfl rfl rfl (fun H locs hP hD hS => ?_)
  refine W.eq (g2 := F0 m 16 ls []) rfl ?_
  refine lv_aload_n hx hb (z_d hL_drop_0 10 rfl) rfl (lv_at hl 3 rfl) ?_
  refine lv_aload_n hx hb (z_d hL_drop_0 11 rfl) rfl (lv_at hl 1 rfl) ?_
  refine lv_iconst (v := 0) hx hb (z_d hL_drop_0 12 rfl) (by decide) ?_
  refine z_ix hF (fun hin hF => ?_)
  refine va_iald (D := Z.1) (f := g) hx hb hK.1 (zP_reg hP 0 rfl) 0 0 rfl rfl hin (z_d hL_drop_0 13 rfl) ?_
  refine z_let hF (fun u4 hu4 hF => ?_)
  refine lv_topE hu4 ?_
  refine lv_iload hx hb (z_d hL_drop_0 14 rfl) (lv_at hl 7 rfl) ?_
  refine z_bnd hF (fun q5 hq5 hF => ?_)
  refine z_muN (L := [w_Arr Z.2.1 2 ag g, w_Arr Z.2.1 41 ak q3, w_Arr Z.2.1 41 al ln, w_Arr Z.2.1 41 ap pr, w_Arr Z.2.1 41 ab lb, w_Arr Z.2.1 41 am mk]) (L' := [w_Arr Z.2.1 2 ag g, w_Arr Z.2.1 41 ak q3, w_Arr Z.2.1 41 al q5, w_Arr Z.2.1 41 ap pr, w_Arr Z.2.1 41 ab lb, w_Arr Z.2.1 41 am mk]) [(2, w_Arr Z.2.1 41 al ln, w_Arr Z.2.1 41 al q5)] (z_rS (As := [.ref al, .int u4, .int p6]) (rest := []) hx hb hml hown hts vs_L_closes (c_L_closes l Z al ln u4 p6 _ hq5) rfl rfl ⟨Nat.le_of_ble_eq_true rfl, Nat.le_of_ble_eq_true rfl⟩ k_m_L_19 zPmu_blind (z_prem hK (zP_c (zP_reg hP 2 rfl) zP_n) (zDq [(2, w_Arr Z.2.1 41 al ln, w_Arr Z.2.1 41 al q5)] hD (List.forall_mem_cons.mpr ⟨⟨rfl, rfl⟩, (fun _ h => absurd h List.not_mem_nil)⟩) (show List.Nodup [2] by decide))) rfl hl.1 (Nat.le_of_ble_eq_true rfl) (z_d hL_drop_0 15 rfl) ⟨Nat.le_of_ble_eq_true rfl, Nat.le_of_ble_eq_true rfl⟩) hS hP hD (List.forall_mem_cons.mpr ⟨⟨rfl, rfl⟩, (fun _ h => absurd h List.not_mem_nil)⟩) (show List.Nodup [2] by decide) rfl rfl rfl (fun H locs hP hD hS => ?_)
  refine W.eq (g2 := F0 m 25 ls []) rfl ?_
  refine lv_aload_n hx hb (z_d hL_drop_0 16 rfl) rfl (lv_at hl 4 rfl) ?_
  refine lv_aload_n hx hb (z_d hL_drop_0 17 rfl) rfl (lv_at hl 1 rfl) ?_
  refine lv_iconst (v := 0) hx hb (z_d hL_drop_0 18 rfl) (by decide) ?_
  refine z_ix hF (fun hin hF => ?_)
  refine va_iald (D := Z.1) (f := g) hx hb hK.1 (zP_reg hP 0 rfl) 0 0 rfl rfl hin (z_d hL_drop_0 19 rfl) ?_
  refine z_let hF (fun u6 hu6 hF => ?_)
  refine lv_topE hu6 ?_
  refine lv_iload hx hb (z_d hL_drop_0 20 rfl) (lv_at hl 7 rfl) ?_
  refine z_bnd hF (fun q7 hq7 hF => ?_)
  refine z_muN (L := [w_Arr Z.2.1 2 ag g, w_Arr Z.2.1 41 ak q3, w_Arr Z.2.1 41 al q5, w_Arr Z.2.1 41 ap pr, w_Arr Z.2.1 41 ab lb, w_Arr Z.2.1 41 am mk]) (L' := [w_Arr Z.2.1 2 ag g, w_Arr Z.2.1 41 ak q3, w_Arr Z.2.1 41 al q5, w_Arr Z.2.1 41 ap q7, w_Arr Z.2.1 41 ab lb, w_Arr Z.2.1 41 am mk]) [(3, w_Arr Z.2.1 41 ap pr, w_Arr Z.2.1 41 ap q7)] (z_rS (As := [.ref ap, .int u6, .int p6]) (rest := []) hx hb hml hown hts vs_L_closes (c_L_closes l Z ap pr u6 p6 _ hq7) rfl rfl ⟨Nat.le_of_ble_eq_true rfl, Nat.le_of_ble_eq_true rfl⟩ k_m_L_19 zPmu_blind (z_prem hK (zP_c (zP_reg hP 3 rfl) zP_n) (zDq [(3, w_Arr Z.2.1 41 ap pr, w_Arr Z.2.1 41 ap q7)] hD (List.forall_mem_cons.mpr ⟨⟨rfl, rfl⟩, (fun _ h => absurd h List.not_mem_nil)⟩) (show List.Nodup [3] by decide))) rfl hl.1 (Nat.le_of_ble_eq_true rfl) (z_d hL_drop_0 21 rfl) ⟨Nat.le_of_ble_eq_true rfl, Nat.le_of_ble_eq_true rfl⟩) hS hP hD (List.forall_mem_cons.mpr ⟨⟨rfl, rfl⟩, (fun _ h => absurd h List.not_mem_nil)⟩) (show List.Nodup [3] by decide) rfl rfl rfl (fun H locs hP hD hS => ?_)
  refine W.eq (g2 := F0 m 34 ls []) rfl ?_
  refine lv_aload hx hb (z_d hL_drop_0 22 rfl) (lv_at hl 5 rfl) ?_
  refine lv_aload_n hx hb (z_d hL_drop_0 23 rfl) rfl (lv_at hl 1 rfl) ?_
  refine lv_iconst (v := 0) hx hb (z_d hL_drop_0 24 rfl) (by decide) ?_
  refine z_ix hF (fun hin hF => ?_)
  refine va_iald (D := Z.1) (f := g) hx hb hK.1 (zP_reg hP 0 rfl) 0 0 rfl rfl hin (z_d hL_drop_0 25 rfl) ?_
  refine z_let hF (fun u8 hu8 hF => ?_)
  refine lv_topE hu8 ?_
  refine lv_iload hx hb (z_d hL_drop_0 26 rfl) (lv_at hl 7 rfl) ?_
  refine z_bnd hF (fun q9 hq9 hF => ?_)
  refine z_muN (L := [w_Arr Z.2.1 2 ag g, w_Arr Z.2.1 41 ak q3, w_Arr Z.2.1 41 al q5, w_Arr Z.2.1 41 ap q7, w_Arr Z.2.1 41 ab lb, w_Arr Z.2.1 41 am mk]) (L' := [w_Arr Z.2.1 2 ag g, w_Arr Z.2.1 41 ak q3, w_Arr Z.2.1 41 al q5, w_Arr Z.2.1 41 ap q7, w_Arr Z.2.1 41 ab q9, w_Arr Z.2.1 41 am mk]) [(4, w_Arr Z.2.1 41 ab lb, w_Arr Z.2.1 41 ab q9)] (z_rS (As := [.ref ab, .int u8, .int p6]) (rest := []) hx hb hml hown hts vs_L_closes (c_L_closes l Z ab lb u8 p6 _ hq9) rfl rfl ⟨Nat.le_of_ble_eq_true rfl, Nat.le_of_ble_eq_true rfl⟩ k_m_L_19 zPmu_blind (z_prem hK (zP_c (zP_reg hP 4 rfl) zP_n) (zDq [(4, w_Arr Z.2.1 41 ab lb, w_Arr Z.2.1 41 ab q9)] hD (List.forall_mem_cons.mpr ⟨⟨rfl, rfl⟩, (fun _ h => absurd h List.not_mem_nil)⟩) (show List.Nodup [4] by decide))) rfl hl.1 (Nat.le_of_ble_eq_true rfl) (z_d hL_drop_0 27 rfl) ⟨Nat.le_of_ble_eq_true rfl, Nat.le_of_ble_eq_true rfl⟩) hS hP hD (List.forall_mem_cons.mpr ⟨⟨rfl, rfl⟩, (fun _ h => absurd h List.not_mem_nil)⟩) (show List.Nodup [4] by decide) rfl rfl rfl (fun H locs hP hD hS => ?_)
  refine W.eq (g2 := F0 m 44 ls []) rfl ?_
  refine lv_aload hx hb (z_d hL_drop_0 28 rfl) (lv_at hl 6 rfl) ?_
  refine lv_aload_n hx hb (z_d hL_drop_0 29 rfl) rfl (lv_at hl 1 rfl) ?_
  refine lv_iconst (v := 0) hx hb (z_d hL_drop_0 30 rfl) (by decide) ?_
  refine z_ix hF (fun hin hF => ?_)
  refine va_iald (D := Z.1) (f := g) hx hb hK.1 (zP_reg hP 0 rfl) 0 0 rfl rfl hin (z_d hL_drop_0 31 rfl) ?_
  refine z_let hF (fun u10 hu10 hF => ?_)
  refine lv_topE hu10 ?_
  refine lv_iload hx hb (z_d hL_drop_0 32 rfl) (lv_at hl 7 rfl) ?_
  refine z_bnd hF (fun q11 hq11 hF => ?_)
  refine z_muN (L := [w_Arr Z.2.1 2 ag g, w_Arr Z.2.1 41 ak q3, w_Arr Z.2.1 41 al q5, w_Arr Z.2.1 41 ap q7, w_Arr Z.2.1 41 ab q9, w_Arr Z.2.1 41 am mk]) (L' := [w_Arr Z.2.1 2 ag g, w_Arr Z.2.1 41 ak q3, w_Arr Z.2.1 41 al q5, w_Arr Z.2.1 41 ap q7, w_Arr Z.2.1 41 ab q9, w_Arr Z.2.1 41 am q11]) [(5, w_Arr Z.2.1 41 am mk, w_Arr Z.2.1 41 am q11)] (z_rS (As := [.ref am, .int u10, .int p6]) (rest := []) hx hb hml hown hts vs_L_closes (c_L_closes l Z am mk u10 p6 _ hq11) rfl rfl ⟨Nat.le_of_ble_eq_true rfl, Nat.le_of_ble_eq_true rfl⟩ k_m_L_19 zPmu_blind (z_prem hK (zP_c (zP_reg hP 5 rfl) zP_n) (zDq [(5, w_Arr Z.2.1 41 am mk, w_Arr Z.2.1 41 am q11)] hD (List.forall_mem_cons.mpr ⟨⟨rfl, rfl⟩, (fun _ h => absurd h List.not_mem_nil)⟩) (show List.Nodup [5] by decide))) rfl hl.1 (Nat.le_of_ble_eq_true rfl) (z_d hL_drop_0 33 rfl) ⟨Nat.le_of_ble_eq_true rfl, Nat.le_of_ble_eq_true rfl⟩) hS hP hD (List.forall_mem_cons.mpr ⟨⟨rfl, rfl⟩, (fun _ h => absurd h List.not_mem_nil)⟩) (show List.Nodup [5] by decide) rfl rfl rfl (fun H locs hP hD hS => ?_)
  refine W.eq (g2 := F0 m 54 ls []) rfl ?_
  refine lv_aload_n hx hb (z_d hL_drop_0 34 rfl) rfl (lv_at hl 1 rfl) ?_
  refine lv_iconst (v := 0) hx hb (z_d hL_drop_0 35 rfl) (by decide) ?_
  refine lv_dup2_11 hx hb (z_d hL_drop_0 36 rfl) rfl rfl ?_
  refine z_ix hF (fun hin hF => ?_)
  refine va_iald (D := Z.1) (f := g) hx hb hK.1 (zP_reg hP 0 rfl) 0 0 rfl rfl hin (z_d hL_drop_0 37 rfl) ?_
  refine z_let hF (fun u12 hu12 hF => ?_)
  refine lv_topE hu12 ?_
  refine lv_iconst (v := 1) hx hb (z_d hL_drop_0 38 rfl) (by decide) ?_
  refine lv_isub hx hb (z_d hL_drop_0 39 rfl) ?_
  refine z_let hF (fun u13 hu13 hF => ?_)
  refine lv_topE hu13 ?_
  refine z_ix hF (fun hin hF => ?_)
  refine z_let hF (fun g14 hg14 hF => ?_)
  refine z_iast (Z := Z) (L := [w_Arr Z.2.1 2 ag g, w_Arr Z.2.1 41 ak q3, w_Arr Z.2.1 41 al q5, w_Arr Z.2.1 41 ap q7, w_Arr Z.2.1 41 ab q9, w_Arr Z.2.1 41 am q11]) (L' := [w_Arr Z.2.1 2 ag g14, w_Arr Z.2.1 41 ak q3, w_Arr Z.2.1 41 al q5, w_Arr Z.2.1 41 ap q7, w_Arr Z.2.1 41 ab q9, w_Arr Z.2.1 41 am q11]) (f := g) hx hb hK hP hD hS 0 rfl hin hg14 rfl (z_d hL_drop_0 40 rfl) (fun H locs hP hD hS => ?_)
  refine lv_iload hx hb (z_d hL_drop_0 41 rfl) (lv_at hl 7 rfl) ?_
  refine lv_aload_n hx hb (z_d hL_drop_0 42 rfl) rfl (lv_at hl 1 rfl) ?_
  refine lv_iconst (v := 0) hx hb (z_d hL_drop_0 43 rfl) (by decide) ?_
  refine z_ix hF (fun hin hF => ?_)
  refine va_iald (D := Z.1) (f := g14) hx hb hK.1 (zP_reg hP 0 rfl) 0 0 rfl rfl hin (z_d hL_drop_0 44 rfl) ?_
  refine z_let hF (fun u15 hu15 hF => ?_)
  refine lv_topE hu15 ?_
  refine lv_icmp_ge (tgt := 84) hx hb (z_d hL_drop_0 45 rfl) (by decide) (fun hc66 => ?_) (fun hc66 => ?_)
  · have hF := z_pos hc66 hF
    obtain rfl := Option.some.inj hF
    subst hQ
    subst hA
    exact W.vret hx hb hr (fun t ht hW => zq_mu (by rw [ht]; exact hP) (hS.F ht)) hS.2.2 (z_d hL_drop_0 54 rfl) hlocks
  · have hF := z_neg hc66 hF
    refine lv_aload hx hb (z_d hL_drop_0 46 rfl) (lv_at hl 6 rfl) ?_
    refine lv_iload hx hb (z_d hL_drop_0 47 rfl) (lv_at hl 7 rfl) ?_
    refine z_ix hF (fun hin hF => ?_)
    refine va_iald (D := Z.1) (f := q11) hx hb hK.1 (zP_reg hP 5 rfl) 0 0 rfl rfl hin (z_d hL_drop_0 48 rfl) ?_
    refine z_let hF (fun u16 hu16 hF => ?_)
    refine lv_topE hu16 ?_
    refine lv_if_ne (tgt := 84) hx hb (z_d hL_drop_0 49 rfl) (by decide) (fun hc74 => ?_) (fun hc74 => ?_)
    · have hF := z_neg hc74 hF
      obtain rfl := Option.some.inj hF
      subst hQ
      subst hA
      exact W.vret hx hb hr (fun t ht hW => zq_mu (by rw [ht]; exact hP) (hS.F ht)) hS.2.2 (z_d hL_drop_0 54 rfl) hlocks
    · have hF := z_pos hc74 hF
      refine lv_aload hx hb (z_d hL_drop_0 50 rfl) (lv_at hl 6 rfl) ?_
      refine lv_iload hx hb (z_d hL_drop_0 51 rfl) (lv_at hl 7 rfl) ?_
      refine lv_iload hx hb (z_d hL_drop_0 52 rfl) (lv_at hl 0 rfl) ?_
      refine z_ix hF (fun hin hF => ?_)
      refine z_let hF (fun g17 hg17 hF => ?_)
      refine z_iast (Z := Z) (L := [w_Arr Z.2.1 2 ag g14, w_Arr Z.2.1 41 ak q3, w_Arr Z.2.1 41 al q5, w_Arr Z.2.1 41 ap q7, w_Arr Z.2.1 41 ab q9, w_Arr Z.2.1 41 am q11]) (L' := [w_Arr Z.2.1 2 ag g14, w_Arr Z.2.1 41 ak q3, w_Arr Z.2.1 41 al q5, w_Arr Z.2.1 41 ap q7, w_Arr Z.2.1 41 ab q9, w_Arr Z.2.1 41 am g17]) (f := q11) hx hb hK hP hD hS 5 rfl hin hg17 rfl (z_d hL_drop_0 53 rfl) (fun H locs hP hD hS => ?_)
      obtain rfl := Option.some.inj hF
      subst hQ
      subst hA
      exact W.vret hx hb hr (fun t ht hW => zq_mu (by rw [ht]; exact hP) (hS.F ht)) hS.2.2 (z_d hL_drop_0 54 rfl) hlocks
def rm_L_needs : Room := { frames := 2, cells := 0, slots := 0, locals := 46 }
set_option maxRecDepth 100000 in
set_option maxHeartbeats 4000000 in
theorem c_L_needs (l : Launch) (Z : zZ) (ag : Nat) (ak : Nat) (al : Nat) (am : Nat) (ao : Nat) (g : Rw) (k : Rw) (ln : Rw) (mk : Rw) (to : Rw) (R : Rw) (hF : L_needs g k ln mk to = some R) : zMU l yL_needs (zw yL_needs cL_needs 9 none) rm_L_needs Z [.ref ag, .ref ak, .ref al, .ref am, .ref ao] (List.flatten [w_Arr Z.2.1 2 ag g, w_Arr Z.2.1 41 ak k, w_Arr Z.2.1 41 al ln, w_Arr Z.2.1 41 am mk, w_Arr Z.2.1 41 ao to]) (List.flatten [w_Arr Z.2.1 2 ag g, w_Arr Z.2.1 41 ak k, w_Arr Z.2.1 41 al ln, w_Arr Z.2.1 41 am mk, w_Arr Z.2.1 41 ao R]) none := by
  refine zMU_of (by decide) (Nat.le_of_ble_eq_true rfl) (fun p e s m below meth c hx hb hr hml hown hts hlocks hK A hA Q hQ ls hl hP hD hS => ?_)
  unfold L_needs at hF
  have hl : lv_has ls 9 [(0, .ref ag), (1, .ref ak), (2, .ref al), (3, .ref am), (4, .ref ao)] := hl
  have hown : s.vm.findClass RL = some m.cls := hown
  have L7 : ∀   (n : Nat) (v : Rw × Int32) (X : Rw) (hF : zloop (b_L_needs_7 g k ln mk ) n v = some X) (H : Heap) (locs : List Loc) (ls : Array Slot) (hP : va_P Z.1 vwCl (List.flatten [w_Arr Z.2.1 2 ag g, w_Arr Z.2.1 41 ak k, w_Arr Z.2.1 41 al ln, w_Arr Z.2.1 41 am mk, w_Arr Z.2.1 41 ao v.1]) H) (hD : va_D A (List.flatten [w_Arr Z.2.1 2 ag g, w_Arr Z.2.1 41 ak k, w_Arr Z.2.1 41 al ln, w_Arr Z.2.1 41 am mk, w_Arr Z.2.1 41 ao v.1])) (hS : va_S A s.heap H locs) (hl : lv_has ls 9 [(0, .ref ag), (1, .ref ak), (2, .ref al), (3, .ref am), (4, .ref ao), (5, .int v.2)]) (K1 : ∀ (H : Heap) (locs : List Loc) (ls : Array Slot) (hP : va_P Z.1 vwCl (List.flatten [w_Arr Z.2.1 2 ag g, w_Arr Z.2.1 41 ak k, w_Arr Z.2.1 41 al ln, w_Arr Z.2.1 41 am mk, w_Arr Z.2.1 41 ao X]) H) (hD : va_D A (List.flatten [w_Arr Z.2.1 2 ag g, w_Arr Z.2.1 41 ak k, w_Arr Z.2.1 41 al ln, w_Arr Z.2.1 41 am mk, w_Arr Z.2.1 41 ao X])) (hS : va_S A s.heap H locs) (hl : lv_has ls 9 [(0, .ref ag), (1, .ref ak), (2, .ref al), (3, .ref am), (4, .ref ao)]), W p l e rm_L_needs s m ([.ref ag, .ref ak, .ref al, .ref am, .ref ao] : List Value).toArray below meth c H locs 0 0 Q (F0 m 181 ls [])), W p l e rm_L_needs s m ([.ref ag, .ref ak, .ref al, .ref am, .ref ao] : List Value).toArray below meth c H locs 0 0 Q (F0 m 7 ls []) := by
    skip
    refine z_loopE (fun rec ih v X hF H locs ls hP hD hS hl K1 => ?_)
    unfold b_L_needs_7 at hF
    have J113 : ∀  (to : Rw) (x5 : Int32) (x6 : Int32) (z0 : Int32) (hF : j_L_needs_113 g k ln mk rec to x5 x6 z0 = some X) (H : Heap) (locs : List Loc) (ls : Array Slot) (hP : va_P Z.1 vwCl (List.flatten [w_Arr Z.2.1 2 ag g, w_Arr Z.2.1 41 ak k, w_Arr Z.2.1 41 al ln, w_Arr Z.2.1 41 am mk, w_Arr Z.2.1 41 ao to]) H) (hD : va_D A (List.flatten [w_Arr Z.2.1 2 ag g, w_Arr Z.2.1 41 ak k, w_Arr Z.2.1 41 al ln, w_Arr Z.2.1 41 am mk, w_Arr Z.2.1 41 ao to])) (hS : va_S A s.heap H locs) (hl : lv_has ls 9 [(0, .ref ag), (1, .ref ak), (2, .ref al), (3, .ref am), (4, .ref ao), (5, .int x5), (6, .int x6)]), W p l e rm_L_needs s m ([.ref ag, .ref ak, .ref al, .ref am, .ref ao] : List Value).toArray below meth c H locs 0 0 Q (F0 m 113 ls [.int z0]) := by
      intro to x5 x6 z0 hF H locs ls hP hD hS hl
      unfold j_L_needs_113 at hF
      refine lv_istore (lv' := [(8, .int z0), (0, .ref ag), (1, .ref ak), (2, .ref al), (3, .ref am), (4, .ref ao), (5, .int x5), (6, .int x6)]) hx hb (z_d hL_needs_1 9 rfl) hl (by decide) rfl (fun ls hl => ?_)
      refine lv_aload hx hb (z_d hL_needs_1 10 rfl) (lv_at hl 5 rfl) ?_
      refine lv_iload hx hb (z_d hL_needs_1 11 rfl) (lv_at hl 6 rfl) ?_
      refine lv_aload_n hx hb (z_d hL_needs_1 12 rfl) rfl (lv_at hl 2 rfl) ?_
      refine lv_aload_n hx hb (z_d hL_needs_1 13 rfl) rfl (lv_at hl 3 rfl) ?_
      refine lv_iload hx hb (z_d hL_needs_1 14 rfl) (lv_at hl 6 rfl) ?_
      refine z_bnd hF (fun q6 hq6 hF => ?_)
      refine z_ro_i (z_rS (As := [.ref ak, .ref al, .int x5]) (rest := [.int x5, .ref ao]) hx hb hml hown hts vs_L_splits (c_L_splits l Z ak al k ln x5 _ hq6) rfl rfl ⟨Nat.le_of_ble_eq_true rfl, Nat.le_of_ble_eq_true rfl⟩ k_m_L_27 zPro_blind (z_prec hK (zP_c (zP_reg hP 1 rfl) (zP_c (zP_reg hP 2 rfl) zP_n))) rfl hl.1 (Nat.le_of_ble_eq_true rfl) (z_d hL_needs_1 15 rfl) ⟨Nat.le_of_ble_eq_true rfl, Nat.le_of_ble_eq_true rfl⟩) hS hP (fun H locs hP hS => ?_)
      refine lv_if_eq (tgt := 145) hx hb (z_d hL_needs_1 16 rfl) (by decide) (fun hc126 => ?_) (fun hc126 => ?_)
      · have hF := z_pos hc126 hF
        refine lv_iload hx hb (z_d hL_needs_1 26 rfl) (lv_at hl 0 rfl) ?_
        refine lv_if_eq (tgt := 172) hx hb (z_d hL_needs_1 27 rfl) (by decide) (fun hc147 => ?_) (fun hc147 => ?_)
        · have hF := z_pos hc147 hF
          refine lv_iload hx hb (z_d hL_needs_1 42 rfl) (lv_at hl 7 rfl) ?_
          refine z_ix hF (fun hin hF => ?_)
          refine z_let hF (fun g7 hg7 hF => ?_)
          refine z_iast (Z := Z) (L := [w_Arr Z.2.1 2 ag g, w_Arr Z.2.1 41 ak k, w_Arr Z.2.1 41 al ln, w_Arr Z.2.1 41 am mk, w_Arr Z.2.1 41 ao to]) (L' := [w_Arr Z.2.1 2 ag g, w_Arr Z.2.1 41 ak k, w_Arr Z.2.1 41 al ln, w_Arr Z.2.1 41 am mk, w_Arr Z.2.1 41 ao g7]) (f := to) hx hb hK hP hD hS 4 rfl hin hg7 rfl (z_d hL_needs_1 43 rfl) (fun H locs hP hD hS => ?_)
          refine z_let hF (fun u8 hu8 hF => ?_)
          refine lv_iinc (v := u8) (lv' := [(5, .int u8), (8, .int z0), (0, .ref ag), (1, .ref ak), (2, .ref al), (3, .ref am), (4, .ref ao), (6, .int x6)]) hx hb (z_d hL_needs_1 44 rfl) hl (k := 6) rfl (z_incm1 hu8) (by decide) rfl (fun ls hl => ?_)
          refine lv_goto (tgt := 7) hx hb (z_d hL_needs_1 45 rfl) (by decide) ?_
          exact ih _ _ hF _ _ ls hP hD hS (lv_sub hl [2, 3, 4, 5, 6, 0] rfl) K1
        · have hF := z_neg hc147 hF
          refine lv_iload hx hb (z_d hL_needs_1 28 rfl) (lv_at hl 7 rfl) ?_
          refine lv_aload_n hx hb (z_d hL_needs_1 29 rfl) rfl (lv_at hl 2 rfl) ?_
          refine lv_iload hx hb (z_d hL_needs_1 30 rfl) (lv_at hl 6 rfl) ?_
          refine lv_iconst (v := 1) hx hb (z_d hL_needs_1 31 rfl) (by decide) ?_
          refine lv_iadd hx hb (z_d hL_needs_1 32 rfl) ?_
          refine z_let hF (fun u9 hu9 hF => ?_)
          refine lv_topE hu9 ?_
          refine z_bnd hF (fun q10 hq10 hF => ?_)
          refine z_ro_i (z_rS (As := [.ref ak, .int u9]) (rest := [.int x6, .int x5, .ref ao]) hx hb hml hown hts vs_L_blanks (c_L_blanks l Z ak k u9 _ hq10) rfl rfl ⟨Nat.le_of_ble_eq_true rfl, Nat.le_of_ble_eq_true rfl⟩ k_m_L_31 zPro_blind (z_prec hK (zP_c (zP_reg hP 1 rfl) zP_n)) rfl hl.1 (Nat.le_of_ble_eq_true rfl) (z_d hL_needs_1 33 rfl) ⟨Nat.le_of_ble_eq_true rfl, Nat.le_of_ble_eq_true rfl⟩) hS hP (fun H locs hP hS => ?_)
          refine lv_iadd hx hb (z_d hL_needs_1 34 rfl) ?_
          refine z_let hF (fun u11 hu11 hF => ?_)
          refine lv_topE hu11 ?_
          refine lv_aload hx hb (z_d hL_needs_1 35 rfl) (lv_at hl 5 rfl) ?_
          refine lv_iload hx hb (z_d hL_needs_1 36 rfl) (lv_at hl 6 rfl) ?_
          refine lv_iconst (v := 1) hx hb (z_d hL_needs_1 37 rfl) (by decide) ?_
          refine lv_iadd hx hb (z_d hL_needs_1 38 rfl) ?_
          refine z_let hF (fun u12 hu12 hF => ?_)
          refine lv_topE hu12 ?_
          refine z_ix hF (fun hin hF => ?_)
          refine va_iald (D := Z.1) (f := to) hx hb hK.1 (zP_reg hP 4 rfl) 0 0 rfl rfl hin (z_d hL_needs_1 39 rfl) ?_
          refine z_let hF (fun u13 hu13 hF => ?_)
          refine lv_topE hu13 ?_
          refine lv_iadd hx hb (z_d hL_needs_1 40 rfl) ?_
          refine z_let hF (fun u14 hu14 hF => ?_)
          refine lv_topE hu14 ?_
          refine lv_goto (tgt := 174) hx hb (z_d hL_needs_1 41 rfl) (by decide) ?_
          refine z_ix hF (fun hin hF => ?_)
          refine z_let hF (fun g15 hg15 hF => ?_)
          refine z_iast (Z := Z) (L := [w_Arr Z.2.1 2 ag g, w_Arr Z.2.1 41 ak k, w_Arr Z.2.1 41 al ln, w_Arr Z.2.1 41 am mk, w_Arr Z.2.1 41 ao to]) (L' := [w_Arr Z.2.1 2 ag g, w_Arr Z.2.1 41 ak k, w_Arr Z.2.1 41 al ln, w_Arr Z.2.1 41 am mk, w_Arr Z.2.1 41 ao g15]) (f := to) hx hb hK hP hD hS 4 rfl hin hg15 rfl (z_d hL_needs_1 43 rfl) (fun H locs hP hD hS => ?_)
          refine z_let hF (fun u16 hu16 hF => ?_)
          refine lv_iinc (v := u16) (lv' := [(5, .int u16), (8, .int z0), (0, .ref ag), (1, .ref ak), (2, .ref al), (3, .ref am), (4, .ref ao), (6, .int x6)]) hx hb (z_d hL_needs_1 44 rfl) hl (k := 6) rfl (z_incm1 hu16) (by decide) rfl (fun ls hl => ?_)
          refine lv_goto (tgt := 7) hx hb (z_d hL_needs_1 45 rfl) (by decide) ?_
          exact ih _ _ hF _ _ ls hP hD hS (lv_sub hl [2, 3, 4, 5, 6, 0] rfl) K1
      · have hF := z_neg hc126 hF
        refine lv_aload_n hx hb (z_d hL_needs_1 17 rfl) rfl (lv_at hl 2 rfl) ?_
        refine lv_iload hx hb (z_d hL_needs_1 18 rfl) (lv_at hl 6 rfl) ?_
        refine z_ix hF (fun hin hF => ?_)
        refine va_iald (D := Z.1) (f := k) hx hb hK.1 (zP_reg hP 1 rfl) 0 0 rfl rfl hin (z_d hL_needs_1 19 rfl) ?_
        refine z_let hF (fun u17 hu17 hF => ?_)
        refine lv_topE hu17 ?_
        refine lv_iconst (v := 1) hx hb (z_d hL_needs_1 20 rfl) (by decide) ?_
        refine lv_icmp_ne (tgt := 141) hx hb (z_d hL_needs_1 21 rfl) (by decide) (fun hc134 => ?_) (fun hc134 => ?_)
        · have hF := z_neg hc134 hF
          refine lv_iconst (v := 3) hx hb (z_d hL_needs_1 24 rfl) (by decide) ?_
          refine lv_goto (tgt := 174) hx hb (z_d hL_needs_1 25 rfl) (by decide) ?_
          refine z_ix hF (fun hin hF => ?_)
          refine z_let hF (fun g18 hg18 hF => ?_)
          refine z_iast (Z := Z) (L := [w_Arr Z.2.1 2 ag g, w_Arr Z.2.1 41 ak k, w_Arr Z.2.1 41 al ln, w_Arr Z.2.1 41 am mk, w_Arr Z.2.1 41 ao to]) (L' := [w_Arr Z.2.1 2 ag g, w_Arr Z.2.1 41 ak k, w_Arr Z.2.1 41 al ln, w_Arr Z.2.1 41 am mk, w_Arr Z.2.1 41 ao g18]) (f := to) hx hb hK hP hD hS 4 rfl hin hg18 rfl (z_d hL_needs_1 43 rfl) (fun H locs hP hD hS => ?_)
          refine z_let hF (fun u19 hu19 hF => ?_)
          refine lv_iinc (v := u19) (lv' := [(5, .int u19), (8, .int z0), (0, .ref ag), (1, .ref ak), (2, .ref al), (3, .ref am), (4, .ref ao), (6, .int x6)]) hx hb (z_d hL_needs_1 44 rfl) hl (k := 6) rfl (z_incm1 hu19) (by decide) rfl (fun ls hl => ?_)
          refine lv_goto (tgt := 7) hx hb (z_d hL_needs_1 45 rfl) (by decide) ?_
          exact ih _ _ hF _ _ ls hP hD hS (lv_sub hl [2, 3, 4, 5, 6, 0] rfl) K1
        · have hF := z_pos hc134 hF
          refine lv_iconst (v := 2) hx hb (z_d hL_needs_1 22 rfl) (by decide) ?_
          refine lv_goto (tgt := 174) hx hb (z_d hL_needs_1 23 rfl) (by decide) ?_
          refine z_ix hF (fun hin hF => ?_)
          refine z_let hF (fun g20 hg20 hF => ?_)
          refine z_iast (Z := Z) (L := [w_Arr Z.2.1 2 ag g, w_Arr Z.2.1 41 ak k, w_Arr Z.2.1 41 al ln, w_Arr Z.2.1 41 am mk, w_Arr Z.2.1 41 ao to]) (L' := [w_Arr Z.2.1 2 ag g, w_Arr Z.2.1 41 ak k, w_Arr Z.2.1 41 al ln, w_Arr Z.2.1 41 am mk, w_Arr Z.2.1 41 ao g20]) (f := to) hx hb hK hP hD hS 4 rfl hin hg20 rfl (z_d hL_needs_1 43 rfl) (fun H locs hP hD hS => ?_)
          refine z_let hF (fun u21 hu21 hF => ?_)
          refine lv_iinc (v := u21) (lv' := [(5, .int u21), (8, .int z0), (0, .ref ag), (1, .ref ak), (2, .ref al), (3, .ref am), (4, .ref ao), (6, .int x6)]) hx hb (z_d hL_needs_1 44 rfl) hl (k := 6) rfl (z_incm1 hu21) (by decide) rfl (fun ls hl => ?_)
          refine lv_goto (tgt := 7) hx hb (z_d hL_needs_1 45 rfl) (by decide) ?_
          exact ih _ _ hF _ _ ls hP hD hS (lv_sub hl [2, 3, 4, 5, 6, 0] rfl) K1
    have J112 : ∀  (to : Rw) (x5 : Int32) (x6 : Int32) (hF : j_L_needs_112 g k ln mk rec to x5 x6 = some X) (H : Heap) (locs : List Loc) (ls : Array Slot) (hP : va_P Z.1 vwCl (List.flatten [w_Arr Z.2.1 2 ag g, w_Arr Z.2.1 41 ak k, w_Arr Z.2.1 41 al ln, w_Arr Z.2.1 41 am mk, w_Arr Z.2.1 41 ao to]) H) (hD : va_D A (List.flatten [w_Arr Z.2.1 2 ag g, w_Arr Z.2.1 41 ak k, w_Arr Z.2.1 41 al ln, w_Arr Z.2.1 41 am mk, w_Arr Z.2.1 41 ao to])) (hS : va_S A s.heap H locs) (hl : lv_has ls 9 [(0, .ref ag), (1, .ref ak), (2, .ref al), (3, .ref am), (4, .ref ao), (5, .int x5), (6, .int x6)]), W p l e rm_L_needs s m ([.ref ag, .ref ak, .ref al, .ref am, .ref ao] : List Value).toArray below meth c H locs 0 0 Q (F0 m 112 ls []) := by
      intro to x5 x6 hF H locs ls hP hD hS hl
      unfold j_L_needs_112 at hF
      refine lv_iconst (v := 0) hx hb (z_d hL_needs_1 8 rfl) (by decide) ?_
      exact J113 to x5 x6 0 hF _ _ ls hP hD hS (lv_sub hl [0, 1, 2, 3, 4, 5, 6] rfl)
    have J108 : ∀  (to : Rw) (x5 : Int32) (x6 : Int32) (hF : j_L_needs_108 g k ln mk rec to x5 x6 = some X) (H : Heap) (locs : List Loc) (ls : Array Slot) (hP : va_P Z.1 vwCl (List.flatten [w_Arr Z.2.1 2 ag g, w_Arr Z.2.1 41 ak k, w_Arr Z.2.1 41 al ln, w_Arr Z.2.1 41 am mk, w_Arr Z.2.1 41 ao to]) H) (hD : va_D A (List.flatten [w_Arr Z.2.1 2 ag g, w_Arr Z.2.1 41 ak k, w_Arr Z.2.1 41 al ln, w_Arr Z.2.1 41 am mk, w_Arr Z.2.1 41 ao to])) (hS : va_S A s.heap H locs) (hl : lv_has ls 9 [(0, .ref ag), (1, .ref ak), (2, .ref al), (3, .ref am), (4, .ref ao), (5, .int x5), (6, .int x6)]), W p l e rm_L_needs s m ([.ref ag, .ref ak, .ref al, .ref am, .ref ao] : List Value).toArray below meth c H locs 0 0 Q (F0 m 108 ls []) := by
      intro to x5 x6 hF H locs ls hP hD hS hl
      unfold j_L_needs_108 at hF
      refine lv_iconst (v := 1) hx hb (z_d hL_needs_1 6 rfl) (by decide) ?_
      refine lv_goto (tgt := 113) hx hb (z_d hL_needs_1 7 rfl) (by decide) ?_
      exact J113 to x5 x6 1 hF _ _ ls hP hD hS (lv_sub hl [0, 1, 2, 3, 4, 5, 6] rfl)
    have J72 : ∀  (to : Rw) (x5 : Int32) (x6 : Int32) (z0 : Int32) (hF : j_L_needs_72 g k ln mk rec to x5 x6 z0 = some X) (H : Heap) (locs : List Loc) (ls : Array Slot) (hP : va_P Z.1 vwCl (List.flatten [w_Arr Z.2.1 2 ag g, w_Arr Z.2.1 41 ak k, w_Arr Z.2.1 41 al ln, w_Arr Z.2.1 41 am mk, w_Arr Z.2.1 41 ao to]) H) (hD : va_D A (List.flatten [w_Arr Z.2.1 2 ag g, w_Arr Z.2.1 41 ak k, w_Arr Z.2.1 41 al ln, w_Arr Z.2.1 41 am mk, w_Arr Z.2.1 41 ao to])) (hS : va_S A s.heap H locs) (hl : lv_has ls 9 [(0, .ref ag), (1, .ref ak), (2, .ref al), (3, .ref am), (4, .ref ao), (5, .int x5), (6, .int x6)]), W p l e rm_L_needs s m ([.ref ag, .ref ak, .ref al, .ref am, .ref ao] : List Value).toArray below meth c H locs 0 0 Q (F0 m 72 ls [.int z0]) := by
      intro to x5 x6 z0 hF H locs ls hP hD hS hl
      unfold j_L_needs_72 at hF
      refine lv_istore (lv' := [(7, .int z0), (0, .ref ag), (1, .ref ak), (2, .ref al), (3, .ref am), (4, .ref ao), (5, .int x5), (6, .int x6)]) hx hb (z_d hL_needs_0 45 rfl) hl (by decide) rfl (fun ls hl => ?_)
      refine lv_iload hx hb (z_d hL_needs_0 46 rfl) (lv_at hl 0 rfl) ?_
      refine lv_if_ne (tgt := 112) hx hb (z_d hL_needs_0 47 rfl) (by decide) (fun hc76 => ?_) (fun hc76 => ?_)
      · have hF := z_neg hc76 hF
        exact J112 to x5 x6 hF _ _ ls hP hD hS (lv_sub hl [1, 2, 3, 4, 5, 6, 7] rfl)
      · have hF := z_pos hc76 hF
        refine lv_aload_n hx hb (z_d hL_needs_0 48 rfl) rfl (lv_at hl 2 rfl) ?_
        refine lv_iload hx hb (z_d hL_needs_0 49 rfl) (lv_at hl 6 rfl) ?_
        refine z_bnd hF (fun q22 hq22 hF => ?_)
        refine z_ro_i (z_rS (As := [.ref ak, .int x5]) (rest := []) hx hb hml hown hts vs_L_heads (c_L_heads l Z ak k x5 _ hq22) rfl rfl ⟨Nat.le_of_ble_eq_true rfl, Nat.le_of_ble_eq_true rfl⟩ k_m_L_9 zPro_blind (z_prec hK (zP_c (zP_reg hP 1 rfl) zP_n)) rfl hl.1 (Nat.le_of_ble_eq_true rfl) (z_d hL_needs_0 50 rfl) ⟨Nat.le_of_ble_eq_true rfl, Nat.le_of_ble_eq_true rfl⟩) hS hP (fun H locs hP hS => ?_)
        refine lv_if_ne (tgt := 108) hx hb (z_d hL_needs_0 51 rfl) (by decide) (fun hc85 => ?_) (fun hc85 => ?_)
        · have hF := z_neg hc85 hF
          exact J108 to x5 x6 hF _ _ ls hP hD hS (lv_sub hl [1, 2, 3, 4, 5, 6, 7] rfl)
        · have hF := z_pos hc85 hF
          refine lv_aload_n hx hb (z_d hL_needs_0 52 rfl) rfl (lv_at hl 2 rfl) ?_
          refine lv_iload hx hb (z_d hL_needs_0 53 rfl) (lv_at hl 6 rfl) ?_
          refine lv_iconst (v := 1) hx hb (z_d hL_needs_0 54 rfl) (by decide) ?_
          refine lv_iadd hx hb (z_d hL_needs_0 55 rfl) ?_
          refine z_let hF (fun u23 hu23 hF => ?_)
          refine lv_topE hu23 ?_
          refine z_ix hF (fun hin hF => ?_)
          refine va_iald (D := Z.1) (f := k) hx hb hK.1 (zP_reg hP 1 rfl) 0 0 rfl rfl hin (z_d hL_needs_0 56 rfl) ?_
          refine z_let hF (fun u24 hu24 hF => ?_)
          refine lv_topE hu24 ?_
          refine lv_iconst (v := 3) hx hb (z_d hL_needs_0 57 rfl) (by decide) ?_
          refine lv_icmp_eq (tgt := 108) hx hb (z_d hL_needs_0 58 rfl) (by decide) (fun hc95 => ?_) (fun hc95 => ?_)
          · have hF := z_pos hc95 hF
            exact J108 to x5 x6 hF _ _ ls hP hD hS (lv_sub hl [1, 2, 3, 4, 5, 6, 7] rfl)
          · have hF := z_neg hc95 hF
            refine lv_aload_n hx hb (z_d hL_needs_0 59 rfl) rfl (lv_at hl 2 rfl) ?_
            refine lv_iload hx hb (z_d hL_needs_1 0 rfl) (lv_at hl 6 rfl) ?_
            refine lv_iconst (v := 1) hx hb (z_d hL_needs_1 1 rfl) (by decide) ?_
            refine lv_iadd hx hb (z_d hL_needs_1 2 rfl) ?_
            refine z_let hF (fun u25 hu25 hF => ?_)
            refine lv_topE hu25 ?_
            refine z_ix hF (fun hin hF => ?_)
            refine va_iald (D := Z.1) (f := k) hx hb hK.1 (zP_reg hP 1 rfl) 0 0 rfl rfl hin (z_d hL_needs_1 3 rfl) ?_
            refine z_let hF (fun u26 hu26 hF => ?_)
            refine lv_topE hu26 ?_
            refine lv_iconst (v := 4) hx hb (z_d hL_needs_1 4 rfl) (by decide) ?_
            refine lv_icmp_ne (tgt := 112) hx hb (z_d hL_needs_1 5 rfl) (by decide) (fun hc105 => ?_) (fun hc105 => ?_)
            · have hF := z_neg hc105 hF
              exact J112 to x5 x6 hF _ _ ls hP hD hS (lv_sub hl [1, 2, 3, 4, 5, 6, 7] rfl)
            · have hF := z_pos hc105 hF
              exact J108 to x5 x6 hF _ _ ls hP hD hS (lv_sub hl [1, 2, 3, 4, 5, 6, 7] rfl)
    have J67 : ∀  (to : Rw) (x5 : Int32) (x6 : Int32) (hF : j_L_needs_67 g k ln mk rec to x5 x6 = some X) (H : Heap) (locs : List Loc) (ls : Array Slot) (hP : va_P Z.1 vwCl (List.flatten [w_Arr Z.2.1 2 ag g, w_Arr Z.2.1 41 ak k, w_Arr Z.2.1 41 al ln, w_Arr Z.2.1 41 am mk, w_Arr Z.2.1 41 ao to]) H) (hD : va_D A (List.flatten [w_Arr Z.2.1 2 ag g, w_Arr Z.2.1 41 ak k, w_Arr Z.2.1 41 al ln, w_Arr Z.2.1 41 am mk, w_Arr Z.2.1 41 ao to])) (hS : va_S A s.heap H locs) (hl : lv_has ls 9 [(0, .ref ag), (1, .ref ak), (2, .ref al), (3, .ref am), (4, .ref ao), (5, .int x5), (6, .int x6)]), W p l e rm_L_needs s m ([.ref ag, .ref ak, .ref al, .ref am, .ref ao] : List Value).toArray below meth c H locs 0 0 Q (F0 m 67 ls []) := by
      intro to x5 x6 hF H locs ls hP hD hS hl
      unfold j_L_needs_67 at hF
      refine lv_iconst (v := 1) hx hb (z_d hL_needs_0 42 rfl) (by decide) ?_
      refine lv_goto (tgt := 72) hx hb (z_d hL_needs_0 43 rfl) (by decide) ?_
      exact J72 to x5 x6 1 hF _ _ ls hP hD hS (lv_sub hl [0, 1, 2, 3, 4, 5, 6] rfl)
    refine lv_iload hx hb (z_d hL_needs_0 6 rfl) (lv_at hl 5 rfl) ?_
    refine lv_if_lt (tgt := 181) hx hb (z_d hL_needs_0 7 rfl) (by decide) (fun hc9 => ?_) (fun hc9 => ?_)
    · have hF := z_pos hc9 hF
      obtain rfl := Option.some.inj hF
      exact K1 _ _ ls hP hD hS (lv_sub hl [0, 1, 2, 3, 4] rfl)
    · have hF := z_neg hc9 hF
      refine lv_aload_n hx hb (z_d hL_needs_0 8 rfl) rfl (lv_at hl 1 rfl) ?_
      refine lv_aload_n hx hb (z_d hL_needs_0 9 rfl) rfl (lv_at hl 2 rfl) ?_
      refine lv_iload hx hb (z_d hL_needs_0 10 rfl) (lv_at hl 5 rfl) ?_
      refine z_bnd hF (fun q3 hq3 hF => ?_)
      refine z_ro_i (z_rS (As := [.ref ak, .ref al, .int v.2]) (rest := []) hx hb hml hown hts vs_L_lines (c_L_lines l Z ak al k ln v.2 _ hq3) rfl rfl ⟨Nat.le_of_ble_eq_true rfl, Nat.le_of_ble_eq_true rfl⟩ k_m_L_23 zPro_blind (z_prec hK (zP_c (zP_reg hP 1 rfl) (zP_c (zP_reg hP 2 rfl) zP_n))) rfl hl.1 (Nat.le_of_ble_eq_true rfl) (z_d hL_needs_0 11 rfl) ⟨Nat.le_of_ble_eq_true rfl, Nat.le_of_ble_eq_true rfl⟩) hS hP (fun H locs hP hS => ?_)
      refine lv_istore (lv' := [(6, .int q3), (0, .ref ag), (1, .ref ak), (2, .ref al), (3, .ref am), (4, .ref ao), (5, .int v.2)]) hx hb (z_d hL_needs_0 12 rfl) hl (by decide) rfl (fun ls hl => ?_)
      refine lv_iload hx hb (z_d hL_needs_0 13 rfl) (lv_at hl 6 rfl) ?_
      refine lv_iconst (v := 1) hx hb (z_d hL_needs_0 14 rfl) (by decide) ?_
      refine lv_iadd hx hb (z_d hL_needs_0 15 rfl) ?_
      refine z_let hF (fun u4 hu4 hF => ?_)
      refine lv_topE hu4 ?_
      refine lv_aload_n hx hb (z_d hL_needs_0 16 rfl) rfl (lv_at hl 1 rfl) ?_
      refine lv_iconst (v := 0) hx hb (z_d hL_needs_0 17 rfl) (by decide) ?_
      refine z_ix hF (fun hin hF => ?_)
      refine va_iald (D := Z.1) (f := g) hx hb hK.1 (zP_reg hP 0 rfl) 0 0 rfl rfl hin (z_d hL_needs_0 18 rfl) ?_
      refine z_let hF (fun u5 hu5 hF => ?_)
      refine lv_topE hu5 ?_
      refine lv_icmp_eq (tgt := 67) hx hb (z_d hL_needs_0 19 rfl) (by decide) (fun hc28 => ?_) (fun hc28 => ?_)
      · have hF := z_pos hc28 hF
        exact J67 v.1 v.2 q3 hF _ _ ls hP hD hS (lv_sub hl [1, 2, 3, 4, 5, 6, 0] rfl)
      · have hF := z_neg hc28 hF
        refine lv_aload_n hx hb (z_d hL_needs_0 20 rfl) rfl (lv_at hl 2 rfl) ?_
        refine lv_iload hx hb (z_d hL_needs_0 21 rfl) (lv_at hl 6 rfl) ?_
        refine z_ix hF (fun hin hF => ?_)
        refine va_iald (D := Z.1) (f := k) hx hb hK.1 (zP_reg hP 1 rfl) 0 0 rfl rfl hin (z_d hL_needs_0 22 rfl) ?_
        refine z_let hF (fun u27 hu27 hF => ?_)
        refine lv_topE hu27 ?_
        refine lv_iconst (v := 1) hx hb (z_d hL_needs_0 23 rfl) (by decide) ?_
        refine lv_icmp_eq (tgt := 67) hx hb (z_d hL_needs_0 24 rfl) (by decide) (fun hc36 => ?_) (fun hc36 => ?_)
        · have hF := z_pos hc36 hF
          exact J67 v.1 v.2 q3 hF _ _ ls hP hD hS (lv_sub hl [1, 2, 3, 4, 5, 6, 0] rfl)
        · have hF := z_neg hc36 hF
          refine lv_aload_n hx hb (z_d hL_needs_0 25 rfl) rfl (lv_at hl 2 rfl) ?_
          refine lv_iload hx hb (z_d hL_needs_0 26 rfl) (lv_at hl 6 rfl) ?_
          refine z_ix hF (fun hin hF => ?_)
          refine va_iald (D := Z.1) (f := k) hx hb hK.1 (zP_reg hP 1 rfl) 0 0 rfl rfl hin (z_d hL_needs_0 27 rfl) ?_
          refine z_let hF (fun u28 hu28 hF => ?_)
          refine lv_topE hu28 ?_
          refine lv_iconst (v := 3) hx hb (z_d hL_needs_0 28 rfl) (by decide) ?_
          refine lv_icmp_eq (tgt := 67) hx hb (z_d hL_needs_0 29 rfl) (by decide) (fun hc44 => ?_) (fun hc44 => ?_)
          · have hF := z_pos hc44 hF
            exact J67 v.1 v.2 q3 hF _ _ ls hP hD hS (lv_sub hl [1, 2, 3, 4, 5, 6, 0] rfl)
          · have hF := z_neg hc44 hF
            refine lv_aload_n hx hb (z_d hL_needs_0 30 rfl) rfl (lv_at hl 4 rfl) ?_
            refine lv_iload hx hb (z_d hL_needs_0 31 rfl) (lv_at hl 6 rfl) ?_
            refine lv_iconst (v := 1) hx hb (z_d hL_needs_0 32 rfl) (by decide) ?_
            refine lv_iadd hx hb (z_d hL_needs_0 33 rfl) ?_
            refine z_let hF (fun u29 hu29 hF => ?_)
            refine lv_topE hu29 ?_
            refine z_ix hF (fun hin hF => ?_)
            refine va_iald (D := Z.1) (f := mk) hx hb hK.1 (zP_reg hP 3 rfl) 0 0 rfl rfl hin (z_d hL_needs_0 34 rfl) ?_
            refine z_let hF (fun u30 hu30 hF => ?_)
            refine lv_topE hu30 ?_
            refine lv_if_gt (tgt := 67) hx hb (z_d hL_needs_0 35 rfl) (by decide) (fun hc53 => ?_) (fun hc53 => ?_)
            · have hF := z_pos hc53 hF
              exact J67 v.1 v.2 q3 hF _ _ ls hP hD hS (lv_sub hl [1, 2, 3, 4, 5, 6, 0] rfl)
            · have hF := z_neg hc53 hF
              refine lv_aload_n hx hb (z_d hL_needs_0 36 rfl) rfl (lv_at hl 2 rfl) ?_
              refine lv_iload hx hb (z_d hL_needs_0 37 rfl) (lv_at hl 6 rfl) ?_
              refine lv_iconst (v := 1) hx hb (z_d hL_needs_0 38 rfl) (by decide) ?_
              refine lv_iadd hx hb (z_d hL_needs_0 39 rfl) ?_
              refine z_let hF (fun u31 hu31 hF => ?_)
              refine lv_topE hu31 ?_
              refine z_bnd hF (fun q32 hq32 hF => ?_)
              refine z_ro_i (z_rS (As := [.ref ak, .int u31]) (rest := []) hx hb hml hown hts vs_L_heads (c_L_heads l Z ak k u31 _ hq32) rfl rfl ⟨Nat.le_of_ble_eq_true rfl, Nat.le_of_ble_eq_true rfl⟩ k_m_L_9 zPro_blind (z_prec hK (zP_c (zP_reg hP 1 rfl) zP_n)) rfl hl.1 (Nat.le_of_ble_eq_true rfl) (z_d hL_needs_0 40 rfl) ⟨Nat.le_of_ble_eq_true rfl, Nat.le_of_ble_eq_true rfl⟩) hS hP (fun H locs hP hS => ?_)
              refine lv_if_eq (tgt := 71) hx hb (z_d hL_needs_0 41 rfl) (by decide) (fun hc64 => ?_) (fun hc64 => ?_)
              · have hF := z_pos hc64 hF
                refine lv_iconst (v := 0) hx hb (z_d hL_needs_0 44 rfl) (by decide) ?_
                exact J72 v.1 v.2 q3 0 hF _ _ ls hP hD hS (lv_sub hl [1, 2, 3, 4, 5, 6, 0] rfl)
              · have hF := z_neg hc64 hF
                exact J67 v.1 v.2 q3 hF _ _ ls hP hD hS (lv_sub hl [1, 2, 3, 4, 5, 6, 0] rfl)
  refine lv_aload_n hx hb (z_d hL_needs_0 0 rfl) rfl (lv_at hl 0 rfl) ?_
  refine lv_iconst (v := 0) hx hb (z_d hL_needs_0 1 rfl) (by decide) ?_
  refine z_ix hF (fun hin hF => ?_)
  refine va_iald (D := Z.1) (f := g) hx hb hK.1 (zP_reg hP 0 rfl) 0 0 rfl rfl hin (z_d hL_needs_0 2 rfl) ?_
  refine z_let hF (fun u1 hu1 hF => ?_)
  refine lv_topE hu1 ?_
  refine lv_iconst (v := 1) hx hb (z_d hL_needs_0 3 rfl) (by decide) ?_
  refine lv_isub hx hb (z_d hL_needs_0 4 rfl) ?_
  refine z_let hF (fun u2 hu2 hF => ?_)
  refine lv_topE hu2 ?_
  refine lv_istore (lv' := [(5, .int u2), (0, .ref ag), (1, .ref ak), (2, .ref al), (3, .ref am), (4, .ref ao)]) hx hb (z_d hL_needs_0 5 rfl) hl (by decide) rfl (fun ls hl => ?_)
  refine z_bnd hF (fun q33 hq33 hF => ?_)
  refine L7  _ _ _ hq33 _ _ ls hP hD hS (lv_sub hl [1, 2, 3, 4, 5, 0] rfl) (fun H locs ls hP hD hS hl => ?_)
  obtain rfl := Option.some.inj hF
  subst hQ
  subst hA
  exact W.vret hx hb hr (fun t ht hW => zq_mu (by rw [ht]; exact hP) (hS.F ht)) hS.2.2 (z_d hL_needs_1 46 rfl) hlocks
def rm_L_hasTwo : Room := { frames := 2, cells := 1, slots := 41, locals := 50 }
set_option maxRecDepth 100000 in
set_option maxHeartbeats 4000000 in
theorem c_L_hasTwo (l : Launch) (hlt : l.stackTraces = false) (Z : zZ) (sa : Nat → Nat) (sz : Nat) (ag : Nat) (ak : Nat) (ab : Nat) (g : Rw) (k : Rw) (lb : Rw) (R : Int32) (hF : L_hasTwo g k lb = some R) : zKM l yL_hasTwo (zw yL_hasTwo cL_hasTwo 7 (some .boolean)) rm_L_hasTwo Z sa sz [.ref ag, .ref ak, .ref ab] (List.flatten [w_Arr Z.2.1 2 ag g, w_Arr Z.2.1 41 ak k, w_Arr Z.2.1 41 ab lb]) (List.flatten [w_Arr Z.2.1 2 ag g, w_Arr Z.2.1 41 ak k, w_Arr Z.2.1 41 ab lb]) (some (.int R)) 1 41 := by
  refine zKM_of (by decide) (Nat.le_of_ble_eq_true rfl) (fun p e s m below meth c hx hb hr hml hown hts hlocks hK hT hN A hA hA0 Q hQ ls hl hP hD hS => ?_)
  rw [← hA] at hT
  unfold L_hasTwo at hF
  have hl : lv_has ls 7 [(0, .ref ag), (1, .ref ak), (2, .ref ab)] := hl
  have hown : s.vm.findClass RL = some m.cls := hown
  have L18 : ∀ (a91 : Nat) (ya91 : Rw) (n : Nat) (v : Int32 × Int32) (X : Int32) (hF : zloop (b_L_hasTwo_18 g k lb ya91) n v = some X) (H : Heap) (locs : List Loc) (ls : Array Slot) (hP : va_P Z.1 vwCl (List.flatten [w_Arr Z.2.1 2 ag g, w_Arr Z.2.1 41 ak k, w_Arr Z.2.1 41 ab lb, w_Arr Z.2.1 41 a91 ya91]) H) (hD : va_D A (List.flatten [w_Arr Z.2.1 2 ag g, w_Arr Z.2.1 41 ak k, w_Arr Z.2.1 41 ab lb, w_Arr Z.2.1 41 a91 ya91])) (hS : va_S A s.heap H locs) (hl : lv_has ls 7 [(0, .ref ag), (1, .ref ak), (2, .ref ab), (3, .ref a91), (4, .int v.1), (5, .int v.2)]) (K1 : ∀ (H : Heap) (locs : List Loc) (ls : Array Slot) (hP : va_P Z.1 vwCl (List.flatten [w_Arr Z.2.1 2 ag g, w_Arr Z.2.1 41 ak k, w_Arr Z.2.1 41 ab lb, w_Arr Z.2.1 41 a91 ya91]) H) (hD : va_D A (List.flatten [w_Arr Z.2.1 2 ag g, w_Arr Z.2.1 41 ak k, w_Arr Z.2.1 41 ab lb, w_Arr Z.2.1 41 a91 ya91])) (hS : va_S A s.heap H locs) (hl : lv_has ls 7 [(0, .ref ag), (1, .ref ak), (2, .ref ab), (4, .int X)]), W p l e rm_L_hasTwo s m ([.ref ag, .ref ak, .ref ab] : List Value).toArray below meth c H locs 1 41 Q (F0 m 93 ls [])), W p l e rm_L_hasTwo s m ([.ref ag, .ref ak, .ref ab] : List Value).toArray below meth c H locs 1 41 Q (F0 m 18 ls []) := by
    intro a91 ya91
    refine z_loopE (fun rec ih v X hF H locs ls hP hD hS hl K1 => ?_)
    unfold b_L_hasTwo_18 at hF
    have L32 : ∀ (a91 : Nat) (ya91 : Rw) (x5 : Int32) (n : Nat) (v : Int32 × Int32) (X : Int32) (hF : zloop (b_L_hasTwo_32 g k lb ya91 x5) n v = some X) (H : Heap) (locs : List Loc) (ls : Array Slot) (hP : va_P Z.1 vwCl (List.flatten [w_Arr Z.2.1 2 ag g, w_Arr Z.2.1 41 ak k, w_Arr Z.2.1 41 ab lb, w_Arr Z.2.1 41 a91 ya91]) H) (hD : va_D A (List.flatten [w_Arr Z.2.1 2 ag g, w_Arr Z.2.1 41 ak k, w_Arr Z.2.1 41 ab lb, w_Arr Z.2.1 41 a91 ya91])) (hS : va_S A s.heap H locs) (hl : lv_has ls 7 [(0, .ref ag), (1, .ref ak), (2, .ref ab), (3, .ref a91), (4, .int v.1), (5, .int x5), (6, .int v.2)]) (K1 : ∀ (H : Heap) (locs : List Loc) (ls : Array Slot) (hP : va_P Z.1 vwCl (List.flatten [w_Arr Z.2.1 2 ag g, w_Arr Z.2.1 41 ak k, w_Arr Z.2.1 41 ab lb, w_Arr Z.2.1 41 a91 ya91]) H) (hD : va_D A (List.flatten [w_Arr Z.2.1 2 ag g, w_Arr Z.2.1 41 ak k, w_Arr Z.2.1 41 ab lb, w_Arr Z.2.1 41 a91 ya91])) (hS : va_S A s.heap H locs) (hl : lv_has ls 7 [(0, .ref ag), (1, .ref ak), (2, .ref ab), (3, .ref a91), (4, .int X), (5, .int x5)]), W p l e rm_L_hasTwo s m ([.ref ag, .ref ak, .ref ab] : List Value).toArray below meth c H locs 1 41 Q (F0 m 87 ls [])), W p l e rm_L_hasTwo s m ([.ref ag, .ref ak, .ref ab] : List Value).toArray below meth c H locs 1 41 Q (F0 m 32 ls []) := by
      intro a91 ya91 x5
      refine z_loopE (fun rec ih v X hF H locs ls hP hD hS hl K1 => ?_)
      unfold b_L_hasTwo_32 at hF
      refine lv_iload hx hb (z_d hL_hasTwo_0 21 rfl) (lv_at hl 6 rfl) ?_
      refine lv_aload_n hx hb (z_d hL_hasTwo_0 22 rfl) rfl (lv_at hl 0 rfl) ?_
      refine lv_iconst (v := 0) hx hb (z_d hL_hasTwo_0 23 rfl) (by decide) ?_
      refine z_ix hF (fun hin hF => ?_)
      refine va_iald (D := Z.1) (f := g) hx hb hK.1 (zP_reg hP 0 rfl) 0 0 rfl rfl hin (z_d hL_hasTwo_0 24 rfl) ?_
      refine z_let hF (fun u4 hu4 hF => ?_)
      refine lv_topE hu4 ?_
      refine lv_icmp_ge (tgt := 87) hx hb (z_d hL_hasTwo_0 25 rfl) (by decide) (fun hc37 => ?_) (fun hc37 => ?_)
      · have hF := z_pos hc37 hF
        obtain rfl := Option.some.inj hF
        exact K1 _ _ ls hP hD hS (lv_sub hl [0, 1, 2, 3, 4, 5] rfl)
      · have hF := z_neg hc37 hF
        refine lv_iload hx hb (z_d hL_hasTwo_0 26 rfl) (lv_at hl 4 rfl) ?_
        refine lv_if_ne (tgt := 74) hx hb (z_d hL_hasTwo_0 27 rfl) (by decide) (fun hc42 => ?_) (fun hc42 => ?_)
        · have hF := z_neg hc42 hF
          refine lv_iconst (v := 1) hx hb (z_d hL_hasTwo_0 43 rfl) (by decide) ?_
          refine lv_goto (tgt := 79) hx hb (z_d hL_hasTwo_0 44 rfl) (by decide) ?_
          refine lv_istore (lv' := [(4, .int 1), (0, .ref ag), (1, .ref ak), (2, .ref ab), (3, .ref a91), (5, .int x5), (6, .int v.2)]) hx hb (z_d hL_hasTwo_0 46 rfl) hl (by decide) rfl (fun ls hl => ?_)
          refine z_let hF (fun u5 hu5 hF => ?_)
          refine lv_iinc (v := u5) (lv' := [(6, .int u5), (4, .int 1), (0, .ref ag), (1, .ref ak), (2, .ref ab), (3, .ref a91), (5, .int x5)]) hx hb (z_d hL_hasTwo_0 47 rfl) hl (k := 6) rfl (z_inc1 hu5) (by decide) rfl (fun ls hl => ?_)
          refine lv_goto (tgt := 32) hx hb (z_d hL_hasTwo_0 48 rfl) (by decide) ?_
          exact ih _ _ hF _ _ ls hP hD hS (lv_sub hl [2, 3, 4, 5, 1, 6, 0] rfl) K1
        · have hF := z_pos hc42 hF
          refine lv_aload_n hx hb (z_d hL_hasTwo_0 28 rfl) rfl (lv_at hl 1 rfl) ?_
          refine lv_iload hx hb (z_d hL_hasTwo_0 29 rfl) (lv_at hl 5 rfl) ?_
          refine z_bnd hF (fun q6 hq6 hF => ?_)
          refine z_ro_i (z_rS (As := [.ref ak, .int x5]) (rest := []) hx hb hml hown hts vs_L_heads (c_L_heads l Z ak k x5 _ hq6) rfl rfl ⟨Nat.le_of_ble_eq_true rfl, Nat.le_of_ble_eq_true rfl⟩ k_m_L_9 zPro_blind (z_prec hK (zP_c (zP_reg hP 1 rfl) zP_n)) rfl hl.1 (Nat.le_of_ble_eq_true rfl) (z_d hL_hasTwo_0 30 rfl) ⟨Nat.le_of_ble_eq_true rfl, Nat.le_of_ble_eq_true rfl⟩) hS hP (fun H locs hP hS => ?_)
          refine lv_if_eq (tgt := 78) hx hb (z_d hL_hasTwo_0 31 rfl) (by decide) (fun hc51 => ?_) (fun hc51 => ?_)
          · have hF := z_pos hc51 hF
            refine lv_iconst (v := 0) hx hb (z_d hL_hasTwo_0 45 rfl) (by decide) ?_
            refine lv_istore (lv' := [(4, .int 0), (0, .ref ag), (1, .ref ak), (2, .ref ab), (3, .ref a91), (5, .int x5), (6, .int v.2)]) hx hb (z_d hL_hasTwo_0 46 rfl) hl (by decide) rfl (fun ls hl => ?_)
            refine z_let hF (fun u7 hu7 hF => ?_)
            refine lv_iinc (v := u7) (lv' := [(6, .int u7), (4, .int 0), (0, .ref ag), (1, .ref ak), (2, .ref ab), (3, .ref a91), (5, .int x5)]) hx hb (z_d hL_hasTwo_0 47 rfl) hl (k := 6) rfl (z_inc1 hu7) (by decide) rfl (fun ls hl => ?_)
            refine lv_goto (tgt := 32) hx hb (z_d hL_hasTwo_0 48 rfl) (by decide) ?_
            exact ih _ _ hF _ _ ls hP hD hS (lv_sub hl [2, 3, 4, 5, 1, 6, 0] rfl) K1
          · have hF := z_neg hc51 hF
            refine lv_aload_n hx hb (z_d hL_hasTwo_0 32 rfl) rfl (lv_at hl 1 rfl) ?_
            refine lv_iload hx hb (z_d hL_hasTwo_0 33 rfl) (lv_at hl 6 rfl) ?_
            refine z_bnd hF (fun q8 hq8 hF => ?_)
            refine z_ro_i (z_rS (As := [.ref ak, .int v.2]) (rest := []) hx hb hml hown hts vs_L_heads (c_L_heads l Z ak k v.2 _ hq8) rfl rfl ⟨Nat.le_of_ble_eq_true rfl, Nat.le_of_ble_eq_true rfl⟩ k_m_L_9 zPro_blind (z_prec hK (zP_c (zP_reg hP 1 rfl) zP_n)) rfl hl.1 (Nat.le_of_ble_eq_true rfl) (z_d hL_hasTwo_0 34 rfl) ⟨Nat.le_of_ble_eq_true rfl, Nat.le_of_ble_eq_true rfl⟩) hS hP (fun H locs hP hS => ?_)
            refine lv_if_eq (tgt := 78) hx hb (z_d hL_hasTwo_0 35 rfl) (by decide) (fun hc60 => ?_) (fun hc60 => ?_)
            · have hF := z_pos hc60 hF
              refine lv_iconst (v := 0) hx hb (z_d hL_hasTwo_0 45 rfl) (by decide) ?_
              refine lv_istore (lv' := [(4, .int 0), (0, .ref ag), (1, .ref ak), (2, .ref ab), (3, .ref a91), (5, .int x5), (6, .int v.2)]) hx hb (z_d hL_hasTwo_0 46 rfl) hl (by decide) rfl (fun ls hl => ?_)
              refine z_let hF (fun u9 hu9 hF => ?_)
              refine lv_iinc (v := u9) (lv' := [(6, .int u9), (4, .int 0), (0, .ref ag), (1, .ref ak), (2, .ref ab), (3, .ref a91), (5, .int x5)]) hx hb (z_d hL_hasTwo_0 47 rfl) hl (k := 6) rfl (z_inc1 hu9) (by decide) rfl (fun ls hl => ?_)
              refine lv_goto (tgt := 32) hx hb (z_d hL_hasTwo_0 48 rfl) (by decide) ?_
              exact ih _ _ hF _ _ ls hP hD hS (lv_sub hl [2, 3, 4, 5, 1, 6, 0] rfl) K1
            · have hF := z_neg hc60 hF
              refine lv_aload_n hx hb (z_d hL_hasTwo_0 36 rfl) rfl (lv_at hl 3 rfl) ?_
              refine lv_iload hx hb (z_d hL_hasTwo_0 37 rfl) (lv_at hl 5 rfl) ?_
              refine z_ix hF (fun hin hF => ?_)
              refine va_iald (D := Z.1) (f := ya91) hx hb hK.1 (zP_reg hP 3 rfl) 0 0 rfl rfl hin (z_d hL_hasTwo_0 38 rfl) ?_
              refine z_let hF (fun u10 hu10 hF => ?_)
              refine lv_topE hu10 ?_
              refine lv_aload_n hx hb (z_d hL_hasTwo_0 39 rfl) rfl (lv_at hl 3 rfl) ?_
              refine lv_iload hx hb (z_d hL_hasTwo_0 40 rfl) (lv_at hl 6 rfl) ?_
              refine z_ix hF (fun hin hF => ?_)
              refine va_iald (D := Z.1) (f := ya91) hx hb hK.1 (zP_reg hP 3 rfl) 0 0 rfl rfl hin (z_d hL_hasTwo_0 41 rfl) ?_
              refine z_let hF (fun u11 hu11 hF => ?_)
              refine lv_topE hu11 ?_
              refine lv_icmp_ne (tgt := 78) hx hb (z_d hL_hasTwo_0 42 rfl) (by decide) (fun hc71 => ?_) (fun hc71 => ?_)
              · have hF := z_neg hc71 hF
                refine lv_iconst (v := 0) hx hb (z_d hL_hasTwo_0 45 rfl) (by decide) ?_
                refine lv_istore (lv' := [(4, .int 0), (0, .ref ag), (1, .ref ak), (2, .ref ab), (3, .ref a91), (5, .int x5), (6, .int v.2)]) hx hb (z_d hL_hasTwo_0 46 rfl) hl (by decide) rfl (fun ls hl => ?_)
                refine z_let hF (fun u12 hu12 hF => ?_)
                refine lv_iinc (v := u12) (lv' := [(6, .int u12), (4, .int 0), (0, .ref ag), (1, .ref ak), (2, .ref ab), (3, .ref a91), (5, .int x5)]) hx hb (z_d hL_hasTwo_0 47 rfl) hl (k := 6) rfl (z_inc1 hu12) (by decide) rfl (fun ls hl => ?_)
                refine lv_goto (tgt := 32) hx hb (z_d hL_hasTwo_0 48 rfl) (by decide) ?_
                exact ih _ _ hF _ _ ls hP hD hS (lv_sub hl [2, 3, 4, 5, 1, 6, 0] rfl) K1
              · have hF := z_pos hc71 hF
                refine lv_iconst (v := 1) hx hb (z_d hL_hasTwo_0 43 rfl) (by decide) ?_
                refine lv_goto (tgt := 79) hx hb (z_d hL_hasTwo_0 44 rfl) (by decide) ?_
                refine lv_istore (lv' := [(4, .int 1), (0, .ref ag), (1, .ref ak), (2, .ref ab), (3, .ref a91), (5, .int x5), (6, .int v.2)]) hx hb (z_d hL_hasTwo_0 46 rfl) hl (by decide) rfl (fun ls hl => ?_)
                refine z_let hF (fun u13 hu13 hF => ?_)
                refine lv_iinc (v := u13) (lv' := [(6, .int u13), (4, .int 1), (0, .ref ag), (1, .ref ak), (2, .ref ab), (3, .ref a91), (5, .int x5)]) hx hb (z_d hL_hasTwo_0 47 rfl) hl (k := 6) rfl (z_inc1 hu13) (by decide) rfl (fun ls hl => ?_)
                refine lv_goto (tgt := 32) hx hb (z_d hL_hasTwo_0 48 rfl) (by decide) ?_
                exact ih _ _ hF _ _ ls hP hD hS (lv_sub hl [2, 3, 4, 5, 1, 6, 0] rfl) K1
    refine lv_iload hx hb (z_d hL_hasTwo_0 12 rfl) (lv_at hl 5 rfl) ?_
    refine lv_aload_n hx hb (z_d hL_hasTwo_0 13 rfl) rfl (lv_at hl 0 rfl) ?_
    refine lv_iconst (v := 0) hx hb (z_d hL_hasTwo_0 14 rfl) (by decide) ?_
    refine z_ix hF (fun hin hF => ?_)
    refine va_iald (D := Z.1) (f := g) hx hb hK.1 (zP_reg hP 0 rfl) 0 0 rfl rfl hin (z_d hL_hasTwo_0 15 rfl) ?_
    refine z_let hF (fun u2 hu2 hF => ?_)
    refine lv_topE hu2 ?_
    refine lv_icmp_ge (tgt := 93) hx hb (z_d hL_hasTwo_0 16 rfl) (by decide) (fun hc23 => ?_) (fun hc23 => ?_)
    · have hF := z_pos hc23 hF
      obtain rfl := Option.some.inj hF
      exact K1 _ _ ls hP hD hS (lv_sub hl [0, 1, 2, 4] rfl)
    · have hF := z_neg hc23 hF
      refine lv_iload hx hb (z_d hL_hasTwo_0 17 rfl) (lv_at hl 5 rfl) ?_
      refine lv_iconst (v := 1) hx hb (z_d hL_hasTwo_0 18 rfl) (by decide) ?_
      refine lv_iadd hx hb (z_d hL_hasTwo_0 19 rfl) ?_
      refine z_let hF (fun u3 hu3 hF => ?_)
      refine lv_topE hu3 ?_
      refine lv_istore (lv' := [(6, .int u3), (0, .ref ag), (1, .ref ak), (2, .ref ab), (3, .ref a91), (4, .int v.1), (5, .int v.2)]) hx hb (z_d hL_hasTwo_0 20 rfl) hl (by decide) rfl (fun ls hl => ?_)
      refine z_bnd hF (fun q14 hq14 hF => ?_)
      refine L32 a91 ya91 v.2 _ _ _ hq14 _ _ ls hP hD hS (lv_sub hl [1, 2, 3, 4, 5, 6, 0] rfl) (fun H locs ls hP hD hS hl => ?_)
      refine z_let hF (fun u15 hu15 hF => ?_)
      refine lv_iinc (v := u15) (lv' := [(5, .int u15), (0, .ref ag), (1, .ref ak), (2, .ref ab), (3, .ref a91), (4, .int q14)]) hx hb (z_d hL_hasTwo_0 49 rfl) hl (k := 5) rfl (z_inc1 hu15) (by decide) rfl (fun ls hl => ?_)
      refine lv_goto (tgt := 18) hx hb (z_d hL_hasTwo_0 50 rfl) (by decide) ?_
      exact ih _ _ hF _ _ ls hP hD hS (lv_sub hl [1, 2, 3, 4, 5, 0] rfl) K1
  refine lv_bipush (v := 41) hx hb (z_d hL_hasTwo_0 0 rfl) (by decide) ?_
  refine z_newarr (Z := Z) (L := [w_Arr Z.2.1 2 ag g, w_Arr Z.2.1 41 ak k, w_Arr Z.2.1 41 ab lb]) (N' := 41) hx hb (hts _ k_a_int) hK hP hD hS hA0 (by decide) (by decide) (Nat.le_of_ble_eq_true rfl) (Nat.le_of_ble_eq_true rfl) (Nat.le_of_ble_eq_true rfl) (z_d hL_hasTwo_0 1 rfl) (fun a91 H hP hD hS => ?_)
  have hP : va_P Z.1 vwCl (List.flatten [w_Arr Z.2.1 2 ag g, w_Arr Z.2.1 41 ak k, w_Arr Z.2.1 41 ab lb, w_Arr Z.2.1 41 a91 z0R]) H := hP
  have hD : va_D A (List.flatten [w_Arr Z.2.1 2 ag g, w_Arr Z.2.1 41 ak k, w_Arr Z.2.1 41 ab lb, w_Arr Z.2.1 41 a91 z0R]) := hD
  refine W.eq (g2 := F0 m 4 ls [.ref a91]) rfl ?_
  refine lv_astore_n (lv' := [(3, .ref a91), (0, .ref ag), (1, .ref ak), (2, .ref ab)]) hx hb (z_d hL_hasTwo_0 2 rfl) rfl hl (by decide) rfl (fun ls hl => ?_)
  refine lv_aload_n hx hb (z_d hL_hasTwo_0 3 rfl) rfl (lv_at hl 1 rfl) ?_
  refine lv_aload_n hx hb (z_d hL_hasTwo_0 4 rfl) rfl (lv_at hl 2 rfl) ?_
  refine lv_aload_n hx hb (z_d hL_hasTwo_0 5 rfl) rfl (lv_at hl 3 rfl) ?_
  refine lv_aload_n hx hb (z_d hL_hasTwo_0 6 rfl) rfl (lv_at hl 0 rfl) ?_
  refine z_bnd hF (fun q1 hq1 hF => ?_)
  refine z_muN (L := [w_Arr Z.2.1 2 ag g, w_Arr Z.2.1 41 ak k, w_Arr Z.2.1 41 ab lb, w_Arr Z.2.1 41 a91 z0R]) (L' := [w_Arr Z.2.1 2 ag g, w_Arr Z.2.1 41 ak k, w_Arr Z.2.1 41 ab lb, w_Arr Z.2.1 41 a91 q1]) [(0, w_Arr Z.2.1 2 ag g, w_Arr Z.2.1 2 ag g), (1, w_Arr Z.2.1 41 ak k, w_Arr Z.2.1 41 ak k), (2, w_Arr Z.2.1 41 ab lb, w_Arr Z.2.1 41 ab lb), (3, w_Arr Z.2.1 41 a91 z0R, w_Arr Z.2.1 41 a91 q1)] (z_rS (As := [.ref ag, .ref ak, .ref ab, .ref a91]) (rest := []) hx hb hml hown hts vs_L_labels (c_L_labels l Z ag ak ab a91 g k lb z0R _ hq1) rfl rfl ⟨Nat.le_of_ble_eq_true rfl, Nat.le_of_ble_eq_true rfl⟩ k_m_L_15 zPmu_blind (z_prem hK (zP_c (zP_reg hP 0 rfl) (zP_c (zP_reg hP 1 rfl) (zP_c (zP_reg hP 2 rfl) (zP_c (zP_reg hP 3 rfl) zP_n)))) (zDq [(0, w_Arr Z.2.1 2 ag g, w_Arr Z.2.1 2 ag g), (1, w_Arr Z.2.1 41 ak k, w_Arr Z.2.1 41 ak k), (2, w_Arr Z.2.1 41 ab lb, w_Arr Z.2.1 41 ab lb), (3, w_Arr Z.2.1 41 a91 z0R, w_Arr Z.2.1 41 a91 q1)] hD (List.forall_mem_cons.mpr ⟨⟨rfl, rfl⟩, (List.forall_mem_cons.mpr ⟨⟨rfl, rfl⟩, (List.forall_mem_cons.mpr ⟨⟨rfl, rfl⟩, (List.forall_mem_cons.mpr ⟨⟨rfl, rfl⟩, (fun _ h => absurd h List.not_mem_nil)⟩)⟩)⟩)⟩) (show List.Nodup [0, 1, 2, 3] by decide))) rfl hl.1 (Nat.le_of_ble_eq_true rfl) (z_d hL_hasTwo_0 7 rfl) ⟨Nat.le_of_ble_eq_true rfl, Nat.le_of_ble_eq_true rfl⟩) hS hP hD (List.forall_mem_cons.mpr ⟨⟨rfl, rfl⟩, (List.forall_mem_cons.mpr ⟨⟨rfl, rfl⟩, (List.forall_mem_cons.mpr ⟨⟨rfl, rfl⟩, (List.forall_mem_cons.mpr ⟨⟨rfl, rfl⟩, (fun _ h => absurd h List.not_mem_nil)⟩)⟩)⟩)⟩) (show List.Nodup [0, 1, 2, 3] by decide) rfl rfl rfl (fun H locs hP hD hS => ?_)
  refine W.eq (g2 := F0 m 12 ls []) rfl ?_
  refine lv_iconst (v := 0) hx hb (z_d hL_hasTwo_0 8 rfl) (by decide) ?_
  refine lv_istore (lv' := [(4, .int 0), (3, .ref a91), (0, .ref ag), (1, .ref ak), (2, .ref ab)]) hx hb (z_d hL_hasTwo_0 9 rfl) hl (by decide) rfl (fun ls hl => ?_)
  refine lv_iconst (v := 0) hx hb (z_d hL_hasTwo_0 10 rfl) (by decide) ?_
  refine lv_istore (lv' := [(5, .int 0), (4, .int 0), (3, .ref a91), (0, .ref ag), (1, .ref ak), (2, .ref ab)]) hx hb (z_d hL_hasTwo_0 11 rfl) hl (by decide) rfl (fun ls hl => ?_)
  refine z_bnd hF (fun q16 hq16 hF => ?_)
  refine L18 a91 q1 _ _ _ hq16 _ _ ls hP hD hS (lv_sub hl [3, 4, 5, 2, 1, 0] rfl) (fun H locs ls hP hD hS hl => ?_)
  refine lv_iload hx hb (z_d hL_hasTwo_0 51 rfl) (lv_at hl 3 rfl) ?_
  refine z_bl hF (fun h9 hF => ?_)
  have hz9 := z_bool h9
  obtain rfl := Option.some.inj hF
  subst hQ
  subst hA
  exact z_kretZ (L := [w_Arr Z.2.1 2 ag g, w_Arr Z.2.1 41 ak k, w_Arr Z.2.1 41 ab lb]) (Lr := [w_Arr Z.2.1 41 a91 q1]) hx hb hr hlocks hz9 rfl hP hS (Nat.le_of_ble_eq_true rfl) (Nat.le_of_ble_eq_true rfl) (z_d hL_hasTwo_0 52 rfl)
def rm_L_sets : Room := { frames := 3, cells := 1, slots := 41, locals := 74 }
set_option maxRecDepth 100000 in
set_option maxHeartbeats 4000000 in
theorem c_L_sets (l : Launch) (hlt : l.stackTraces = false) (Z : zZ) (sa : Nat → Nat) (sz : Nat) (ag : Nat) (ak : Nat) (al : Nat) (am : Nat) (ax : Nat) (au : Nat) (g : Rw) (k : Rw) (ln : Rw) (mk : Rw) (xs : Rw) (us : Rw) (p4 : Int32) (R : Int32 × Rw × Rw) (hF : L_sets g k ln mk xs us p4 = some R) : zKM l yL_sets (zw yL_sets cL_sets 16 (some .int)) rm_L_sets Z sa sz [.ref ag, .ref ak, .ref al, .ref am, .int p4, .ref ax, .ref au] (List.flatten [w_Arr Z.2.1 2 ag g, w_Arr Z.2.1 41 ak k, w_Arr Z.2.1 41 al ln, w_Arr Z.2.1 41 am mk, w_Arr Z.2.1 41 ax xs, w_Arr Z.2.1 64 au us]) (List.flatten [w_Arr Z.2.1 2 ag g, w_Arr Z.2.1 41 ak k, w_Arr Z.2.1 41 al ln, w_Arr Z.2.1 41 am mk, w_Arr Z.2.1 41 ax R.2.1, w_Arr Z.2.1 64 au R.2.2]) (some (.int R.1)) 1 41 := by
  refine zKM_of (by decide) (Nat.le_of_ble_eq_true rfl) (fun p e s m below meth c hx hb hr hml hown hts hlocks hK hT hN A hA hA0 Q hQ ls hl hP hD hS => ?_)
  rw [← hA] at hT
  unfold L_sets at hF
  have hl : lv_has ls 16 [(0, .ref ag), (1, .ref ak), (2, .ref al), (3, .ref am), (4, .int p4), (5, .ref ax), (6, .ref au)] := hl
  have hown : s.vm.findClass RL = some m.cls := hown
  have L24 : ∀ (a91 : Nat) (ya91 : Rw) (n : Nat) (v : Rw × Rw × Int32 × Int32 × Int32) (X : Rw × Rw × Int32) (hF : zloop (b_L_sets_24 g k ln mk p4 ya91) n v = some X) (H : Heap) (locs : List Loc) (ls : Array Slot) (hP : va_P Z.1 vwCl (List.flatten [w_Arr Z.2.1 2 ag g, w_Arr Z.2.1 41 ak k, w_Arr Z.2.1 41 al ln, w_Arr Z.2.1 41 am mk, w_Arr Z.2.1 41 ax v.1, w_Arr Z.2.1 64 au v.2.1, w_Arr Z.2.1 41 a91 ya91]) H) (hD : va_D A (List.flatten [w_Arr Z.2.1 2 ag g, w_Arr Z.2.1 41 ak k, w_Arr Z.2.1 41 al ln, w_Arr Z.2.1 41 am mk, w_Arr Z.2.1 41 ax v.1, w_Arr Z.2.1 64 au v.2.1, w_Arr Z.2.1 41 a91 ya91])) (hS : va_S A s.heap H locs) (hl : lv_has ls 16 [(0, .ref ag), (1, .ref ak), (2, .ref al), (3, .ref am), (4, .int p4), (5, .ref ax), (6, .ref au), (7, .ref a91), (8, .int v.2.2.1), (9, .int v.2.2.2.1), (10, .int v.2.2.2.2)]) (K1 : ∀ (H : Heap) (locs : List Loc) (ls : Array Slot) (hP : va_P Z.1 vwCl (List.flatten [w_Arr Z.2.1 2 ag g, w_Arr Z.2.1 41 ak k, w_Arr Z.2.1 41 al ln, w_Arr Z.2.1 41 am mk, w_Arr Z.2.1 41 ax X.1, w_Arr Z.2.1 64 au X.2.1, w_Arr Z.2.1 41 a91 ya91]) H) (hD : va_D A (List.flatten [w_Arr Z.2.1 2 ag g, w_Arr Z.2.1 41 ak k, w_Arr Z.2.1 41 al ln, w_Arr Z.2.1 41 am mk, w_Arr Z.2.1 41 ax X.1, w_Arr Z.2.1 64 au X.2.1, w_Arr Z.2.1 41 a91 ya91])) (hS : va_S A s.heap H locs) (hl : lv_has ls 16 [(0, .ref ag), (1, .ref ak), (2, .ref al), (3, .ref am), (4, .int p4), (5, .ref ax), (6, .ref au), (8, .int X.2.2)]), W p l e rm_L_sets s m ([.ref ag, .ref ak, .ref al, .ref am, .int p4, .ref ax, .ref au] : List Value).toArray below meth c H locs 1 41 Q (F0 m 252 ls [])), W p l e rm_L_sets s m ([.ref ag, .ref ak, .ref al, .ref am, .int p4, .ref ax, .ref au] : List Value).toArray below meth c H locs 1 41 Q (F0 m 24 ls []) := by
    intro a91 ya91
    refine z_loopE (fun rec ih v X hF H locs ls hP hD hS hl K1 => ?_)
    unfold b_L_sets_24 at hF
    have J214_a91 : ∀  (xs : Rw) (us : Rw) (x8 : Int32) (x10 : Int32) (x14 : Int32) (x15 : Int32) (z0 : Int32) (z1 : Int32) (hF : j_L_sets_214_a91 g k ln mk p4 ya91 rec xs us x8 x10 x14 x15 z0 z1 = some X) (H : Heap) (locs : List Loc) (ls : Array Slot) (hP : va_P Z.1 vwCl (List.flatten [w_Arr Z.2.1 2 ag g, w_Arr Z.2.1 41 ak k, w_Arr Z.2.1 41 al ln, w_Arr Z.2.1 41 am mk, w_Arr Z.2.1 41 ax xs, w_Arr Z.2.1 64 au us, w_Arr Z.2.1 41 a91 ya91]) H) (hD : va_D A (List.flatten [w_Arr Z.2.1 2 ag g, w_Arr Z.2.1 41 ak k, w_Arr Z.2.1 41 al ln, w_Arr Z.2.1 41 am mk, w_Arr Z.2.1 41 ax xs, w_Arr Z.2.1 64 au us, w_Arr Z.2.1 41 a91 ya91])) (hS : va_S A s.heap H locs) (hl : lv_has ls 16 [(0, .ref ag), (1, .ref ak), (2, .ref al), (3, .ref am), (4, .int p4), (5, .ref ax), (6, .ref au), (7, .ref a91), (8, .int x8), (10, .int x10), (14, .int x14), (15, .int x15)]), W p l e rm_L_sets s m ([.ref ag, .ref ak, .ref al, .ref am, .int p4, .ref ax, .ref au] : List Value).toArray below meth c H locs 1 41 Q (F0 m 214 ls [.int z0, .int z1]) := by
      intro xs us x8 x10 x14 x15 z0 z1 hF H locs ls hP hD hS hl
      unfold j_L_sets_214_a91 at hF
      refine lv_iadd hx hb (z_d hL_sets_1 57 rfl) ?_
      refine z_let hF (fun u14 hu14 hF => ?_)
      refine lv_topE hu14 ?_
      refine lv_istore (lv' := [(9, .int u14), (0, .ref ag), (1, .ref ak), (2, .ref al), (3, .ref am), (4, .int p4), (5, .ref ax), (6, .ref au), (7, .ref a91), (8, .int x8), (10, .int x10), (14, .int x14), (15, .int x15)]) hx hb (z_d hL_sets_1 58 rfl) hl (by decide) rfl (fun ls hl => ?_)
      refine lv_aload hx hb (z_d hL_sets_1 59 rfl) (lv_at hl 7 rfl) ?_
      refine lv_iload hx hb (z_d hL_sets_2 0 rfl) (lv_at hl 9 rfl) ?_
      refine lv_iload hx hb (z_d hL_sets_2 1 rfl) (lv_at hl 0 rfl) ?_
      refine z_ix hF (fun hin hF => ?_)
      refine z_let hF (fun g15 hg15 hF => ?_)
      refine z_iast (Z := Z) (L := [w_Arr Z.2.1 2 ag g, w_Arr Z.2.1 41 ak k, w_Arr Z.2.1 41 al ln, w_Arr Z.2.1 41 am mk, w_Arr Z.2.1 41 ax xs, w_Arr Z.2.1 64 au us, w_Arr Z.2.1 41 a91 ya91]) (L' := [w_Arr Z.2.1 2 ag g, w_Arr Z.2.1 41 ak k, w_Arr Z.2.1 41 al ln, w_Arr Z.2.1 41 am mk, w_Arr Z.2.1 41 ax xs, w_Arr Z.2.1 64 au g15, w_Arr Z.2.1 41 a91 ya91]) (f := us) hx hb hK hP hD hS 5 rfl hin hg15 rfl (z_d hL_sets_2 2 rfl) (fun H locs hP hD hS => ?_)
      refine lv_iload hx hb (z_d hL_sets_2 3 rfl) (lv_at hl 11 rfl) ?_
      refine lv_if_le (tgt := 246) hx hb (z_d hL_sets_2 4 rfl) (by decide) (fun hc226 => ?_) (fun hc226 => ?_)
      · have hF := z_pos hc226 hF
        refine z_let hF (fun u16 hu16 hF => ?_)
        refine lv_iinc (v := u16) (lv' := [(10, .int u16), (9, .int u14), (0, .ref ag), (1, .ref ak), (2, .ref al), (3, .ref am), (4, .int p4), (5, .ref ax), (6, .ref au), (7, .ref a91), (8, .int x8), (14, .int x14), (15, .int x15)]) hx hb (z_d hL_sets_2 14 rfl) hl (k := 10) rfl (z_inc1 hu16) (by decide) rfl (fun ls hl => ?_)
        refine lv_goto (tgt := 24) hx hb (z_d hL_sets_2 15 rfl) (by decide) ?_
        exact ih _ _ hF _ _ ls hP hD hS (lv_sub hl [2, 3, 4, 5, 6, 7, 8, 9, 10, 1, 0] rfl) K1
      · have hF := z_neg hc226 hF
        refine z_let hF (fun u17 hu17 hF => ?_)
        refine lv_iinc (v := u17) (lv' := [(8, .int u17), (9, .int u14), (0, .ref ag), (1, .ref ak), (2, .ref al), (3, .ref am), (4, .int p4), (5, .ref ax), (6, .ref au), (7, .ref a91), (10, .int x10), (14, .int x14), (15, .int x15)]) hx hb (z_d hL_sets_2 5 rfl) hl (k := 9) rfl (z_inc1 hu17) (by decide) rfl (fun ls hl => ?_)
        refine lv_iload hx hb (z_d hL_sets_2 6 rfl) (lv_at hl 11 rfl) ?_
        refine lv_iload hx hb (z_d hL_sets_2 7 rfl) (lv_at hl 12 rfl) ?_
        refine lv_iadd hx hb (z_d hL_sets_2 8 rfl) ?_
        refine z_let hF (fun u18 hu18 hF => ?_)
        refine lv_topE hu18 ?_
        refine lv_istore (lv' := [(9, .int u18), (8, .int u17), (0, .ref ag), (1, .ref ak), (2, .ref al), (3, .ref am), (4, .int p4), (5, .ref ax), (6, .ref au), (7, .ref a91), (10, .int x10), (14, .int x14), (15, .int x15)]) hx hb (z_d hL_sets_2 9 rfl) hl (by decide) rfl (fun ls hl => ?_)
        refine lv_aload hx hb (z_d hL_sets_2 10 rfl) (lv_at hl 8 rfl) ?_
        refine lv_iload hx hb (z_d hL_sets_2 11 rfl) (lv_at hl 1 rfl) ?_
        refine lv_iload hx hb (z_d hL_sets_2 12 rfl) (lv_at hl 0 rfl) ?_
        refine z_ix hF (fun hin hF => ?_)
        refine z_let hF (fun g19 hg19 hF => ?_)
        refine z_iast (Z := Z) (L := [w_Arr Z.2.1 2 ag g, w_Arr Z.2.1 41 ak k, w_Arr Z.2.1 41 al ln, w_Arr Z.2.1 41 am mk, w_Arr Z.2.1 41 ax xs, w_Arr Z.2.1 64 au g15, w_Arr Z.2.1 41 a91 ya91]) (L' := [w_Arr Z.2.1 2 ag g, w_Arr Z.2.1 41 ak k, w_Arr Z.2.1 41 al ln, w_Arr Z.2.1 41 am mk, w_Arr Z.2.1 41 ax xs, w_Arr Z.2.1 64 au g19, w_Arr Z.2.1 41 a91 ya91]) (f := g15) hx hb hK hP hD hS 5 rfl hin hg19 rfl (z_d hL_sets_2 13 rfl) (fun H locs hP hD hS => ?_)
        refine z_let hF (fun u20 hu20 hF => ?_)
        refine lv_iinc (v := u20) (lv' := [(10, .int u20), (9, .int u18), (8, .int u17), (0, .ref ag), (1, .ref ak), (2, .ref al), (3, .ref am), (4, .int p4), (5, .ref ax), (6, .ref au), (7, .ref a91), (14, .int x14), (15, .int x15)]) hx hb (z_d hL_sets_2 14 rfl) hl (k := 10) rfl (z_inc1 hu20) (by decide) rfl (fun ls hl => ?_)
        refine lv_goto (tgt := 24) hx hb (z_d hL_sets_2 15 rfl) (by decide) ?_
        exact ih _ _ hF _ _ ls hP hD hS (lv_sub hl [3, 4, 5, 6, 7, 8, 9, 10, 2, 1, 0] rfl) K1
    have J172_a91 : ∀  (xs : Rw) (us : Rw) (x8 : Int32) (x10 : Int32) (x12 : Int32) (x13 : Int32) (x14 : Int32) (x15 : Int32) (hF : j_L_sets_172_a91 g k ln mk p4 ya91 rec xs us x8 x10 x12 x13 x14 x15 = some X) (H : Heap) (locs : List Loc) (ls : Array Slot) (hP : va_P Z.1 vwCl (List.flatten [w_Arr Z.2.1 2 ag g, w_Arr Z.2.1 41 ak k, w_Arr Z.2.1 41 al ln, w_Arr Z.2.1 41 am mk, w_Arr Z.2.1 41 ax xs, w_Arr Z.2.1 64 au us, w_Arr Z.2.1 41 a91 ya91]) H) (hD : va_D A (List.flatten [w_Arr Z.2.1 2 ag g, w_Arr Z.2.1 41 ak k, w_Arr Z.2.1 41 al ln, w_Arr Z.2.1 41 am mk, w_Arr Z.2.1 41 ax xs, w_Arr Z.2.1 64 au us, w_Arr Z.2.1 41 a91 ya91])) (hS : va_S A s.heap H locs) (hl : lv_has ls 16 [(0, .ref ag), (1, .ref ak), (2, .ref al), (3, .ref am), (4, .int p4), (5, .ref ax), (6, .ref au), (7, .ref a91), (8, .int x8), (10, .int x10), (12, .int x12), (13, .int x13), (14, .int x14), (15, .int x15)]), W p l e rm_L_sets s m ([.ref ag, .ref ak, .ref al, .ref am, .int p4, .ref ax, .ref au] : List Value).toArray below meth c H locs 1 41 Q (F0 m 172 ls []) := by
      intro xs us x8 x10 x12 x13 x14 x15 hF H locs ls hP hD hS hl
      unfold j_L_sets_172_a91 at hF
      refine lv_aload hx hb (z_d hL_sets_1 33 rfl) (lv_at hl 5 rfl) ?_
      refine lv_iload hx hb (z_d hL_sets_1 34 rfl) (lv_at hl 9 rfl) ?_
      refine lv_sipush (v := 10000) hx hb (z_d hL_sets_1 35 rfl) (by decide) ?_
      refine lv_iload hx hb (z_d hL_sets_1 36 rfl) (lv_at hl 8 rfl) ?_
      refine lv_imul hx hb (z_d hL_sets_1 37 rfl) ?_
      refine z_let hF (fun u6 hu6 hF => ?_)
      refine lv_topE hu6 ?_
      refine lv_bipush (v := 100) hx hb (z_d hL_sets_1 38 rfl) (by decide) ?_
      refine lv_iload hx hb (z_d hL_sets_1 39 rfl) (lv_at hl 10 rfl) ?_
      refine lv_imul hx hb (z_d hL_sets_1 40 rfl) ?_
      refine z_let hF (fun u7 hu7 hF => ?_)
      refine lv_topE hu7 ?_
      refine lv_iadd hx hb (z_d hL_sets_1 41 rfl) ?_
      refine z_let hF (fun u8 hu8 hF => ?_)
      refine lv_topE hu8 ?_
      refine lv_iload hx hb (z_d hL_sets_1 42 rfl) (lv_at hl 11 rfl) ?_
      refine lv_iadd hx hb (z_d hL_sets_1 43 rfl) ?_
      refine z_let hF (fun u9 hu9 hF => ?_)
      refine lv_topE hu9 ?_
      refine lv_iload hx hb (z_d hL_sets_1 44 rfl) (lv_at hl 12 rfl) ?_
      refine lv_isub hx hb (z_d hL_sets_1 45 rfl) ?_
      refine z_let hF (fun u10 hu10 hF => ?_)
      refine lv_topE hu10 ?_
      refine z_ix hF (fun hin hF => ?_)
      refine z_let hF (fun g11 hg11 hF => ?_)
      refine z_iast (Z := Z) (L := [w_Arr Z.2.1 2 ag g, w_Arr Z.2.1 41 ak k, w_Arr Z.2.1 41 al ln, w_Arr Z.2.1 41 am mk, w_Arr Z.2.1 41 ax xs, w_Arr Z.2.1 64 au us, w_Arr Z.2.1 41 a91 ya91]) (L' := [w_Arr Z.2.1 2 ag g, w_Arr Z.2.1 41 ak k, w_Arr Z.2.1 41 al ln, w_Arr Z.2.1 41 am mk, w_Arr Z.2.1 41 ax g11, w_Arr Z.2.1 64 au us, w_Arr Z.2.1 41 a91 ya91]) (f := xs) hx hb hK hP hD hS 4 rfl hin hg11 rfl (z_d hL_sets_1 46 rfl) (fun H locs hP hD hS => ?_)
      refine lv_iload hx hb (z_d hL_sets_1 47 rfl) (lv_at hl 10 rfl) ?_
      refine lv_iload hx hb (z_d hL_sets_1 48 rfl) (lv_at hl 11 rfl) ?_
      refine lv_iadd hx hb (z_d hL_sets_1 49 rfl) ?_
      refine z_let hF (fun u12 hu12 hF => ?_)
      refine lv_topE hu12 ?_
      refine lv_iload hx hb (z_d hL_sets_1 50 rfl) (lv_at hl 12 rfl) ?_
      refine lv_isub hx hb (z_d hL_sets_1 51 rfl) ?_
      refine z_let hF (fun u13 hu13 hF => ?_)
      refine lv_topE hu13 ?_
      refine lv_iload hx hb (z_d hL_sets_1 52 rfl) (lv_at hl 12 rfl) ?_
      refine lv_if_le (tgt := 213) hx hb (z_d hL_sets_1 53 rfl) (by decide) (fun hc205 => ?_) (fun hc205 => ?_)
      · have hF := z_pos hc205 hF
        refine lv_iconst (v := 0) hx hb (z_d hL_sets_1 56 rfl) (by decide) ?_
        exact J214_a91 g11 us x8 x10 x14 x15 0 u13 hF _ _ ls hP hD hS (lv_sub hl [0, 1, 2, 3, 4, 5, 6, 7, 8, 9, 12, 13] rfl)
      · have hF := z_neg hc205 hF
        refine lv_iload hx hb (z_d hL_sets_1 54 rfl) (lv_at hl 13 rfl) ?_
        refine lv_goto (tgt := 214) hx hb (z_d hL_sets_1 55 rfl) (by decide) ?_
        exact J214_a91 g11 us x8 x10 x14 x15 x15 u13 hF _ _ ls hP hD hS (lv_sub hl [0, 1, 2, 3, 4, 5, 6, 7, 8, 9, 12, 13] rfl)
    have L144 : ∀ (a91 : Nat) (xs : Rw) (us : Rw) (ya91 : Rw) (x8 : Int32) (x10 : Int32) (x12 : Int32) (x13 : Int32) (x15 : Int32) (n : Nat) (v : Int32) (X : Int32) (hF : zloop (b_L_sets_144 g k ln mk p4 xs us ya91 x8 x10 x12 x13 x15) n v = some X) (H : Heap) (locs : List Loc) (ls : Array Slot) (hP : va_P Z.1 vwCl (List.flatten [w_Arr Z.2.1 2 ag g, w_Arr Z.2.1 41 ak k, w_Arr Z.2.1 41 al ln, w_Arr Z.2.1 41 am mk, w_Arr Z.2.1 41 ax xs, w_Arr Z.2.1 64 au us, w_Arr Z.2.1 41 a91 ya91]) H) (hD : va_D A (List.flatten [w_Arr Z.2.1 2 ag g, w_Arr Z.2.1 41 ak k, w_Arr Z.2.1 41 al ln, w_Arr Z.2.1 41 am mk, w_Arr Z.2.1 41 ax xs, w_Arr Z.2.1 64 au us, w_Arr Z.2.1 41 a91 ya91])) (hS : va_S A s.heap H locs) (hl : lv_has ls 16 [(0, .ref ag), (1, .ref ak), (2, .ref al), (3, .ref am), (4, .int p4), (5, .ref ax), (6, .ref au), (7, .ref a91), (8, .int x8), (10, .int x10), (12, .int x12), (13, .int x13), (14, .int v), (15, .int x15)]) (K1 : ∀ (H : Heap) (locs : List Loc) (ls : Array Slot) (hP : va_P Z.1 vwCl (List.flatten [w_Arr Z.2.1 2 ag g, w_Arr Z.2.1 41 ak k, w_Arr Z.2.1 41 al ln, w_Arr Z.2.1 41 am mk, w_Arr Z.2.1 41 ax xs, w_Arr Z.2.1 64 au us, w_Arr Z.2.1 41 a91 ya91]) H) (hD : va_D A (List.flatten [w_Arr Z.2.1 2 ag g, w_Arr Z.2.1 41 ak k, w_Arr Z.2.1 41 al ln, w_Arr Z.2.1 41 am mk, w_Arr Z.2.1 41 ax xs, w_Arr Z.2.1 64 au us, w_Arr Z.2.1 41 a91 ya91])) (hS : va_S A s.heap H locs) (hl : lv_has ls 16 [(0, .ref ag), (1, .ref ak), (2, .ref al), (3, .ref am), (4, .int p4), (5, .ref ax), (6, .ref au), (7, .ref a91), (8, .int x8), (10, .int x10), (12, .int x12), (13, .int x13), (14, .int X), (15, .int x15)]), W p l e rm_L_sets s m ([.ref ag, .ref ak, .ref al, .ref am, .int p4, .ref ax, .ref au] : List Value).toArray below meth c H locs 1 41 Q (F0 m 172 ls [])), W p l e rm_L_sets s m ([.ref ag, .ref ak, .ref al, .ref am, .int p4, .ref ax, .ref au] : List Value).toArray below meth c H locs 1 41 Q (F0 m 144 ls []) := by
      intro a91 xs us ya91 x8 x10 x12 x13 x15
      refine z_loopE (fun rec ih v X hF H locs ls hP hD hS hl K1 => ?_)
      unfold b_L_sets_144 at hF
      refine lv_iload hx hb (z_d hL_sets_1 19 rfl) (lv_at hl 10 rfl) ?_
      refine lv_iload hx hb (z_d hL_sets_1 20 rfl) (lv_at hl 11 rfl) ?_
      refine lv_iadd hx hb (z_d hL_sets_1 21 rfl) ?_
      refine z_let hF (fun u21 hu21 hF => ?_)
      refine lv_topE hu21 ?_
      refine lv_iload hx hb (z_d hL_sets_1 22 rfl) (lv_at hl 12 rfl) ?_
      refine lv_isub hx hb (z_d hL_sets_1 23 rfl) ?_
      refine z_let hF (fun u22 hu22 hF => ?_)
      refine lv_topE hu22 ?_
      refine lv_iload hx hb (z_d hL_sets_1 24 rfl) (lv_at hl 13 rfl) ?_
      refine lv_iadd hx hb (z_d hL_sets_1 25 rfl) ?_
      refine z_let hF (fun u23 hu23 hF => ?_)
      refine lv_topE hu23 ?_
      refine lv_iload hx hb (z_d hL_sets_1 26 rfl) (lv_at hl 4 rfl) ?_
      refine lv_icmp_gt (tgt := 166) hx hb (z_d hL_sets_1 27 rfl) (by decide) (fun hc157 => ?_) (fun hc157 => ?_)
      · have hF := z_pos hc157 hF
        refine z_let hF (fun u24 hu24 hF => ?_)
        refine lv_iinc (v := u24) (lv' := [(14, .int u24), (0, .ref ag), (1, .ref ak), (2, .ref al), (3, .ref am), (4, .int p4), (5, .ref ax), (6, .ref au), (7, .ref a91), (8, .int x8), (10, .int x10), (12, .int x12), (13, .int x13), (15, .int x15)]) hx hb (z_d hL_sets_1 31 rfl) hl (k := 12) rfl (z_inc1 hu24) (by decide) rfl (fun ls hl => ?_)
        refine lv_goto (tgt := 144) hx hb (z_d hL_sets_1 32 rfl) (by decide) ?_
        exact ih _ _ hF _ _ ls hP hD hS (lv_sub hl [1, 2, 3, 4, 5, 6, 7, 8, 9, 10, 11, 12, 0, 13] rfl) K1
      · have hF := z_neg hc157 hF
        refine lv_iload hx hb (z_d hL_sets_1 28 rfl) (lv_at hl 12 rfl) ?_
        refine lv_iconst (v := 2) hx hb (z_d hL_sets_1 29 rfl) (by decide) ?_
        refine lv_icmp_ge (tgt := 172) hx hb (z_d hL_sets_1 30 rfl) (by decide) (fun hc163 => ?_) (fun hc163 => ?_)
        · have hF := z_pos hc163 hF
          obtain rfl := Option.some.inj hF
          exact K1 _ _ ls hP hD hS (lv_sub hl [0, 1, 2, 3, 4, 5, 6, 7, 8, 9, 10, 11, 12, 13] rfl)
        · have hF := z_neg hc163 hF
          refine z_let hF (fun u25 hu25 hF => ?_)
          refine lv_iinc (v := u25) (lv' := [(14, .int u25), (0, .ref ag), (1, .ref ak), (2, .ref al), (3, .ref am), (4, .int p4), (5, .ref ax), (6, .ref au), (7, .ref a91), (8, .int x8), (10, .int x10), (12, .int x12), (13, .int x13), (15, .int x15)]) hx hb (z_d hL_sets_1 31 rfl) hl (k := 12) rfl (z_inc1 hu25) (by decide) rfl (fun ls hl => ?_)
          refine lv_goto (tgt := 144) hx hb (z_d hL_sets_1 32 rfl) (by decide) ?_
          exact ih _ _ hF _ _ ls hP hD hS (lv_sub hl [1, 2, 3, 4, 5, 6, 7, 8, 9, 10, 11, 12, 0, 13] rfl) K1
    have J132_a91 : ∀  (xs : Rw) (us : Rw) (x8 : Int32) (x10 : Int32) (x12 : Int32) (x13 : Int32) (x14 : Int32) (z0 : Int32) (hF : j_L_sets_132_a91 g k ln mk p4 ya91 rec xs us x8 x10 x12 x13 x14 z0 = some X) (H : Heap) (locs : List Loc) (ls : Array Slot) (hP : va_P Z.1 vwCl (List.flatten [w_Arr Z.2.1 2 ag g, w_Arr Z.2.1 41 ak k, w_Arr Z.2.1 41 al ln, w_Arr Z.2.1 41 am mk, w_Arr Z.2.1 41 ax xs, w_Arr Z.2.1 64 au us, w_Arr Z.2.1 41 a91 ya91]) H) (hD : va_D A (List.flatten [w_Arr Z.2.1 2 ag g, w_Arr Z.2.1 41 ak k, w_Arr Z.2.1 41 al ln, w_Arr Z.2.1 41 am mk, w_Arr Z.2.1 41 ax xs, w_Arr Z.2.1 64 au us, w_Arr Z.2.1 41 a91 ya91])) (hS : va_S A s.heap H locs) (hl : lv_has ls 16 [(0, .ref ag), (1, .ref ak), (2, .ref al), (3, .ref am), (4, .int p4), (5, .ref ax), (6, .ref au), (7, .ref a91), (8, .int x8), (10, .int x10), (12, .int x12), (13, .int x13), (14, .int x14)]), W p l e rm_L_sets s m ([.ref ag, .ref ak, .ref al, .ref am, .int p4, .ref ax, .ref au] : List Value).toArray below meth c H locs 1 41 Q (F0 m 132 ls [.int z0]) := by
      intro xs us x8 x10 x12 x13 x14 z0 hF H locs ls hP hD hS hl
      unfold j_L_sets_132_a91 at hF
      refine lv_istore (lv' := [(15, .int z0), (0, .ref ag), (1, .ref ak), (2, .ref al), (3, .ref am), (4, .int p4), (5, .ref ax), (6, .ref au), (7, .ref a91), (8, .int x8), (10, .int x10), (12, .int x12), (13, .int x13), (14, .int x14)]) hx hb (z_d hL_sets_1 13 rfl) hl (by decide) rfl (fun ls hl => ?_)
      refine lv_iload hx hb (z_d hL_sets_1 14 rfl) (lv_at hl 11 rfl) ?_
      refine lv_iload hx hb (z_d hL_sets_1 15 rfl) (lv_at hl 12 rfl) ?_
      refine lv_iadd hx hb (z_d hL_sets_1 16 rfl) ?_
      refine z_let hF (fun u5 hu5 hF => ?_)
      refine lv_topE hu5 ?_
      refine lv_iload hx hb (z_d hL_sets_1 17 rfl) (lv_at hl 5 rfl) ?_
      refine lv_icmp_le (tgt := 172) hx hb (z_d hL_sets_1 18 rfl) (by decide) (fun hc141 => ?_) (fun hc141 => ?_)
      · have hF := z_pos hc141 hF
        exact J172_a91 xs us x8 x10 x12 x13 x14 z0 hF _ _ ls hP hD hS (lv_sub hl [1, 2, 3, 4, 5, 6, 7, 8, 9, 10, 11, 12, 13, 0] rfl)
      · have hF := z_neg hc141 hF
        refine z_bnd hF (fun q26 hq26 hF => ?_)
        refine L144 a91 xs us ya91 x8 x10 x12 x13 z0 _ _ _ hq26 _ _ ls hP hD hS (lv_sub hl [1, 2, 3, 4, 5, 6, 7, 8, 9, 10, 11, 12, 13, 0] rfl) (fun H locs ls hP hD hS hl => ?_)
        exact J172_a91 xs us x8 x10 x12 x13 q26 z0 hF _ _ ls hP hD hS (lv_sub hl [0, 1, 2, 3, 4, 5, 6, 7, 8, 9, 10, 11, 12, 13] rfl)
    have J105_a91 : ∀  (xs : Rw) (us : Rw) (x8 : Int32) (x10 : Int32) (z0 : Int32) (hF : j_L_sets_105_a91 g k ln mk p4 ya91 rec xs us x8 x10 z0 = some X) (H : Heap) (locs : List Loc) (ls : Array Slot) (hP : va_P Z.1 vwCl (List.flatten [w_Arr Z.2.1 2 ag g, w_Arr Z.2.1 41 ak k, w_Arr Z.2.1 41 al ln, w_Arr Z.2.1 41 am mk, w_Arr Z.2.1 41 ax xs, w_Arr Z.2.1 64 au us, w_Arr Z.2.1 41 a91 ya91]) H) (hD : va_D A (List.flatten [w_Arr Z.2.1 2 ag g, w_Arr Z.2.1 41 ak k, w_Arr Z.2.1 41 al ln, w_Arr Z.2.1 41 am mk, w_Arr Z.2.1 41 ax xs, w_Arr Z.2.1 64 au us, w_Arr Z.2.1 41 a91 ya91])) (hS : va_S A s.heap H locs) (hl : lv_has ls 16 [(0, .ref ag), (1, .ref ak), (2, .ref al), (3, .ref am), (4, .int p4), (5, .ref ax), (6, .ref au), (7, .ref a91), (8, .int x8), (10, .int x10)]), W p l e rm_L_sets s m ([.ref ag, .ref ak, .ref al, .ref am, .int p4, .ref ax, .ref au] : List Value).toArray below meth c H locs 1 41 Q (F0 m 105 ls [.int z0]) := by
      intro xs us x8 x10 z0 hF H locs ls hP hD hS hl
      unfold j_L_sets_105_a91 at hF
      refine lv_istore (lv' := [(12, .int z0), (0, .ref ag), (1, .ref ak), (2, .ref al), (3, .ref am), (4, .int p4), (5, .ref ax), (6, .ref au), (7, .ref a91), (8, .int x8), (10, .int x10)]) hx hb (z_d hL_sets_0 57 rfl) hl (by decide) rfl (fun ls hl => ?_)
      refine lv_aload_n hx hb (z_d hL_sets_0 58 rfl) rfl (lv_at hl 2 rfl) ?_
      refine lv_aload_n hx hb (z_d hL_sets_0 59 rfl) rfl (lv_at hl 3 rfl) ?_
      refine lv_iload hx hb (z_d hL_sets_1 0 rfl) (lv_at hl 10 rfl) ?_
      refine z_bnd hF (fun q3 hq3 hF => ?_)
      refine z_ro_i (z_rS (As := [.ref ak, .ref al, .int x10]) (rest := []) hx hb hml hown hts vs_L_lines (c_L_lines l Z ak al k ln x10 _ hq3) rfl rfl ⟨Nat.le_of_ble_eq_true rfl, Nat.le_of_ble_eq_true rfl⟩ k_m_L_23 zPro_blind (z_prec hK (zP_c (zP_reg hP 1 rfl) (zP_c (zP_reg hP 2 rfl) zP_n))) rfl hl.1 (Nat.le_of_ble_eq_true rfl) (z_d hL_sets_1 1 rfl) ⟨Nat.le_of_ble_eq_true rfl, Nat.le_of_ble_eq_true rfl⟩) hS hP (fun H locs hP hS => ?_)
      refine lv_istore (lv' := [(13, .int q3), (12, .int z0), (0, .ref ag), (1, .ref ak), (2, .ref al), (3, .ref am), (4, .int p4), (5, .ref ax), (6, .ref au), (7, .ref a91), (8, .int x8), (10, .int x10)]) hx hb (z_d hL_sets_1 2 rfl) hl (by decide) rfl (fun ls hl => ?_)
      refine lv_iconst (v := 0) hx hb (z_d hL_sets_1 3 rfl) (by decide) ?_
      refine lv_istore (lv' := [(14, .int 0), (13, .int q3), (12, .int z0), (0, .ref ag), (1, .ref ak), (2, .ref al), (3, .ref am), (4, .int p4), (5, .ref ax), (6, .ref au), (7, .ref a91), (8, .int x8), (10, .int x10)]) hx hb (z_d hL_sets_1 4 rfl) hl (by decide) rfl (fun ls hl => ?_)
      refine lv_aload_n hx hb (z_d hL_sets_1 5 rfl) rfl (lv_at hl 4 rfl) ?_
      refine lv_iload hx hb (z_d hL_sets_1 6 rfl) (lv_at hl 12 rfl) ?_
      refine z_ix hF (fun hin hF => ?_)
      refine va_iald (D := Z.1) (f := k) hx hb hK.1 (zP_reg hP 1 rfl) 0 0 rfl rfl hin (z_d hL_sets_1 7 rfl) ?_
      refine z_let hF (fun u4 hu4 hF => ?_)
      refine lv_topE hu4 ?_
      refine lv_iconst (v := 3) hx hb (z_d hL_sets_1 8 rfl) (by decide) ?_
      refine lv_icmp_ne (tgt := 131) hx hb (z_d hL_sets_1 9 rfl) (by decide) (fun hc124 => ?_) (fun hc124 => ?_)
      · have hF := z_neg hc124 hF
        refine lv_iconst (v := 0) hx hb (z_d hL_sets_1 12 rfl) (by decide) ?_
        exact J132_a91 xs us x8 x10 z0 q3 0 0 hF _ _ ls hP hD hS (lv_sub hl [3, 4, 5, 6, 7, 8, 9, 10, 11, 12, 2, 1, 0] rfl)
      · have hF := z_pos hc124 hF
        refine lv_iconst (v := 1) hx hb (z_d hL_sets_1 10 rfl) (by decide) ?_
        refine lv_goto (tgt := 132) hx hb (z_d hL_sets_1 11 rfl) (by decide) ?_
        exact J132_a91 xs us x8 x10 z0 q3 0 1 hF _ _ ls hP hD hS (lv_sub hl [3, 4, 5, 6, 7, 8, 9, 10, 11, 12, 2, 1, 0] rfl)
    have J87_a91 : ∀  (xs : Rw) (us : Rw) (x8 : Int32) (x9 : Int32) (x10 : Int32) (hF : j_L_sets_87_a91 g k ln mk p4 ya91 rec xs us x8 x9 x10 = some X) (H : Heap) (locs : List Loc) (ls : Array Slot) (hP : va_P Z.1 vwCl (List.flatten [w_Arr Z.2.1 2 ag g, w_Arr Z.2.1 41 ak k, w_Arr Z.2.1 41 al ln, w_Arr Z.2.1 41 am mk, w_Arr Z.2.1 41 ax xs, w_Arr Z.2.1 64 au us, w_Arr Z.2.1 41 a91 ya91]) H) (hD : va_D A (List.flatten [w_Arr Z.2.1 2 ag g, w_Arr Z.2.1 41 ak k, w_Arr Z.2.1 41 al ln, w_Arr Z.2.1 41 am mk, w_Arr Z.2.1 41 ax xs, w_Arr Z.2.1 64 au us, w_Arr Z.2.1 41 a91 ya91])) (hS : va_S A s.heap H locs) (hl : lv_has ls 16 [(0, .ref ag), (1, .ref ak), (2, .ref al), (3, .ref am), (4, .int p4), (5, .ref ax), (6, .ref au), (7, .ref a91), (8, .int x8), (9, .int x9), (10, .int x10)]), W p l e rm_L_sets s m ([.ref ag, .ref ak, .ref al, .ref am, .int p4, .ref ax, .ref au] : List Value).toArray below meth c H locs 1 41 Q (F0 m 87 ls []) := by
      intro xs us x8 x9 x10 hF H locs ls hP hD hS hl
      unfold j_L_sets_87_a91 at hF
      refine lv_iload hx hb (z_d hL_sets_0 48 rfl) (lv_at hl 9 rfl) ?_
      refine lv_if_le (tgt := 104) hx hb (z_d hL_sets_0 49 rfl) (by decide) (fun hc89 => ?_) (fun hc89 => ?_)
      · have hF := z_pos hc89 hF
        refine lv_iconst (v := 0) hx hb (z_d hL_sets_0 56 rfl) (by decide) ?_
        exact J105_a91 xs us x8 x10 0 hF _ _ ls hP hD hS (lv_sub hl [0, 1, 2, 3, 4, 5, 6, 7, 8, 10] rfl)
      · have hF := z_neg hc89 hF
        refine lv_iload hx hb (z_d hL_sets_0 50 rfl) (lv_at hl 9 rfl) ?_
        refine lv_aload_n hx hb (z_d hL_sets_0 51 rfl) rfl (lv_at hl 1 rfl) ?_
        refine lv_iload hx hb (z_d hL_sets_0 52 rfl) (lv_at hl 10 rfl) ?_
        refine z_bnd hF (fun q27 hq27 hF => ?_)
        refine z_ro_i (z_rS (As := [.ref ak, .int x10]) (rest := [.int x9]) hx hb hml hown hts vs_L_blanks (c_L_blanks l Z ak k x10 _ hq27) rfl rfl ⟨Nat.le_of_ble_eq_true rfl, Nat.le_of_ble_eq_true rfl⟩ k_m_L_31 zPro_blind (z_prec hK (zP_c (zP_reg hP 1 rfl) zP_n)) rfl hl.1 (Nat.le_of_ble_eq_true rfl) (z_d hL_sets_0 53 rfl) ⟨Nat.le_of_ble_eq_true rfl, Nat.le_of_ble_eq_true rfl⟩) hS hP (fun H locs hP hS => ?_)
        refine lv_iadd hx hb (z_d hL_sets_0 54 rfl) ?_
        refine z_let hF (fun u28 hu28 hF => ?_)
        refine lv_topE hu28 ?_
        refine lv_goto (tgt := 105) hx hb (z_d hL_sets_0 55 rfl) (by decide) ?_
        exact J105_a91 xs us x8 x10 u28 hF _ _ ls hP hD hS (lv_sub hl [0, 1, 2, 3, 4, 5, 6, 7, 8, 10] rfl)
    have J74_a91 : ∀  (xs : Rw) (us : Rw) (x8 : Int32) (x9 : Int32) (x10 : Int32) (z0 : Int32) (hF : j_L_sets_74_a91 g k ln mk p4 ya91 rec xs us x8 x9 x10 z0 = some X) (H : Heap) (locs : List Loc) (ls : Array Slot) (hP : va_P Z.1 vwCl (List.flatten [w_Arr Z.2.1 2 ag g, w_Arr Z.2.1 41 ak k, w_Arr Z.2.1 41 al ln, w_Arr Z.2.1 41 am mk, w_Arr Z.2.1 41 ax xs, w_Arr Z.2.1 64 au us, w_Arr Z.2.1 41 a91 ya91]) H) (hD : va_D A (List.flatten [w_Arr Z.2.1 2 ag g, w_Arr Z.2.1 41 ak k, w_Arr Z.2.1 41 al ln, w_Arr Z.2.1 41 am mk, w_Arr Z.2.1 41 ax xs, w_Arr Z.2.1 64 au us, w_Arr Z.2.1 41 a91 ya91])) (hS : va_S A s.heap H locs) (hl : lv_has ls 16 [(0, .ref ag), (1, .ref ak), (2, .ref al), (3, .ref am), (4, .int p4), (5, .ref ax), (6, .ref au), (7, .ref a91), (8, .int x8), (9, .int x9), (10, .int x10)]), W p l e rm_L_sets s m ([.ref ag, .ref ak, .ref al, .ref am, .int p4, .ref ax, .ref au] : List Value).toArray below meth c H locs 1 41 Q (F0 m 74 ls [.int z0]) := by
      intro xs us x8 x9 x10 z0 hF H locs ls hP hD hS hl
      unfold j_L_sets_74_a91 at hF
      refine lv_istore (lv' := [(11, .int z0), (0, .ref ag), (1, .ref ak), (2, .ref al), (3, .ref am), (4, .int p4), (5, .ref ax), (6, .ref au), (7, .ref a91), (8, .int x8), (9, .int x9), (10, .int x10)]) hx hb (z_d hL_sets_0 42 rfl) hl (by decide) rfl (fun ls hl => ?_)
      refine lv_iload hx hb (z_d hL_sets_0 43 rfl) (lv_at hl 0 rfl) ?_
      refine lv_if_eq (tgt := 87) hx hb (z_d hL_sets_0 44 rfl) (by decide) (fun hc78 => ?_) (fun hc78 => ?_)
      · have hF := z_pos hc78 hF
        exact J87_a91 xs us x8 x9 x10 hF _ _ ls hP hD hS (lv_sub hl [1, 2, 3, 4, 5, 6, 7, 8, 9, 10, 11] rfl)
      · have hF := z_neg hc78 hF
        refine z_let hF (fun u29 hu29 hF => ?_)
        refine lv_iinc (v := u29) (lv' := [(8, .int u29), (11, .int z0), (0, .ref ag), (1, .ref ak), (2, .ref al), (3, .ref am), (4, .int p4), (5, .ref ax), (6, .ref au), (7, .ref a91), (9, .int x9), (10, .int x10)]) hx hb (z_d hL_sets_0 45 rfl) hl (k := 9) rfl (z_inc1 hu29) (by decide) rfl (fun ls hl => ?_)
        refine lv_iconst (v := 0) hx hb (z_d hL_sets_0 46 rfl) (by decide) ?_
        refine lv_istore (lv' := [(9, .int 0), (8, .int u29), (11, .int z0), (0, .ref ag), (1, .ref ak), (2, .ref al), (3, .ref am), (4, .int p4), (5, .ref ax), (6, .ref au), (7, .ref a91), (10, .int x10)]) hx hb (z_d hL_sets_0 47 rfl) hl (by decide) rfl (fun ls hl => ?_)
        exact J87_a91 xs us u29 0 x10 hF _ _ ls hP hD hS (lv_sub hl [3, 4, 5, 6, 7, 8, 9, 10, 1, 0, 11] rfl)
    have J69_a91 : ∀  (xs : Rw) (us : Rw) (x8 : Int32) (x9 : Int32) (x10 : Int32) (hF : j_L_sets_69_a91 g k ln mk p4 ya91 rec xs us x8 x9 x10 = some X) (H : Heap) (locs : List Loc) (ls : Array Slot) (hP : va_P Z.1 vwCl (List.flatten [w_Arr Z.2.1 2 ag g, w_Arr Z.2.1 41 ak k, w_Arr Z.2.1 41 al ln, w_Arr Z.2.1 41 am mk, w_Arr Z.2.1 41 ax xs, w_Arr Z.2.1 64 au us, w_Arr Z.2.1 41 a91 ya91]) H) (hD : va_D A (List.flatten [w_Arr Z.2.1 2 ag g, w_Arr Z.2.1 41 ak k, w_Arr Z.2.1 41 al ln, w_Arr Z.2.1 41 am mk, w_Arr Z.2.1 41 ax xs, w_Arr Z.2.1 64 au us, w_Arr Z.2.1 41 a91 ya91])) (hS : va_S A s.heap H locs) (hl : lv_has ls 16 [(0, .ref ag), (1, .ref ak), (2, .ref al), (3, .ref am), (4, .int p4), (5, .ref ax), (6, .ref au), (7, .ref a91), (8, .int x8), (9, .int x9), (10, .int x10)]), W p l e rm_L_sets s m ([.ref ag, .ref ak, .ref al, .ref am, .int p4, .ref ax, .ref au] : List Value).toArray below meth c H locs 1 41 Q (F0 m 69 ls []) := by
      intro xs us x8 x9 x10 hF H locs ls hP hD hS hl
      unfold j_L_sets_69_a91 at hF
      refine lv_iconst (v := 1) hx hb (z_d hL_sets_0 39 rfl) (by decide) ?_
      refine lv_goto (tgt := 74) hx hb (z_d hL_sets_0 40 rfl) (by decide) ?_
      exact J74_a91 xs us x8 x9 x10 1 hF _ _ ls hP hD hS (lv_sub hl [0, 1, 2, 3, 4, 5, 6, 7, 8, 9, 10] rfl)
    have J73_a91 : ∀  (xs : Rw) (us : Rw) (x8 : Int32) (x9 : Int32) (x10 : Int32) (hF : j_L_sets_73_a91 g k ln mk p4 ya91 rec xs us x8 x9 x10 = some X) (H : Heap) (locs : List Loc) (ls : Array Slot) (hP : va_P Z.1 vwCl (List.flatten [w_Arr Z.2.1 2 ag g, w_Arr Z.2.1 41 ak k, w_Arr Z.2.1 41 al ln, w_Arr Z.2.1 41 am mk, w_Arr Z.2.1 41 ax xs, w_Arr Z.2.1 64 au us, w_Arr Z.2.1 41 a91 ya91]) H) (hD : va_D A (List.flatten [w_Arr Z.2.1 2 ag g, w_Arr Z.2.1 41 ak k, w_Arr Z.2.1 41 al ln, w_Arr Z.2.1 41 am mk, w_Arr Z.2.1 41 ax xs, w_Arr Z.2.1 64 au us, w_Arr Z.2.1 41 a91 ya91])) (hS : va_S A s.heap H locs) (hl : lv_has ls 16 [(0, .ref ag), (1, .ref ak), (2, .ref al), (3, .ref am), (4, .int p4), (5, .ref ax), (6, .ref au), (7, .ref a91), (8, .int x8), (9, .int x9), (10, .int x10)]), W p l e rm_L_sets s m ([.ref ag, .ref ak, .ref al, .ref am, .int p4, .ref ax, .ref au] : List Value).toArray below meth c H locs 1 41 Q (F0 m 73 ls []) := by
      intro xs us x8 x9 x10 hF H locs ls hP hD hS hl
      unfold j_L_sets_73_a91 at hF
      refine lv_iconst (v := 0) hx hb (z_d hL_sets_0 41 rfl) (by decide) ?_
      exact J74_a91 xs us x8 x9 x10 0 hF _ _ ls hP hD hS (lv_sub hl [0, 1, 2, 3, 4, 5, 6, 7, 8, 9, 10] rfl)
    refine lv_iload hx hb (z_d hL_sets_0 15 rfl) (lv_at hl 10 rfl) ?_
    refine lv_aload_n hx hb (z_d hL_sets_0 16 rfl) rfl (lv_at hl 0 rfl) ?_
    refine lv_iconst (v := 0) hx hb (z_d hL_sets_0 17 rfl) (by decide) ?_
    refine z_ix hF (fun hin hF => ?_)
    refine va_iald (D := Z.1) (f := g) hx hb hK.1 (zP_reg hP 0 rfl) 0 0 rfl rfl hin (z_d hL_sets_0 18 rfl) ?_
    refine z_let hF (fun u2 hu2 hF => ?_)
    refine lv_topE hu2 ?_
    refine lv_icmp_ge (tgt := 252) hx hb (z_d hL_sets_0 19 rfl) (by decide) (fun hc29 => ?_) (fun hc29 => ?_)
    · have hF := z_pos hc29 hF
      obtain rfl := Option.some.inj hF
      exact K1 _ _ ls hP hD hS (lv_sub hl [0, 1, 2, 3, 4, 5, 6, 8] rfl)
    · have hF := z_neg hc29 hF
      refine lv_iload hx hb (z_d hL_sets_0 20 rfl) (lv_at hl 8 rfl) ?_
      refine lv_if_lt (tgt := 69) hx hb (z_d hL_sets_0 21 rfl) (by decide) (fun hc34 => ?_) (fun hc34 => ?_)
      · have hF := z_pos hc34 hF
        exact J69_a91 v.1 v.2.1 v.2.2.1 v.2.2.2.1 v.2.2.2.2 hF _ _ ls hP hD hS (lv_sub hl [0, 1, 2, 3, 4, 5, 6, 7, 8, 9, 10] rfl)
      · have hF := z_neg hc34 hF
        refine lv_iload hx hb (z_d hL_sets_0 22 rfl) (lv_at hl 9 rfl) ?_
        refine lv_if_le (tgt := 73) hx hb (z_d hL_sets_0 23 rfl) (by decide) (fun hc39 => ?_) (fun hc39 => ?_)
        · have hF := z_pos hc39 hF
          exact J73_a91 v.1 v.2.1 v.2.2.1 v.2.2.2.1 v.2.2.2.2 hF _ _ ls hP hD hS (lv_sub hl [0, 1, 2, 3, 4, 5, 6, 7, 8, 9, 10] rfl)
        · have hF := z_neg hc39 hF
          refine lv_aload_n hx hb (z_d hL_sets_0 24 rfl) rfl (lv_at hl 3 rfl) ?_
          refine lv_iload hx hb (z_d hL_sets_0 25 rfl) (lv_at hl 10 rfl) ?_
          refine z_ix hF (fun hin hF => ?_)
          refine va_iald (D := Z.1) (f := mk) hx hb hK.1 (zP_reg hP 3 rfl) 0 0 rfl rfl hin (z_d hL_sets_0 26 rfl) ?_
          refine z_let hF (fun u30 hu30 hF => ?_)
          refine lv_topE hu30 ?_
          refine lv_if_gt (tgt := 69) hx hb (z_d hL_sets_0 27 rfl) (by decide) (fun hc46 => ?_) (fun hc46 => ?_)
          · have hF := z_pos hc46 hF
            exact J69_a91 v.1 v.2.1 v.2.2.1 v.2.2.2.1 v.2.2.2.2 hF _ _ ls hP hD hS (lv_sub hl [0, 1, 2, 3, 4, 5, 6, 7, 8, 9, 10] rfl)
          · have hF := z_neg hc46 hF
            refine lv_iload hx hb (z_d hL_sets_0 28 rfl) (lv_at hl 9 rfl) ?_
            refine lv_aload_n hx hb (z_d hL_sets_0 29 rfl) rfl (lv_at hl 1 rfl) ?_
            refine lv_iload hx hb (z_d hL_sets_0 30 rfl) (lv_at hl 10 rfl) ?_
            refine z_bnd hF (fun q31 hq31 hF => ?_)
            refine z_ro_i (z_rS (As := [.ref ak, .int v.2.2.2.2]) (rest := [.int v.2.2.2.1]) hx hb hml hown hts vs_L_blanks (c_L_blanks l Z ak k v.2.2.2.2 _ hq31) rfl rfl ⟨Nat.le_of_ble_eq_true rfl, Nat.le_of_ble_eq_true rfl⟩ k_m_L_31 zPro_blind (z_prec hK (zP_c (zP_reg hP 1 rfl) zP_n)) rfl hl.1 (Nat.le_of_ble_eq_true rfl) (z_d hL_sets_0 31 rfl) ⟨Nat.le_of_ble_eq_true rfl, Nat.le_of_ble_eq_true rfl⟩) hS hP (fun H locs hP hS => ?_)
            refine lv_iadd hx hb (z_d hL_sets_0 32 rfl) ?_
            refine z_let hF (fun u32 hu32 hF => ?_)
            refine lv_topE hu32 ?_
            refine lv_aload hx hb (z_d hL_sets_0 33 rfl) (lv_at hl 7 rfl) ?_
            refine lv_iload hx hb (z_d hL_sets_0 34 rfl) (lv_at hl 10 rfl) ?_
            refine z_ix hF (fun hin hF => ?_)
            refine va_iald (D := Z.1) (f := ya91) hx hb hK.1 (zP_reg hP 6 rfl) 0 0 rfl rfl hin (z_d hL_sets_0 35 rfl) ?_
            refine z_let hF (fun u33 hu33 hF => ?_)
            refine lv_topE hu33 ?_
            refine lv_iadd hx hb (z_d hL_sets_0 36 rfl) ?_
            refine z_let hF (fun u34 hu34 hF => ?_)
            refine lv_topE hu34 ?_
            refine lv_iload hx hb (z_d hL_sets_0 37 rfl) (lv_at hl 4 rfl) ?_
            refine lv_icmp_le (tgt := 73) hx hb (z_d hL_sets_0 38 rfl) (by decide) (fun hc66 => ?_) (fun hc66 => ?_)
            · have hF := z_pos hc66 hF
              exact J73_a91 v.1 v.2.1 v.2.2.1 v.2.2.2.1 v.2.2.2.2 hF _ _ ls hP hD hS (lv_sub hl [0, 1, 2, 3, 4, 5, 6, 7, 8, 9, 10] rfl)
            · have hF := z_neg hc66 hF
              exact J69_a91 v.1 v.2.1 v.2.2.1 v.2.2.2.1 v.2.2.2.2 hF _ _ ls hP hD hS (lv_sub hl [0, 1, 2, 3, 4, 5, 6, 7, 8, 9, 10] rfl)
  refine lv_bipush (v := 41) hx hb (z_d hL_sets_0 0 rfl) (by decide) ?_
  refine z_newarr (Z := Z) (L := [w_Arr Z.2.1 2 ag g, w_Arr Z.2.1 41 ak k, w_Arr Z.2.1 41 al ln, w_Arr Z.2.1 41 am mk, w_Arr Z.2.1 41 ax xs, w_Arr Z.2.1 64 au us]) (N' := 41) hx hb (hts _ k_a_int) hK hP hD hS hA0 (by decide) (by decide) (Nat.le_of_ble_eq_true rfl) (Nat.le_of_ble_eq_true rfl) (Nat.le_of_ble_eq_true rfl) (z_d hL_sets_0 1 rfl) (fun a91 H hP hD hS => ?_)
  have hP : va_P Z.1 vwCl (List.flatten [w_Arr Z.2.1 2 ag g, w_Arr Z.2.1 41 ak k, w_Arr Z.2.1 41 al ln, w_Arr Z.2.1 41 am mk, w_Arr Z.2.1 41 ax xs, w_Arr Z.2.1 64 au us, w_Arr Z.2.1 41 a91 z0R]) H := hP
  have hD : va_D A (List.flatten [w_Arr Z.2.1 2 ag g, w_Arr Z.2.1 41 ak k, w_Arr Z.2.1 41 al ln, w_Arr Z.2.1 41 am mk, w_Arr Z.2.1 41 ax xs, w_Arr Z.2.1 64 au us, w_Arr Z.2.1 41 a91 z0R]) := hD
  refine W.eq (g2 := F0 m 4 ls [.ref a91]) rfl ?_
  refine lv_astore (lv' := [(7, .ref a91), (0, .ref ag), (1, .ref ak), (2, .ref al), (3, .ref am), (4, .int p4), (5, .ref ax), (6, .ref au)]) hx hb (z_d hL_sets_0 2 rfl) hl (by decide) rfl (fun ls hl => ?_)
  refine lv_aload_n hx hb (z_d hL_sets_0 3 rfl) rfl (lv_at hl 1 rfl) ?_
  refine lv_aload_n hx hb (z_d hL_sets_0 4 rfl) rfl (lv_at hl 2 rfl) ?_
  refine lv_aload_n hx hb (z_d hL_sets_0 5 rfl) rfl (lv_at hl 3 rfl) ?_
  refine lv_aload_n hx hb (z_d hL_sets_0 6 rfl) rfl (lv_at hl 4 rfl) ?_
  refine lv_aload hx hb (z_d hL_sets_0 7 rfl) (lv_at hl 0 rfl) ?_
  refine z_bnd hF (fun q1 hq1 hF => ?_)
  refine z_muN (L := [w_Arr Z.2.1 2 ag g, w_Arr Z.2.1 41 ak k, w_Arr Z.2.1 41 al ln, w_Arr Z.2.1 41 am mk, w_Arr Z.2.1 41 ax xs, w_Arr Z.2.1 64 au us, w_Arr Z.2.1 41 a91 z0R]) (L' := [w_Arr Z.2.1 2 ag g, w_Arr Z.2.1 41 ak k, w_Arr Z.2.1 41 al ln, w_Arr Z.2.1 41 am mk, w_Arr Z.2.1 41 ax xs, w_Arr Z.2.1 64 au us, w_Arr Z.2.1 41 a91 q1]) [(0, w_Arr Z.2.1 2 ag g, w_Arr Z.2.1 2 ag g), (1, w_Arr Z.2.1 41 ak k, w_Arr Z.2.1 41 ak k), (2, w_Arr Z.2.1 41 al ln, w_Arr Z.2.1 41 al ln), (3, w_Arr Z.2.1 41 am mk, w_Arr Z.2.1 41 am mk), (6, w_Arr Z.2.1 41 a91 z0R, w_Arr Z.2.1 41 a91 q1)] (z_rS (As := [.ref ag, .ref ak, .ref al, .ref am, .ref a91]) (rest := []) hx hb hml hown hts vs_L_needs (c_L_needs l Z ag ak al am a91 g k ln mk z0R _ hq1) rfl rfl ⟨Nat.le_of_ble_eq_true rfl, Nat.le_of_ble_eq_true rfl⟩ k_m_L_35 zPmu_blind (z_prem hK (zP_c (zP_reg hP 0 rfl) (zP_c (zP_reg hP 1 rfl) (zP_c (zP_reg hP 2 rfl) (zP_c (zP_reg hP 3 rfl) (zP_c (zP_reg hP 6 rfl) zP_n))))) (zDq [(0, w_Arr Z.2.1 2 ag g, w_Arr Z.2.1 2 ag g), (1, w_Arr Z.2.1 41 ak k, w_Arr Z.2.1 41 ak k), (2, w_Arr Z.2.1 41 al ln, w_Arr Z.2.1 41 al ln), (3, w_Arr Z.2.1 41 am mk, w_Arr Z.2.1 41 am mk), (6, w_Arr Z.2.1 41 a91 z0R, w_Arr Z.2.1 41 a91 q1)] hD (List.forall_mem_cons.mpr ⟨⟨rfl, rfl⟩, (List.forall_mem_cons.mpr ⟨⟨rfl, rfl⟩, (List.forall_mem_cons.mpr ⟨⟨rfl, rfl⟩, (List.forall_mem_cons.mpr ⟨⟨rfl, rfl⟩, (List.forall_mem_cons.mpr ⟨⟨rfl, rfl⟩, (fun _ h => absurd h List.not_mem_nil)⟩)⟩)⟩)⟩)⟩) (show List.Nodup [0, 1, 2, 3, 6] by decide))) rfl hl.1 (Nat.le_of_ble_eq_true rfl) (z_d hL_sets_0 8 rfl) ⟨Nat.le_of_ble_eq_true rfl, Nat.le_of_ble_eq_true rfl⟩) hS hP hD (List.forall_mem_cons.mpr ⟨⟨rfl, rfl⟩, (List.forall_mem_cons.mpr ⟨⟨rfl, rfl⟩, (List.forall_mem_cons.mpr ⟨⟨rfl, rfl⟩, (List.forall_mem_cons.mpr ⟨⟨rfl, rfl⟩, (List.forall_mem_cons.mpr ⟨⟨rfl, rfl⟩, (fun _ h => absurd h List.not_mem_nil)⟩)⟩)⟩)⟩)⟩) (show List.Nodup [0, 1, 2, 3, 6] by decide) rfl rfl rfl (fun H locs hP hD hS => ?_)
  refine W.eq (g2 := F0 m 15 ls []) rfl ?_
  refine lv_iconst (v := (-1)) hx hb (z_d hL_sets_0 9 rfl) (by decide) ?_
  refine lv_istore (lv' := [(8, .int (-1)), (7, .ref a91), (0, .ref ag), (1, .ref ak), (2, .ref al), (3, .ref am), (4, .int p4), (5, .ref ax), (6, .ref au)]) hx hb (z_d hL_sets_0 10 rfl) hl (by decide) rfl (fun ls hl => ?_)
  refine lv_iconst (v := 0) hx hb (z_d hL_sets_0 11 rfl) (by decide) ?_
  refine lv_istore (lv' := [(9, .int 0), (8, .int (-1)), (7, .ref a91), (0, .ref ag), (1, .ref ak), (2, .ref al), (3, .ref am), (4, .int p4), (5, .ref ax), (6, .ref au)]) hx hb (z_d hL_sets_0 12 rfl) hl (by decide) rfl (fun ls hl => ?_)
  refine lv_iconst (v := 0) hx hb (z_d hL_sets_0 13 rfl) (by decide) ?_
  refine lv_istore (lv' := [(10, .int 0), (9, .int 0), (8, .int (-1)), (7, .ref a91), (0, .ref ag), (1, .ref ak), (2, .ref al), (3, .ref am), (4, .int p4), (5, .ref ax), (6, .ref au)]) hx hb (z_d hL_sets_0 14 rfl) hl (by decide) rfl (fun ls hl => ?_)
  refine z_bnd hF (fun q35 hq35 hF => ?_)
  refine L24 a91 q1 _ _ _ hq35 _ _ ls hP hD hS (lv_sub hl [4, 5, 6, 7, 8, 9, 10, 3, 2, 1, 0] rfl) (fun H locs ls hP hD hS hl => ?_)
  refine lv_iload hx hb (z_d hL_sets_2 16 rfl) (lv_at hl 7 rfl) ?_
  refine lv_iconst (v := 1) hx hb (z_d hL_sets_2 17 rfl) (by decide) ?_
  refine lv_iadd hx hb (z_d hL_sets_2 18 rfl) ?_
  refine z_let hF (fun u36 hu36 hF => ?_)
  refine lv_topE hu36 ?_
  obtain rfl := Option.some.inj hF
  subst hQ
  subst hA
  exact z_kretI (L := [w_Arr Z.2.1 2 ag g, w_Arr Z.2.1 41 ak k, w_Arr Z.2.1 41 al ln, w_Arr Z.2.1 41 am mk, w_Arr Z.2.1 41 ax q35.1, w_Arr Z.2.1 64 au q35.2.1]) (Lr := [w_Arr Z.2.1 41 a91 q1]) hx hb hr hlocks rfl hP hS (Nat.le_of_ble_eq_true rfl) (Nat.le_of_ble_eq_true rfl) (z_d hL_sets_2 19 rfl)

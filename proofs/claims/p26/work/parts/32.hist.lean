-- History: the array of saved states turns; g says which of the four scripts stands at each place
abbrev t_Hist : Type := Int32 × (Nat → Nat) × (Nat → t_Script)
def h_arr (Ah : Nat → Nat → Nat) (g : Nat → Nat) : Nat → Option Nat := fun j => some (Ah (g j) 0)
def l_Hist (cI cS : ClassId) (hh ha : Nat) (Ah : Nat → Nat → Nat) (c : Int32) (g : Nat → Nat) (T : Nat → t_Script) : List va_W := [[(hh, .inr (0, [.ref ha, .int c]))], [(ha, .inl (cS, 4, .inr (.inr (.inr (.inr (h_arr Ah g))))))], w_Script cI (Ah 0) (T 0), w_Script cI (Ah 1) (T 1), w_Script cI (Ah 2) (T 2), w_Script cI (Ah 3) (T 3)]
def w_Hist (cI cS : ClassId) (hh ha : Nat) (Ah : Nat → Nat → Nat) (S : t_Hist) : va_W := (l_Hist cI cS hh ha Ah S.1 S.2.1 S.2.2).flatten
theorem adr_Hist (cI cS : ClassId) (hh ha : Nat) (Ah : Nat → Nat → Nat) (S' S : t_Hist) : (w_Hist cI cS hh ha Ah S').map (·.1) = (w_Hist cI cS hh ha Ah S).map (·.1) := rfl
theorem h_up (Ah : Nat → Nat → Nat) (g : Nat → Nat) (i k : Nat) : va_up (h_arr Ah g) i (some (Ah k 0)) = h_arr Ah (va_up g i k) := by
  funext j
  by_cases h : j = i
  · subst h; simp [h_arr, va_up]
  · simp [h_arr, va_up, h]
theorem h_reg {cI cS : ClassId} {hh ha : Nat} {Ah : Nat → Nat → Nat} {c : Int32} {g : Nat → Nat} {T : Nat → t_Script} {k : Nat} (hk : k < 4) : (l_Hist cI cS hh ha Ah c g T)[2 + k]? = some (w_Script cI (Ah k) (T k)) := by
  rcases (show k = 0 ∨ k = 1 ∨ k = 2 ∨ k = 3 by omega) with h | h | h | h <;> subst h <;> rfl
theorem h_set {cI cS : ClassId} {hh ha : Nat} {Ah : Nat → Nat → Nat} {c : Int32} {g : Nat → Nat} {T : Nat → t_Script} {k : Nat} (hk : k < 4) (S : t_Script) : (l_Hist cI cS hh ha Ah c g T).set (2 + k) (w_Script cI (Ah k) S) = l_Hist cI cS hh ha Ah c g (va_up T k S) := by
  rcases (show k = 0 ∨ k = 1 ∨ k = 2 ∨ k = 3 by omega) with h | h | h | h <;> subst h <;> rfl
section ZH
variable {p : Program} {l : Launch} {e : Env} {R : Room} {s : State} {m : MethodId} {args : Array Value} {below : List Frame} {meth : Method} {c : Code} {H : Heap} {locs : List Loc} {cells slots : Nat} {Q : State → Prop}
variable {cc : ByteArray} {pc : Nat} {ls : Array Slot} {rest : List Value} {A : Nat → Prop} {H0 : Heap} {Z : zZ} {hh ha : Nat} {Ah : Nat → Nat → Nat} {n : Int32} {g : Nat → Nat} {T : Nat → t_Script}
theorem z_astH (hx : p.tables.exec = Jvm.exec) (hb : c.code = cc) (hK : zK Z s) (hP : va_P Z.1 vwCl (l_Hist Z.2.1 Z.2.2.1 hh ha Ah n g T).flatten H) (hD : va_D A (l_Hist Z.2.1 Z.2.2.1 hh ha Ah n g T).flatten) (hS : va_S A H0 H locs) {k : Nat} (hk : k < 4) {i : Int32} (hin : vp_in i 4) (hdg : decode cc pc = .ok (.aastore, 1))
    (kk : ∀ (H1 : Heap) (locs1 : List Loc), va_P Z.1 vwCl (l_Hist Z.2.1 Z.2.2.1 hh ha Ah n (va_up g i.toNatClampNeg k) T).flatten H1 → va_D A (l_Hist Z.2.1 Z.2.2.1 hh ha Ah n (va_up g i.toNatClampNeg k) T).flatten → va_S A H0 H1 locs1 → W p l e R s m args below meth c H1 locs1 cells slots Q (F0 m (pc + 1) ls rest)) : W p l e R s m args below meth c H locs cells slots Q (F0 m pc ls (.ref (Ah k 0) :: .int i :: .ref ha :: rest)) := by
  obtain ⟨qk, hq⟩ : ∃ qk, (l_Hist Z.2.1 Z.2.2.1 hh ha Ah n g T).flatten[qk]? = some (Ah k 0, (Sum.inr (5, [.int (T k).1, .int (T k).2.1, .ref (Ah k 1), .ref (Ah k 3), .ref (Ah k 5), .ref (Ah k 7), .ref (Ah k 9), .ref (Ah k 11), .ref (Ah k 13), .ref (Ah k 15)]) : va_E)) := by
    refine List.getElem?_of_mem (List.mem_flatten.mpr ⟨_, List.mem_of_getElem? (h_reg hk), ?_⟩)
    exact List.mem_flatten.mpr ⟨_, List.mem_cons_self, List.mem_cons_self⟩
  have e1 : (l_Hist Z.2.1 Z.2.2.1 hh ha Ah n g T)[1]? = some [(ha, .inl (Z.2.2.1, 4, .inr (.inr (.inr (.inr (h_arr Ah g))))))] := rfl
  refine va_astq (D := Z.1) (cl := vwCl) (r := (RX5, TX5, 10)) hx hb hK.1 hP hD hS _ 1 qk 5 (zflat_at e1) rfl hq rfl hin hdg (fun H1 l1 h1 h2 h3 => ?_)
  rw [zflat_set e1, h_up] at h1 h2
  exact kk H1 l1 h1 h2 h3
end ZH
theorem k_f_X0_11 : Cond.fieldLink RX0 11 "ScriptPages$History" "states" "[LScriptPages$Script;" ∈ zG := zG_at 233 (by decide +kernel) (by decide +kernel)
theorem k_f_X0_17 : Cond.fieldLink RX0 17 "ScriptPages$History" "count" "I" ∈ zG := zG_at 234 (by decide +kernel) (by decide +kernel)
theorem k_m_X0_25 : Cond.methodLink RX0 25 yX0_stateAt ∈ zG := zG_at 511 (by decide +kernel) (by decide +kernel)
theorem k_m_X0_22 : Cond.methodLink RX0 22 yX0_dropOldest ∈ zG := zG_at 507 (by decide +kernel) (by decide +kernel)
theorem k_m_X0_29 : Cond.methodLink RX0 29 yX5_copyFrom ∈ zG := zG_at 515 (by decide +kernel) (by decide +kernel)
theorem vt_X0_stateAt : zVt yX0_stateAt cX0_stateAt 2 (some (.object "ScriptPages$Script")) 1 := ⟨zG_at 513 (by decide +kernel) (by decide +kernel), zG_at 11 (by decide +kernel) (by decide +kernel), zG_at 31 (by decide +kernel) (by decide +kernel), zG_at 514 (by decide +kernel) (by decide +kernel), by decide +kernel⟩
theorem vt_X0_dropOldest : zVt yX0_dropOldest cX0_dropOldest 3 none 0 := ⟨zG_at 509 (by decide +kernel) (by decide +kernel), zG_at 10 (by decide +kernel) (by decide +kernel), zG_at 31 (by decide +kernel) (by decide +kernel), zG_at 510 (by decide +kernel) (by decide +kernel), by decide +kernel⟩
theorem vt_X5_copyFrom : zVt yX5_copyFrom cX5_copyFrom 2 none 1 := ⟨zG_at 412 (by decide +kernel) (by decide +kernel), zG_at 413 (by decide +kernel) (by decide +kernel), zG_at 27 (by decide +kernel) (by decide +kernel), zG_at 414 (by decide +kernel) (by decide +kernel), by decide +kernel⟩
theorem vt_X0_store : zVt yX0_store cX0_store 3 none 1 := ⟨zG_at 504 (by decide +kernel) (by decide +kernel), zG_at 505 (by decide +kernel) (by decide +kernel), zG_at 31 (by decide +kernel) (by decide +kernel), zG_at 506 (by decide +kernel) (by decide +kernel), by decide +kernel⟩
def rm_X0_stateAt : Room := { frames := 0, cells := 0, slots := 0, locals := 0 }
set_option maxRecDepth 100000 in
set_option maxHeartbeats 4000000 in
theorem c_X0_stateAt (l : Launch) (Z : zZ) (hh ha : Nat) (Ah : Nat → Nat → Nat) (S : t_Hist) (p1 : Int32) (k : Nat) (h0 : ¬ p1 < 0) (h4 : ¬ 4 ≤ p1) (hk : S.2.1 p1.toNatClampNeg = k) : zRO l yX0_stateAt (zw yX0_stateAt cX0_stateAt 2 (some (.object "ScriptPages$Script"))) rm_X0_stateAt Z [.ref hh, .int p1] (w_Hist Z.2.1 Z.2.2.1 hh ha Ah S) (some (.ref (Ah k 0))) := by
  refine zRO_of (by decide) (Nat.le_of_ble_eq_true rfl) (fun p e s m below meth c hx hb hr hml hown hts hlocks hK Q hQ ls hl hP hS => ?_)
  have hl : lv_has ls 2 [(0, .ref hh), (1, .int p1)] := hl
  have hown : s.vm.findClass RX0 = some m.cls := hown
  have hP : va_P Z.1 vwCl (l_Hist Z.2.1 Z.2.2.1 hh ha Ah S.1 S.2.1 S.2.2).flatten s.heap := hP
  have hin : vp_in p1 4 := r_in (by decide) h0 h4
  refine lv_iload_n hx hb (z_d hX0_stateAt_0 0 rfl) rfl (lv_at hl 1 rfl) ?_
  refine lv_if_lt (tgt := 22) hx hb (z_d hX0_stateAt_0 1 rfl) (by decide) (fun h => absurd h h0) (fun _ => ?_)
  refine lv_iload_n hx hb (z_d hX0_stateAt_0 2 rfl) rfl (lv_at hl 1 rfl) ?_
  refine lv_aload_n hx hb (z_d hX0_stateAt_0 3 rfl) rfl (lv_at hl 0 rfl) ?_
  refine va_get (D := Z.1) (ci := 0) (v := .ref ha) (C := RX0) (T := TX0) (N := 2) hx hb hts zinX0 hown hK.1 (zP_reg hP 0 rfl) 0 rfl rfl 0 (by decide) (hts _ k_f_X0_11) (fun _ h9 => h9) rfl (z_d hX0_stateAt_0 4 rfl) ?_
  refine va_alen (v := 4) (ty := .object "ScriptPages$Script") hx hb hK.1 (zP_reg hP 1 rfl) 0 1 rfl rfl rfl (z_d hX0_stateAt_0 5 rfl) ?_
  refine lv_icmp_ge (tgt := 22) hx hb (z_d hX0_stateAt_0 6 rfl) (by decide) (fun h => absurd h h4) (fun _ => ?_)
  refine lv_aload_n hx hb (z_d hX0_stateAt_0 7 rfl) rfl (lv_at hl 0 rfl) ?_
  refine va_get (D := Z.1) (ci := 0) (v := .ref ha) (C := RX0) (T := TX0) (N := 2) hx hb hts zinX0 hown hK.1 (zP_reg hP 0 rfl) 0 rfl rfl 0 (by decide) (hts _ k_f_X0_11) (fun _ h9 => h9) rfl (z_d hX0_stateAt_0 8 rfl) ?_
  refine lv_iload_n hx hb (z_d hX0_stateAt_0 9 rfl) rfl (lv_at hl 1 rfl) ?_
  refine va_aldq (D := Z.1) hx hb hK.1 (zP_reg hP 1 rfl) 0 1 rfl rfl hin (z_d hX0_stateAt_0 10 rfl) ?_
  refine lv_goto (tgt := 23) hx hb (z_d hX0_stateAt_0 11 rfl) (by decide) ?_
  subst hQ
  refine W.eq (g2 := F0 m 23 ls [.ref (Ah k 0)]) (by rw [← hk]; rfl) ?_
  exact W.aret hx hb hr (Or.inl ⟨_, rfl⟩) (Or.inr ⟨_, rfl⟩) (fun t ht hW => zq_ro (hS.F ht)) hS.2.2 (z_d hX0_stateAt_0 13 rfl)
/-- behind dropOldest -/
def h_drop (g : Nat → Nat) : Nat → Nat := va_up (va_up (va_up (va_up g 0 (g 1)) 1 (g 2)) 2 (g 3)) 3 (g 0)
def rm_X0_dropOldest : Room := { frames := 1, cells := 0, slots := 0, locals := 21 }
set_option maxRecDepth 100000 in
set_option maxHeartbeats 4000000 in
theorem c_X0_dropOldest (l : Launch) (Z : zZ) (hh ha : Nat) (Ah : Nat → Nat → Nat) (S : t_Hist) (hg : ∀ j, j < 4 → S.2.1 j < 4) (n2 : Int32) (hn : S.1 - 1 = n2) : zMU l yX0_dropOldest (zw yX0_dropOldest cX0_dropOldest 3 none) rm_X0_dropOldest Z [.ref hh] (w_Hist Z.2.1 Z.2.2.1 hh ha Ah S) (w_Hist Z.2.1 Z.2.2.1 hh ha Ah (n2, h_drop S.2.1, S.2.2)) none := by
  refine zMU_of (by decide) (Nat.le_of_ble_eq_true rfl) (fun p e s m below meth c hx hb hr hml hown hts hlocks hK A hA Q hQ ls hl hP hD hS => ?_)
  have hl : lv_has ls 3 [(0, .ref hh)] := hl
  have hown : s.vm.findClass RX0 = some m.cls := hown
  obtain ⟨n, g, T⟩ := S
  have hP : va_P Z.1 vwCl (l_Hist Z.2.1 Z.2.2.1 hh ha Ah n g T).flatten s.heap := hP
  have hD : va_D A (l_Hist Z.2.1 Z.2.2.1 hh ha Ah n g T).flatten := hD
  have It : ∀ (j : Nat) (g' : Nat → Nat) (H : Heap) (locs : List Loc) (ls : Array Slot), j + 1 < 4 → g' (j + 1) < 4 → va_P Z.1 vwCl (l_Hist Z.2.1 Z.2.2.1 hh ha Ah n g' T).flatten H → va_D A (l_Hist Z.2.1 Z.2.2.1 hh ha Ah n g' T).flatten → va_S A s.heap H locs → lv_has ls 3 [(0, .ref hh), (1, .ref (Ah (g 0) 0)), (2, .int (nI (j + 1)))] →
      (∀ (H : Heap) (locs : List Loc) (ls : Array Slot), va_P Z.1 vwCl (l_Hist Z.2.1 Z.2.2.1 hh ha Ah n (va_up g' j (g' (j + 1))) T).flatten H → va_D A (l_Hist Z.2.1 Z.2.2.1 hh ha Ah n (va_up g' j (g' (j + 1))) T).flatten → va_S A s.heap H locs → lv_has ls 3 [(0, .ref hh), (1, .ref (Ah (g 0) 0)), (2, .int (nI (j + 1 + 1)))] → W p l e rm_X0_dropOldest s m ([.ref hh] : List Value).toArray below meth c H locs 0 0 Q (F0 m 8 ls [])) →
      W p l e rm_X0_dropOldest s m ([.ref hh] : List Value).toArray below meth c H locs 0 0 Q (F0 m 8 ls []) := by
    intro j g' H locs ls hj hgj hP hD hS hl K
    refine lv_iload_n hx hb (z_d hX0_dropOldest_0 6 rfl) rfl (lv_at hl 2 rfl) ?_
    refine lv_aload_n hx hb (z_d hX0_dropOldest_0 7 rfl) rfl (lv_at hl 0 rfl) ?_
    refine va_get (D := Z.1) (ci := 0) (v := .ref ha) (C := RX0) (T := TX0) (N := 2) hx hb hts zinX0 hown hK.1 (zP_reg hP 0 rfl) 0 rfl rfl 0 (by decide) (hts _ k_f_X0_11) (fun _ h9 => h9) rfl (z_d hX0_dropOldest_0 8 rfl) ?_
    refine va_alen (v := 4) (ty := .object "ScriptPages$Script") hx hb hK.1 (zP_reg hP 1 rfl) 0 1 rfl rfl rfl (z_d hX0_dropOldest_0 9 rfl) ?_
    refine lv_icmp_ge (tgt := 37) hx hb (z_d hX0_dropOldest_0 10 rfl) (by decide) (fun h => absurd h (show ¬ nI 4 ≤ nI (j + 1) from nI_ge hj (by decide))) (fun _ => ?_)
    refine lv_aload_n hx hb (z_d hX0_dropOldest_0 11 rfl) rfl (lv_at hl 0 rfl) ?_
    refine va_get (D := Z.1) (ci := 0) (v := .ref ha) (C := RX0) (T := TX0) (N := 2) hx hb hts zinX0 hown hK.1 (zP_reg hP 0 rfl) 0 rfl rfl 0 (by decide) (hts _ k_f_X0_11) (fun _ h9 => h9) rfl (z_d hX0_dropOldest_0 12 rfl) ?_
    refine lv_iload_n hx hb (z_d hX0_dropOldest_0 13 rfl) rfl (lv_at hl 2 rfl) ?_
    refine lv_iconst (v := 1) hx hb (z_d hX0_dropOldest_0 14 rfl) (by decide) ?_
    refine lv_isub hx hb (z_d hX0_dropOldest_0 15 rfl) ?_
    refine lv_topE (nI_pred j) ?_
    refine lv_aload_n hx hb (z_d hX0_dropOldest_0 16 rfl) rfl (lv_at hl 0 rfl) ?_
    refine va_get (D := Z.1) (ci := 0) (v := .ref ha) (C := RX0) (T := TX0) (N := 2) hx hb hts zinX0 hown hK.1 (zP_reg hP 0 rfl) 0 rfl rfl 0 (by decide) (hts _ k_f_X0_11) (fun _ h9 => h9) rfl (z_d hX0_dropOldest_0 17 rfl) ?_
    refine lv_iload_n hx hb (z_d hX0_dropOldest_0 18 rfl) rfl (lv_at hl 2 rfl) ?_
    refine va_aldq (D := Z.1) hx hb hK.1 (zP_reg hP 1 rfl) 0 1 rfl rfl (vp_in_nI hj (by decide)) (z_d hX0_dropOldest_0 19 rfl) ?_
    refine W.eq (g2 := F0 m 30 ls [.ref (Ah (g' (j + 1)) 0), .int (nI j), .ref ha]) (by rw [nI_clamp (show j + 1 < 2 ^ 31 by omega)]; rfl) ?_
    refine z_astH hx hb hK hP hD hS hgj (vp_in_nI (show j < 4 by omega) (by decide)) (z_d hX0_dropOldest_0 20 rfl) (fun H locs hP hD hS => ?_)
    rw [nI_clamp (show j < 2 ^ 31 by omega)] at hP hD
    refine lv_iinc (v := nI (j + 1 + 1)) (lv' := [(2, .int (nI (j + 1 + 1))), (0, .ref hh), (1, .ref (Ah (g 0) 0))]) hx hb (z_d hX0_dropOldest_0 21 rfl) hl (k := 2) rfl (z_inc1 (nI_1 (j + 1))) (by decide) rfl (fun ls hl => ?_)
    refine lv_goto (tgt := 8) hx hb (z_d hX0_dropOldest_0 22 rfl) (by decide) ?_
    exact K _ _ ls hP hD hS (lv_sub hl [1, 2, 0] rfl)
  refine lv_aload_n hx hb (z_d hX0_dropOldest_0 0 rfl) rfl (lv_at hl 0 rfl) ?_
  refine lv_iconst (v := 0) hx hb (z_d hX0_dropOldest_0 1 rfl) (by decide) ?_
  refine z_ro_r (z_rV (As := [.int 0]) (rest := []) hx hb hml hown hts vt_X0_stateAt (c_X0_stateAt l Z hh ha Ah (n, g, T) 0 (g 0) (by decide) (by decide) rfl) rfl rfl ⟨Nat.le_of_ble_eq_true rfl, Nat.le_of_ble_eq_true rfl⟩ k_m_X0_25 zPro_blind (z_recv (q := (RX0, TX0, 2)) (ci := 0) (q0 := 0) hK (zP_reg hP 0 rfl) rfl rfl) (z_prec hK hP) rfl hl.1 (Nat.le_of_ble_eq_true rfl) (z_d hX0_dropOldest_0 2 rfl) ⟨Nat.zero_le _, Nat.zero_le _⟩) hS hP (fun H locs hP hS => ?_)
  refine lv_astore_n (lv' := [(1, .ref (Ah (g 0) 0)), (0, .ref hh)]) hx hb (z_d hX0_dropOldest_0 3 rfl) rfl hl (by decide) rfl (fun ls hl => ?_)
  refine lv_iconst (v := 1) hx hb (z_d hX0_dropOldest_0 4 rfl) (by decide) ?_
  refine lv_istore_n (lv' := [(2, .int 1), (1, .ref (Ah (g 0) 0)), (0, .ref hh)]) hx hb (z_d hX0_dropOldest_0 5 rfl) rfl hl (by decide) rfl (fun ls hl => ?_)
  refine It 0 g _ _ ls (by omega) (hg 1 (by omega)) hP hD hS (lv_sub hl [2, 1, 0] rfl) (fun H locs ls hP hD hS hl => ?_)
  refine It 1 _ _ _ ls (by omega) (by simp only [va_up]; exact hg 2 (by omega)) hP hD hS hl (fun H locs ls hP hD hS hl => ?_)
  refine It 2 _ _ _ ls (by omega) (by simp only [va_up]; exact hg 3 (by omega)) hP hD hS hl (fun H locs ls hP hD hS hl => ?_)
  obtain ⟨g3, hg3⟩ : ∃ g3, g3 = va_up (va_up (va_up g 0 (g 1)) 1 (g 2)) 2 (g 3) := ⟨_, rfl⟩
  have e3 : va_up (va_up (va_up g 0 (g (0 + 1))) 1 (va_up g 0 (g (0 + 1)) (1 + 1))) 2 (va_up (va_up g 0 (g (0 + 1))) 1 (va_up g 0 (g (0 + 1)) (1 + 1)) (2 + 1)) = g3 := by rw [hg3]; simp [va_up]
  rw [e3] at hP hD
  refine lv_iload_n hx hb (z_d hX0_dropOldest_0 6 rfl) rfl (lv_at hl 2 rfl) ?_
  refine lv_aload_n hx hb (z_d hX0_dropOldest_0 7 rfl) rfl (lv_at hl 0 rfl) ?_
  refine va_get (D := Z.1) (ci := 0) (v := .ref ha) (C := RX0) (T := TX0) (N := 2) hx hb hts zinX0 hown hK.1 (zP_reg hP 0 rfl) 0 rfl rfl 0 (by decide) (hts _ k_f_X0_11) (fun _ h9 => h9) rfl (z_d hX0_dropOldest_0 8 rfl) ?_
  refine va_alen (v := 4) (ty := .object "ScriptPages$Script") hx hb hK.1 (zP_reg hP 1 rfl) 0 1 rfl rfl rfl (z_d hX0_dropOldest_0 9 rfl) ?_
  refine lv_icmp_ge (tgt := 37) hx hb (z_d hX0_dropOldest_0 10 rfl) (by decide) (fun _ => ?_) (fun h => absurd (show (4 : Int32) ≤ nI 4 by decide) h)
  refine lv_aload_n hx hb (z_d hX0_dropOldest_0 23 rfl) rfl (lv_at hl 0 rfl) ?_
  refine va_get (D := Z.1) (ci := 0) (v := .ref ha) (C := RX0) (T := TX0) (N := 2) hx hb hts zinX0 hown hK.1 (zP_reg hP 0 rfl) 0 rfl rfl 0 (by decide) (hts _ k_f_X0_11) (fun _ h9 => h9) rfl (z_d hX0_dropOldest_0 24 rfl) ?_
  refine va_alen (v := 4) (ty := .object "ScriptPages$Script") hx hb hK.1 (zP_reg hP 1 rfl) 0 1 rfl rfl rfl (z_d hX0_dropOldest_0 25 rfl) ?_
  refine lv_if_le (tgt := 58) hx hb (z_d hX0_dropOldest_0 26 rfl) (by decide) (fun h => absurd h (by decide)) (fun _ => ?_)
  refine lv_aload_n hx hb (z_d hX0_dropOldest_0 27 rfl) rfl (lv_at hl 0 rfl) ?_
  refine va_get (D := Z.1) (ci := 0) (v := .ref ha) (C := RX0) (T := TX0) (N := 2) hx hb hts zinX0 hown hK.1 (zP_reg hP 0 rfl) 0 rfl rfl 0 (by decide) (hts _ k_f_X0_11) (fun _ h9 => h9) rfl (z_d hX0_dropOldest_0 28 rfl) ?_
  refine lv_aload_n hx hb (z_d hX0_dropOldest_0 29 rfl) rfl (lv_at hl 0 rfl) ?_
  refine va_get (D := Z.1) (ci := 0) (v := .ref ha) (C := RX0) (T := TX0) (N := 2) hx hb hts zinX0 hown hK.1 (zP_reg hP 0 rfl) 0 rfl rfl 0 (by decide) (hts _ k_f_X0_11) (fun _ h9 => h9) rfl (z_d hX0_dropOldest_0 30 rfl) ?_
  refine va_alen (v := 4) (ty := .object "ScriptPages$Script") hx hb hK.1 (zP_reg hP 1 rfl) 0 1 rfl rfl rfl (z_d hX0_dropOldest_0 31 rfl) ?_
  refine lv_iconst (v := 1) hx hb (z_d hX0_dropOldest_0 32 rfl) (by decide) ?_
  refine lv_isub hx hb (z_d hX0_dropOldest_0 33 rfl) ?_
  refine lv_topE (y := nI 3) (by decide) ?_
  refine lv_aload_n hx hb (z_d hX0_dropOldest_0 34 rfl) rfl (lv_at hl 1 rfl) ?_
  refine z_astH hx hb hK hP hD hS (hg 0 (by decide)) (vp_in_nI (show 3 < 4 by omega) (by decide)) (z_d hX0_dropOldest_0 35 rfl) (fun H locs hP hD hS => ?_)
  rw [nI_clamp (show 3 < 2 ^ 31 by decide)] at hP hD
  refine lv_aload_n hx hb (z_d hX0_dropOldest_0 36 rfl) rfl (lv_at hl 0 rfl) ?_
  refine lv_dup hx hb (z_d hX0_dropOldest_0 37 rfl) rfl ?_
  refine va_get (D := Z.1) (ci := 0) (v := .int n) (C := RX0) (T := TX0) (N := 2) hx hb hts zinX0 hown hK.1 (zP_reg hP 0 rfl) 0 rfl rfl 1 (by decide) (hts _ k_f_X0_17) (fun _ h9 => h9) rfl (z_d hX0_dropOldest_0 38 rfl) ?_
  refine lv_iconst (v := 1) hx hb (z_d hX0_dropOldest_0 39 rfl) (by decide) ?_
  refine lv_isub hx hb (z_d hX0_dropOldest_0 40 rfl) ?_
  refine lv_topE hn ?_
  refine z_put (Z := Z) (ci := 0) (v := .int n2) (ty := .int) (L := l_Hist Z.2.1 Z.2.2.1 hh ha Ah n (va_up g3 3 (g 0)) T) (L' := l_Hist Z.2.1 Z.2.2.1 hh ha Ah n2 (va_up g3 3 (g 0)) T) (C := RX0) (T := TX0) (N := 2) hx hb hts zinX0 tyX0 tyX0_ok nmX0 hown hK hP hD hS 0 rfl rfl 1 (by decide) (hts _ k_f_X0_17) (fun _ h9 => h9) rfl (tyX0_ok 1 (by decide)) rfl rfl (Nat.le_of_ble_eq_true rfl) rfl (z_d hX0_dropOldest_0 41 rfl) (fun H locs hP hD hS => ?_)
  subst hQ
  subst hA
  subst hg3
  exact W.vret hx hb hr (fun t ht hW => zq_mu (by rw [ht]; exact hP) (hS.F ht)) hS.2.2 (z_d hX0_dropOldest_0 42 rfl)

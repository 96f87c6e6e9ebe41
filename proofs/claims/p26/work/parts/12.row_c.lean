theorem vt_X3_put : zVt yX3_put cX3_put 3 none 2 := ⟨zG_at 429 (by decide +kernel) (by decide +kernel), zG_at 430 (by decide +kernel) (by decide +kernel), zG_at 28 (by decide +kernel) (by decide +kernel), zG_at 431 (by decide +kernel) (by decide +kernel), by decide +kernel⟩
theorem k_f_X3_9 : Cond.fieldLink RX3 9 "ScriptPages$Row" "cells" "[I" ∈ zG := zG_at 59 (by decide +kernel) (by decide +kernel)
theorem k_m_X3_15 : Cond.methodLink RX3 15 yX3_put ∈ zG := zG_at 428 (by decide +kernel) (by decide +kernel)
def rm_X3_at : Room := { frames := 0, cells := 0, slots := 0, locals := 0 }
set_option maxRecDepth 100000 in
set_option maxHeartbeats 4000000 in
theorem c_X3_at (l : Launch) (Z : zZ) (n1 a1 b1 : Nat) (f1 : Rw) (p1 : Int32) (R : Int32) (hF : X3_at n1 f1 p1 = some R) : zRO l yX3_at (zw yX3_at cX3_at 2 (some .int)) rm_X3_at Z [.ref a1, .int p1] (w_Row Z.2.1 n1 a1 b1 f1) (some (.int R)) := by
  refine zRO_of (by decide) (Nat.le_of_ble_eq_true rfl) (fun p e s m below meth c hx hb hr hml hown hts hlocks hK Q hQ ls hl hP hS => ?_)
  unfold X3_at at hF
  have hl : lv_has ls 2 [(0, .ref a1), (1, .int p1)] := hl
  have hown : s.vm.findClass RX3 = some m.cls := hown
  refine lv_iload_n hx hb (z_d hX3_at_0 0 rfl) rfl (lv_at hl 1 rfl) ?_
  refine lv_if_lt (tgt := 22) hx hb (z_d hX3_at_0 1 rfl) (by decide) (fun hc1 => ?_) (fun hc1 => ?_)
  · have hF := z_pos hc1 hF
    refine lv_iconst (v := (-1)) hx hb (z_d hX3_at_0 12 rfl) (by decide) ?_
    obtain rfl := Option.some.inj hF
    subst hQ
    exact W.iret hx hb hr (fun t ht hW => zq_ro (hS.F ht)) hS.2.2 (z_d hX3_at_0 13 rfl)
  · have hF := z_neg hc1 hF
    refine lv_iload_n hx hb (z_d hX3_at_0 2 rfl) rfl (lv_at hl 1 rfl) ?_
    refine lv_aload_n hx hb (z_d hX3_at_0 3 rfl) rfl (lv_at hl 0 rfl) ?_
    refine va_get (D := Z.1) (ci := 3) (v := .ref b1) (C := RX3) (T := TX3) (N := 1) hx hb hts zinX3 hown hK.1 hP 0 rfl rfl 0 (by decide) (hts _ k_f_X3_9) (fun _ h9 => h9) rfl (z_d hX3_at_0 4 rfl) ?_
    refine va_alen (v := Int32.ofNat n1) (ty := .int) hx hb hK.1 hP 1 0 rfl rfl rfl (z_d hX3_at_0 5 rfl) ?_
    refine lv_icmp_ge (tgt := 22) hx hb (z_d hX3_at_0 6 rfl) (by decide) (fun hc10 => ?_) (fun hc10 => ?_)
    · have hF := z_pos hc10 hF
      refine lv_iconst (v := (-1)) hx hb (z_d hX3_at_0 12 rfl) (by decide) ?_
      obtain rfl := Option.some.inj hF
      subst hQ
      exact W.iret hx hb hr (fun t ht hW => zq_ro (hS.F ht)) hS.2.2 (z_d hX3_at_0 13 rfl)
    · have hF := z_neg hc10 hF
      refine lv_aload_n hx hb (z_d hX3_at_0 7 rfl) rfl (lv_at hl 0 rfl) ?_
      refine va_get (D := Z.1) (ci := 3) (v := .ref b1) (C := RX3) (T := TX3) (N := 1) hx hb hts zinX3 hown hK.1 hP 0 rfl rfl 0 (by decide) (hts _ k_f_X3_9) (fun _ h9 => h9) rfl (z_d hX3_at_0 8 rfl) ?_
      refine lv_iload_n hx hb (z_d hX3_at_0 9 rfl) rfl (lv_at hl 1 rfl) ?_
      refine z_ix hF (fun hin hF => ?_)
      refine va_iald (D := Z.1) (f := f1) hx hb hK.1 hP 1 0 rfl rfl hin (z_d hX3_at_0 10 rfl) ?_
      refine z_let hF (fun u1 hu1 hF => ?_)
      refine lv_topE hu1 ?_
      refine lv_goto (tgt := 23) hx hb (z_d hX3_at_0 11 rfl) (by decide) ?_
      obtain rfl := Option.some.inj hF
      subst hQ
      exact W.iret hx hb hr (fun t ht hW => zq_ro (hS.F ht)) hS.2.2 (z_d hX3_at_0 13 rfl)
def rm_X3_put : Room := { frames := 0, cells := 0, slots := 0, locals := 0 }
set_option maxRecDepth 100000 in
set_option maxHeartbeats 4000000 in
theorem c_X3_put (l : Launch) (Z : zZ) (n1 a1 b1 : Nat) (f1 : Rw) (p1 : Int32) (p2 : Int32) (R : Rw) (hF : X3_put n1 f1 p1 p2 = some R) : zMU l yX3_put (zw yX3_put cX3_put 3 none) rm_X3_put Z [.ref a1, .int p1, .int p2] (w_Row Z.2.1 n1 a1 b1 f1) (w_Row Z.2.1 n1 a1 b1 R) none := by
  refine zMU_of (by decide) (Nat.le_of_ble_eq_true rfl) (fun p e s m below meth c hx hb hr hml hown hts hlocks hK A hA Q hQ ls hl hP hD hS => ?_)
  unfold X3_put at hF
  have hl : lv_has ls 3 [(0, .ref a1), (1, .int p1), (2, .int p2)] := hl
  have hown : s.vm.findClass RX3 = some m.cls := hown
  refine lv_iload_n hx hb (z_d hX3_put_0 0 rfl) rfl (lv_at hl 1 rfl) ?_
  refine lv_if_lt (tgt := 20) hx hb (z_d hX3_put_0 1 rfl) (by decide) (fun hc1 => ?_) (fun hc1 => ?_)
  · have hF := z_pos hc1 hF
    obtain rfl := Option.some.inj hF
    subst hQ
    subst hA
    exact W.vret hx hb hr (fun t ht hW => zq_mu (by rw [ht]; exact hP) (hS.F ht)) hS.2.2 (z_d hX3_put_0 12 rfl)
  · have hF := z_neg hc1 hF
    refine lv_iload_n hx hb (z_d hX3_put_0 2 rfl) rfl (lv_at hl 1 rfl) ?_
    refine lv_aload_n hx hb (z_d hX3_put_0 3 rfl) rfl (lv_at hl 0 rfl) ?_
    refine va_get (D := Z.1) (ci := 3) (v := .ref b1) (C := RX3) (T := TX3) (N := 1) hx hb hts zinX3 hown hK.1 hP 0 rfl rfl 0 (by decide) (hts _ k_f_X3_9) (fun _ h9 => h9) rfl (z_d hX3_put_0 4 rfl) ?_
    refine va_alen (v := Int32.ofNat n1) (ty := .int) hx hb hK.1 hP 1 0 rfl rfl rfl (z_d hX3_put_0 5 rfl) ?_
    refine lv_icmp_ge (tgt := 20) hx hb (z_d hX3_put_0 6 rfl) (by decide) (fun hc10 => ?_) (fun hc10 => ?_)
    · have hF := z_pos hc10 hF
      obtain rfl := Option.some.inj hF
      subst hQ
      subst hA
      exact W.vret hx hb hr (fun t ht hW => zq_mu (by rw [ht]; exact hP) (hS.F ht)) hS.2.2 (z_d hX3_put_0 12 rfl)
    · have hF := z_neg hc10 hF
      refine lv_aload_n hx hb (z_d hX3_put_0 7 rfl) rfl (lv_at hl 0 rfl) ?_
      refine va_get (D := Z.1) (ci := 3) (v := .ref b1) (C := RX3) (T := TX3) (N := 1) hx hb hts zinX3 hown hK.1 hP 0 rfl rfl 0 (by decide) (hts _ k_f_X3_9) (fun _ h9 => h9) rfl (z_d hX3_put_0 8 rfl) ?_
      refine lv_iload_n hx hb (z_d hX3_put_0 9 rfl) rfl (lv_at hl 1 rfl) ?_
      refine lv_iload_n hx hb (z_d hX3_put_0 10 rfl) rfl (lv_at hl 2 rfl) ?_
      refine z_ix hF (fun hin hF => ?_)
      refine z_let hF (fun g1 hg1 hF => ?_)
      refine z_iastR (Z := Z) (ws := (w_Row Z.2.1 n1 a1 b1 f1)) (ws' := (w_Row Z.2.1 n1 a1 b1 g1)) (f := f1) hx hb hK hP hD hS 1 rfl hin hg1 rfl (z_d hX3_put_0 11 rfl) (fun H locs hP hD hS => ?_)
      obtain rfl := Option.some.inj hF
      subst hQ
      subst hA
      exact W.vret hx hb hr (fun t ht hW => zq_mu (by rw [ht]; exact hP) (hS.F ht)) hS.2.2 (z_d hX3_put_0 12 rfl)
def rm_X3_plus : Room := { frames := 0, cells := 0, slots := 0, locals := 0 }
set_option maxRecDepth 100000 in
set_option maxHeartbeats 4000000 in
theorem c_X3_plus (l : Launch) (Z : zZ) (n1 a1 b1 : Nat) (f1 : Rw) (p1 : Int32) (p2 : Int32) (R : Rw) (hF : X3_plus n1 f1 p1 p2 = some R) : zMU l yX3_plus (zw yX3_plus cX3_plus 3 none) rm_X3_plus Z [.ref a1, .int p1, .int p2] (w_Row Z.2.1 n1 a1 b1 f1) (w_Row Z.2.1 n1 a1 b1 R) none := by
  refine zMU_of (by decide) (Nat.le_of_ble_eq_true rfl) (fun p e s m below meth c hx hb hr hml hown hts hlocks hK A hA Q hQ ls hl hP hD hS => ?_)
  unfold X3_plus at hF
  have hl : lv_has ls 3 [(0, .ref a1), (1, .int p1), (2, .int p2)] := hl
  have hown : s.vm.findClass RX3 = some m.cls := hown
  refine lv_iload_n hx hb (z_d hX3_plus_0 0 rfl) rfl (lv_at hl 1 rfl) ?_
  refine lv_if_lt (tgt := 23) hx hb (z_d hX3_plus_0 1 rfl) (by decide) (fun hc1 => ?_) (fun hc1 => ?_)
  · have hF := z_pos hc1 hF
    obtain rfl := Option.some.inj hF
    subst hQ
    subst hA
    exact W.vret hx hb hr (fun t ht hW => zq_mu (by rw [ht]; exact hP) (hS.F ht)) hS.2.2 (z_d hX3_plus_0 15 rfl)
  · have hF := z_neg hc1 hF
    refine lv_iload_n hx hb (z_d hX3_plus_0 2 rfl) rfl (lv_at hl 1 rfl) ?_
    refine lv_aload_n hx hb (z_d hX3_plus_0 3 rfl) rfl (lv_at hl 0 rfl) ?_
    refine va_get (D := Z.1) (ci := 3) (v := .ref b1) (C := RX3) (T := TX3) (N := 1) hx hb hts zinX3 hown hK.1 hP 0 rfl rfl 0 (by decide) (hts _ k_f_X3_9) (fun _ h9 => h9) rfl (z_d hX3_plus_0 4 rfl) ?_
    refine va_alen (v := Int32.ofNat n1) (ty := .int) hx hb hK.1 hP 1 0 rfl rfl rfl (z_d hX3_plus_0 5 rfl) ?_
    refine lv_icmp_ge (tgt := 23) hx hb (z_d hX3_plus_0 6 rfl) (by decide) (fun hc10 => ?_) (fun hc10 => ?_)
    · have hF := z_pos hc10 hF
      obtain rfl := Option.some.inj hF
      subst hQ
      subst hA
      exact W.vret hx hb hr (fun t ht hW => zq_mu (by rw [ht]; exact hP) (hS.F ht)) hS.2.2 (z_d hX3_plus_0 15 rfl)
    · have hF := z_neg hc10 hF
      refine lv_aload_n hx hb (z_d hX3_plus_0 7 rfl) rfl (lv_at hl 0 rfl) ?_
      refine va_get (D := Z.1) (ci := 3) (v := .ref b1) (C := RX3) (T := TX3) (N := 1) hx hb hts zinX3 hown hK.1 hP 0 rfl rfl 0 (by decide) (hts _ k_f_X3_9) (fun _ h9 => h9) rfl (z_d hX3_plus_0 8 rfl) ?_
      refine lv_iload_n hx hb (z_d hX3_plus_0 9 rfl) rfl (lv_at hl 1 rfl) ?_
      refine lv_dup2_11 hx hb (z_d hX3_plus_0 10 rfl) rfl rfl ?_
      refine z_ix hF (fun hin hF => ?_)
      refine va_iald (D := Z.1) (f := f1) hx hb hK.1 hP 1 0 rfl rfl hin (z_d hX3_plus_0 11 rfl) ?_
      refine z_let hF (fun u1 hu1 hF => ?_)
      refine lv_topE hu1 ?_
      refine lv_iload_n hx hb (z_d hX3_plus_0 12 rfl) rfl (lv_at hl 2 rfl) ?_
      refine lv_iadd hx hb (z_d hX3_plus_0 13 rfl) ?_
      refine z_let hF (fun u2 hu2 hF => ?_)
      refine lv_topE hu2 ?_
      refine z_ix hF (fun hin hF => ?_)
      refine z_let hF (fun g3 hg3 hF => ?_)
      refine z_iastR (Z := Z) (ws := (w_Row Z.2.1 n1 a1 b1 f1)) (ws' := (w_Row Z.2.1 n1 a1 b1 g3)) (f := f1) hx hb hK hP hD hS 1 rfl hin hg3 rfl (z_d hX3_plus_0 14 rfl) (fun H locs hP hD hS => ?_)
      obtain rfl := Option.some.inj hF
      subst hQ
      subst hA
      exact W.vret hx hb hr (fun t ht hW => zq_mu (by rw [ht]; exact hP) (hS.F ht)) hS.2.2 (z_d hX3_plus_0 15 rfl)
def rm_X3_openAt : Room := { frames := 1, cells := 0, slots := 0, locals := 22 }
set_option maxRecDepth 100000 in
set_option maxHeartbeats 4000000 in
theorem c_X3_openAt (l : Launch) (Z : zZ) (n1 a1 b1 : Nat) (f1 : Rw) (p1 : Int32) (p2 : Int32) (R : Rw) (hF : X3_openAt n1 f1 p1 p2 = some R) : zMU l yX3_openAt (zw yX3_openAt cX3_openAt 5 none) rm_X3_openAt Z [.ref a1, .int p1, .int p2] (w_Row Z.2.1 n1 a1 b1 f1) (w_Row Z.2.1 n1 a1 b1 R) none := by
  refine zMU_of (by decide) (Nat.le_of_ble_eq_true rfl) (fun p e s m below meth c hx hb hr hml hown hts hlocks hK A hA Q hQ ls hl hP hD hS => ?_)
  unfold X3_openAt at hF
  have hl : lv_has ls 5 [(0, .ref a1), (1, .int p1), (2, .int p2)] := hl
  have hown : s.vm.findClass RX3 = some m.cls := hown
  have L19 : ∀ (x3 : Int32) (n : Nat) (v : Rw × Int32) (X : Rw) (hF : zloop (b_X3_openAt_19 n1 p1 p2 x3) n v = some X) (H : Heap) (locs : List Loc) (ls : Array Slot) (hP : va_P Z.1 vwCl (w_Row Z.2.1 n1 a1 b1 v.1) H) (hD : va_D A (w_Row Z.2.1 n1 a1 b1 v.1)) (hS : va_S A s.heap H locs) (hl : lv_has ls 5 [(0, .ref a1), (1, .int p1), (2, .int p2), (3, .int x3), (4, .int v.2)]) (K1 : ∀ (H : Heap) (locs : List Loc) (ls : Array Slot) (hP : va_P Z.1 vwCl (w_Row Z.2.1 n1 a1 b1 X) H) (hD : va_D A (w_Row Z.2.1 n1 a1 b1 X)) (hS : va_S A s.heap H locs) (hl : lv_has ls 5 [(0, .ref a1), (1, .int p1), (2, .int p2)]), W p l e rm_X3_openAt s m ([.ref a1, .int p1, .int p2] : List Value).toArray below meth c H locs 0 0 Q (F0 m 47 ls [])), W p l e rm_X3_openAt s m ([.ref a1, .int p1, .int p2] : List Value).toArray below meth c H locs 0 0 Q (F0 m 19 ls []) := by
    intro x3
    refine z_loopE (fun rec ih v X hF H locs ls hP hD hS hl K1 => ?_)
    unfold b_X3_openAt_19 at hF
    refine lv_iload hx hb (z_d hX3_openAt_0 12 rfl) (lv_at hl 4 rfl) ?_
    refine lv_iload_n hx hb (z_d hX3_openAt_0 13 rfl) rfl (lv_at hl 3 rfl) ?_
    refine lv_icmp_le (tgt := 47) hx hb (z_d hX3_openAt_0 14 rfl) (by decide) (fun hc22 => ?_) (fun hc22 => ?_)
    · have hF := z_pos hc22 hF
      obtain rfl := Option.some.inj hF
      exact K1 _ _ ls hP hD hS (lv_sub hl [0, 1, 2] rfl)
    · have hF := z_neg hc22 hF
      refine lv_aload_n hx hb (z_d hX3_openAt_0 15 rfl) rfl (lv_at hl 0 rfl) ?_
      refine va_get (D := Z.1) (ci := 3) (v := .ref b1) (C := RX3) (T := TX3) (N := 1) hx hb hts zinX3 hown hK.1 hP 0 rfl rfl 0 (by decide) (hts _ k_f_X3_9) (fun _ h9 => h9) rfl (z_d hX3_openAt_0 16 rfl) ?_
      refine lv_iload hx hb (z_d hX3_openAt_0 17 rfl) (lv_at hl 4 rfl) ?_
      refine lv_aload_n hx hb (z_d hX3_openAt_0 18 rfl) rfl (lv_at hl 0 rfl) ?_
      refine va_get (D := Z.1) (ci := 3) (v := .ref b1) (C := RX3) (T := TX3) (N := 1) hx hb hts zinX3 hown hK.1 hP 0 rfl rfl 0 (by decide) (hts _ k_f_X3_9) (fun _ h9 => h9) rfl (z_d hX3_openAt_0 19 rfl) ?_
      refine lv_iload hx hb (z_d hX3_openAt_0 20 rfl) (lv_at hl 4 rfl) ?_
      refine lv_iconst (v := 1) hx hb (z_d hX3_openAt_0 21 rfl) (by decide) ?_
      refine lv_isub hx hb (z_d hX3_openAt_0 22 rfl) ?_
      refine z_let hF (fun u2 hu2 hF => ?_)
      refine lv_topE hu2 ?_
      refine z_ix hF (fun hin hF => ?_)
      refine va_iald (D := Z.1) (f := v.1) hx hb hK.1 hP 1 0 rfl rfl hin (z_d hX3_openAt_0 23 rfl) ?_
      refine z_let hF (fun u3 hu3 hF => ?_)
      refine lv_topE hu3 ?_
      refine z_ix hF (fun hin hF => ?_)
      refine z_let hF (fun g4 hg4 hF => ?_)
      refine z_iastR (Z := Z) (ws := (w_Row Z.2.1 n1 a1 b1 v.1)) (ws' := (w_Row Z.2.1 n1 a1 b1 g4)) (f := v.1) hx hb hK hP hD hS 1 rfl hin hg4 rfl (z_d hX3_openAt_0 24 rfl) (fun H locs hP hD hS => ?_)
      refine z_let hF (fun u5 hu5 hF => ?_)
      refine lv_iinc (v := u5) (lv' := [(4, .int u5), (0, .ref a1), (1, .int p1), (2, .int p2), (3, .int x3)]) hx hb (z_d hX3_openAt_0 25 rfl) hl (k := 4) rfl (z_incm1 hu5) (by decide) rfl (fun ls hl => ?_)
      refine lv_goto (tgt := 19) hx hb (z_d hX3_openAt_0 26 rfl) (by decide) ?_
      exact ih _ _ hF _ _ ls hP hD hS (lv_sub hl [1, 2, 3, 4, 0] rfl) K1
  have J9 : ∀ (f1 : Rw) (z0 : Int32) (hF : j_X3_openAt_9 n1 p1 p2 f1 z0 = some R) (H : Heap) (locs : List Loc) (ls : Array Slot) (hP : va_P Z.1 vwCl (w_Row Z.2.1 n1 a1 b1 f1) H) (hD : va_D A (w_Row Z.2.1 n1 a1 b1 f1)) (hS : va_S A s.heap H locs) (hl : lv_has ls 5 [(0, .ref a1), (1, .int p1), (2, .int p2)]), W p l e rm_X3_openAt s m ([.ref a1, .int p1, .int p2] : List Value).toArray below meth c H locs 0 0 Q (F0 m 9 ls [.int z0]) := by
    intro f1 z0 hF H locs ls hP hD hS hl
    unfold j_X3_openAt_9 at hF
    refine lv_istore_n (lv' := [(3, .int z0), (0, .ref a1), (1, .int p1), (2, .int p2)]) hx hb (z_d hX3_openAt_0 5 rfl) rfl hl (by decide) rfl (fun ls hl => ?_)
    refine lv_aload_n hx hb (z_d hX3_openAt_0 6 rfl) rfl (lv_at hl 1 rfl) ?_
    refine va_get (D := Z.1) (ci := 3) (v := .ref b1) (C := RX3) (T := TX3) (N := 1) hx hb hts zinX3 hown hK.1 hP 0 rfl rfl 0 (by decide) (hts _ k_f_X3_9) (fun _ h9 => h9) rfl (z_d hX3_openAt_0 7 rfl) ?_
    refine va_alen (v := Int32.ofNat n1) (ty := .int) hx hb hK.1 hP 1 0 rfl rfl rfl (z_d hX3_openAt_0 8 rfl) ?_
    refine lv_iconst (v := 1) hx hb (z_d hX3_openAt_0 9 rfl) (by decide) ?_
    refine lv_isub hx hb (z_d hX3_openAt_0 10 rfl) ?_
    refine z_let hF (fun u1 hu1 hF => ?_)
    refine lv_topE hu1 ?_
    refine lv_istore (lv' := [(4, .int u1), (3, .int z0), (0, .ref a1), (1, .int p1), (2, .int p2)]) hx hb (z_d hX3_openAt_0 11 rfl) hl (by decide) rfl (fun ls hl => ?_)
    refine z_bnd hF (fun q6 hq6 hF => ?_)
    refine L19 z0 _ _ _ hq6 _ _ ls hP hD hS (lv_sub hl [2, 3, 4, 1, 0] rfl) (fun H locs ls hP hD hS hl => ?_)
    refine lv_aload_n hx hb (z_d hX3_openAt_0 27 rfl) rfl (lv_at hl 0 rfl) ?_
    refine lv_iload_n hx hb (z_d hX3_openAt_0 28 rfl) rfl (lv_at hl 1 rfl) ?_
    refine lv_iload_n hx hb (z_d hX3_openAt_0 29 rfl) rfl (lv_at hl 2 rfl) ?_
    refine z_bnd hF (fun q7 hq7 hF => ?_)
    refine z_mu0 (z_rV (As := [.int p1, .int p2]) (rest := []) hx hb hml hown hts vt_X3_put (c_X3_put l Z n1 a1 b1 q6 p1 p2 _ hq7) rfl rfl ⟨Nat.le_of_ble_eq_true rfl, Nat.le_of_ble_eq_true rfl⟩ k_m_X3_15 zPmu_blind (z_recv (q := (RX3, TX3, 1)) (ci := 3) (q0 := 0) hK hP rfl rfl) (z_prem hK hP hD) rfl hl.1 (Nat.le_of_ble_eq_true rfl) (z_d hX3_openAt_0 30 rfl) ⟨Nat.zero_le _, Nat.zero_le _⟩) hS hD rfl (fun H locs hP hD hS => ?_)
    have hP : va_P Z.1 vwCl (w_Row Z.2.1 n1 a1 b1 q7) H := hP
    have hD : va_D A (w_Row Z.2.1 n1 a1 b1 q7) := hD
    refine W.eq (g2 := F0 m 53 ls []) rfl ?_
    obtain rfl := Option.some.inj hF
    subst hQ
    subst hA
    exact W.vret hx hb hr (fun t ht hW => zq_mu (by rw [ht]; exact hP) (hS.F ht)) hS.2.2 (z_d hX3_openAt_0 31 rfl)
  refine lv_iload_n hx hb (z_d hX3_openAt_0 0 rfl) rfl (lv_at hl 1 rfl) ?_
  refine lv_if_le (tgt := 8) hx hb (z_d hX3_openAt_0 1 rfl) (by decide) (fun hc1 => ?_) (fun hc1 => ?_)
  · have hF := z_pos hc1 hF
    refine lv_iconst (v := 0) hx hb (z_d hX3_openAt_0 4 rfl) (by decide) ?_
    exact J9 f1 0 hF _ _ ls hP hD hS (lv_sub hl [0, 1, 2] rfl)
  · have hF := z_neg hc1 hF
    refine lv_iload_n hx hb (z_d hX3_openAt_0 2 rfl) rfl (lv_at hl 1 rfl) ?_
    refine lv_goto (tgt := 9) hx hb (z_d hX3_openAt_0 3 rfl) (by decide) ?_
    exact J9 f1 p1 hF _ _ ls hP hD hS (lv_sub hl [0, 1, 2] rfl)
def rm_X3_closeAt : Room := { frames := 0, cells := 0, slots := 0, locals := 0 }
set_option maxRecDepth 100000 in
set_option maxHeartbeats 4000000 in
theorem c_X3_closeAt (l : Launch) (Z : zZ) (n1 a1 b1 : Nat) (f1 : Rw) (p1 : Int32) (R : Rw) (hF : X3_closeAt n1 f1 p1 = some R) : zMU l yX3_closeAt (zw yX3_closeAt cX3_closeAt 4 none) rm_X3_closeAt Z [.ref a1, .int p1] (w_Row Z.2.1 n1 a1 b1 f1) (w_Row Z.2.1 n1 a1 b1 R) none := by
  refine zMU_of (by decide) (Nat.le_of_ble_eq_true rfl) (fun p e s m below meth c hx hb hr hml hown hts hlocks hK A hA Q hQ ls hl hP hD hS => ?_)
  unfold X3_closeAt at hF
  have hl : lv_has ls 4 [(0, .ref a1), (1, .int p1)] := hl
  have hown : s.vm.findClass RX3 = some m.cls := hown
  have L12 : ∀  (n : Nat) (v : Rw × Int32) (X : Rw) (hF : zloop (b_X3_closeAt_12 n1 p1 ) n v = some X) (H : Heap) (locs : List Loc) (ls : Array Slot) (hP : va_P Z.1 vwCl (w_Row Z.2.1 n1 a1 b1 v.1) H) (hD : va_D A (w_Row Z.2.1 n1 a1 b1 v.1)) (hS : va_S A s.heap H locs) (hl : lv_has ls 4 [(0, .ref a1), (1, .int p1), (3, .int v.2)]) (K1 : ∀ (H : Heap) (locs : List Loc) (ls : Array Slot) (hP : va_P Z.1 vwCl (w_Row Z.2.1 n1 a1 b1 X) H) (hD : va_D A (w_Row Z.2.1 n1 a1 b1 X)) (hS : va_S A s.heap H locs) (hl : lv_has ls 4 [(0, .ref a1), (1, .int p1)]), W p l e rm_X3_closeAt s m ([.ref a1, .int p1] : List Value).toArray below meth c H locs 0 0 Q (F0 m 43 ls [])), W p l e rm_X3_closeAt s m ([.ref a1, .int p1] : List Value).toArray below meth c H locs 0 0 Q (F0 m 12 ls []) := by
    skip
    refine z_loopE (fun rec ih v X hF H locs ls hP hD hS hl K1 => ?_)
    unfold b_X3_closeAt_12 at hF
    refine lv_iload_n hx hb (z_d hX3_closeAt_0 8 rfl) rfl (lv_at hl 2 rfl) ?_
    refine lv_aload_n hx hb (z_d hX3_closeAt_0 9 rfl) rfl (lv_at hl 0 rfl) ?_
    refine va_get (D := Z.1) (ci := 3) (v := .ref b1) (C := RX3) (T := TX3) (N := 1) hx hb hts zinX3 hown hK.1 hP 0 rfl rfl 0 (by decide) (hts _ k_f_X3_9) (fun _ h9 => h9) rfl (z_d hX3_closeAt_0 10 rfl) ?_
    refine va_alen (v := Int32.ofNat n1) (ty := .int) hx hb hK.1 hP 1 0 rfl rfl rfl (z_d hX3_closeAt_0 11 rfl) ?_
    refine lv_iconst (v := 1) hx hb (z_d hX3_closeAt_0 12 rfl) (by decide) ?_
    refine lv_isub hx hb (z_d hX3_closeAt_0 13 rfl) ?_
    refine z_let hF (fun u1 hu1 hF => ?_)
    refine lv_topE hu1 ?_
    refine lv_icmp_ge (tgt := 43) hx hb (z_d hX3_closeAt_0 14 rfl) (by decide) (fun hc20 => ?_) (fun hc20 => ?_)
    · have hF := z_pos hc20 hF
      obtain rfl := Option.some.inj hF
      exact K1 _ _ ls hP hD hS (lv_sub hl [0, 1] rfl)
    · have hF := z_neg hc20 hF
      refine lv_aload_n hx hb (z_d hX3_closeAt_0 15 rfl) rfl (lv_at hl 0 rfl) ?_
      refine va_get (D := Z.1) (ci := 3) (v := .ref b1) (C := RX3) (T := TX3) (N := 1) hx hb hts zinX3 hown hK.1 hP 0 rfl rfl 0 (by decide) (hts _ k_f_X3_9) (fun _ h9 => h9) rfl (z_d hX3_closeAt_0 16 rfl) ?_
      refine lv_iload_n hx hb (z_d hX3_closeAt_0 17 rfl) rfl (lv_at hl 2 rfl) ?_
      refine lv_aload_n hx hb (z_d hX3_closeAt_0 18 rfl) rfl (lv_at hl 0 rfl) ?_
      refine va_get (D := Z.1) (ci := 3) (v := .ref b1) (C := RX3) (T := TX3) (N := 1) hx hb hts zinX3 hown hK.1 hP 0 rfl rfl 0 (by decide) (hts _ k_f_X3_9) (fun _ h9 => h9) rfl (z_d hX3_closeAt_0 19 rfl) ?_
      refine lv_iload_n hx hb (z_d hX3_closeAt_0 20 rfl) rfl (lv_at hl 2 rfl) ?_
      refine lv_iconst (v := 1) hx hb (z_d hX3_closeAt_0 21 rfl) (by decide) ?_
      refine lv_iadd hx hb (z_d hX3_closeAt_0 22 rfl) ?_
      refine z_let hF (fun u2 hu2 hF => ?_)
      refine lv_topE hu2 ?_
      refine z_ix hF (fun hin hF => ?_)
      refine va_iald (D := Z.1) (f := v.1) hx hb hK.1 hP 1 0 rfl rfl hin (z_d hX3_closeAt_0 23 rfl) ?_
      refine z_let hF (fun u3 hu3 hF => ?_)
      refine lv_topE hu3 ?_
      refine z_ix hF (fun hin hF => ?_)
      refine z_let hF (fun g4 hg4 hF => ?_)
      refine z_iastR (Z := Z) (ws := (w_Row Z.2.1 n1 a1 b1 v.1)) (ws' := (w_Row Z.2.1 n1 a1 b1 g4)) (f := v.1) hx hb hK hP hD hS 1 rfl hin hg4 rfl (z_d hX3_closeAt_0 24 rfl) (fun H locs hP hD hS => ?_)
      refine z_let hF (fun u5 hu5 hF => ?_)
      refine lv_iinc (v := u5) (lv' := [(3, .int u5), (0, .ref a1), (1, .int p1)]) hx hb (z_d hX3_closeAt_0 25 rfl) hl (k := 2) rfl (z_inc1 hu5) (by decide) rfl (fun ls hl => ?_)
      refine lv_goto (tgt := 12) hx hb (z_d hX3_closeAt_0 26 rfl) (by decide) ?_
      exact ih _ _ hF _ _ ls hP hD hS (lv_sub hl [1, 2, 0] rfl) K1
  have J9 : ∀ (f1 : Rw) (z0 : Int32) (hF : j_X3_closeAt_9 n1 p1 f1 z0 = some R) (H : Heap) (locs : List Loc) (ls : Array Slot) (hP : va_P Z.1 vwCl (w_Row Z.2.1 n1 a1 b1 f1) H) (hD : va_D A (w_Row Z.2.1 n1 a1 b1 f1)) (hS : va_S A s.heap H locs) (hl : lv_has ls 4 [(0, .ref a1), (1, .int p1)]), W p l e rm_X3_closeAt s m ([.ref a1, .int p1] : List Value).toArray below meth c H locs 0 0 Q (F0 m 9 ls [.int z0]) := by
    intro f1 z0 hF H locs ls hP hD hS hl
    unfold j_X3_closeAt_9 at hF
    refine lv_istore_n (lv' := [(2, .int z0), (0, .ref a1), (1, .int p1)]) hx hb (z_d hX3_closeAt_0 5 rfl) rfl hl (by decide) rfl (fun ls hl => ?_)
    refine lv_iload_n hx hb (z_d hX3_closeAt_0 6 rfl) rfl (lv_at hl 0 rfl) ?_
    refine lv_istore_n (lv' := [(3, .int z0), (2, .int z0), (0, .ref a1), (1, .int p1)]) hx hb (z_d hX3_closeAt_0 7 rfl) rfl hl (by decide) rfl (fun ls hl => ?_)
    refine z_bnd hF (fun q6 hq6 hF => ?_)
    refine L12  _ _ _ hq6 _ _ ls hP hD hS (lv_sub hl [2, 3, 0] rfl) (fun H locs ls hP hD hS hl => ?_)
    obtain rfl := Option.some.inj hF
    subst hQ
    subst hA
    exact W.vret hx hb hr (fun t ht hW => zq_mu (by rw [ht]; exact hP) (hS.F ht)) hS.2.2 (z_d hX3_closeAt_0 27 rfl)
  refine lv_iload_n hx hb (z_d hX3_closeAt_0 0 rfl) rfl (lv_at hl 1 rfl) ?_
  refine lv_if_le (tgt := 8) hx hb (z_d hX3_closeAt_0 1 rfl) (by decide) (fun hc1 => ?_) (fun hc1 => ?_)
  · have hF := z_pos hc1 hF
    refine lv_iconst (v := 0) hx hb (z_d hX3_closeAt_0 4 rfl) (by decide) ?_
    exact J9 f1 0 hF _ _ ls hP hD hS (lv_sub hl [0, 1] rfl)
  · have hF := z_neg hc1 hF
    refine lv_iload_n hx hb (z_d hX3_closeAt_0 2 rfl) rfl (lv_at hl 1 rfl) ?_
    refine lv_goto (tgt := 9) hx hb (z_d hX3_closeAt_0 3 rfl) (by decide) ?_
    exact J9 f1 p1 hF _ _ ls hP hD hS (lv_sub hl [0, 1] rfl)
def rm_X3_copyFrom : Room := { frames := 0, cells := 0, slots := 0, locals := 0 }
set_option maxRecDepth 100000 in
set_option maxHeartbeats 4000000 in
theorem c_X3_copyFrom (l : Launch) (Z : zZ) (n1 a1 b1 : Nat) (n2 a2 b2 : Nat) (f1 : Rw) (f2 : Rw) (R : Rw) (hF : X3_copyFrom n1 n2 f1 f2 = some R) : zMU l yX3_copyFrom (zw yX3_copyFrom cX3_copyFrom 3 none) rm_X3_copyFrom Z [.ref a1, .ref a2] (List.flatten [w_Row Z.2.1 n1 a1 b1 f1, w_Row Z.2.1 n2 a2 b2 f2]) (List.flatten [w_Row Z.2.1 n1 a1 b1 R, w_Row Z.2.1 n2 a2 b2 f2]) none := by
  refine zMU_of (by decide) (Nat.le_of_ble_eq_true rfl) (fun p e s m below meth c hx hb hr hml hown hts hlocks hK A hA Q hQ ls hl hP hD hS => ?_)
  unfold X3_copyFrom at hF
  have hl : lv_has ls 3 [(0, .ref a1), (1, .ref a2)] := hl
  have hown : s.vm.findClass RX3 = some m.cls := hown
  have L2 : ∀  (n : Nat) (v : Rw × Int32) (X : Rw) (hF : zloop (b_X3_copyFrom_2 n1 n2 f2 ) n v = some X) (H : Heap) (locs : List Loc) (ls : Array Slot) (hP : va_P Z.1 vwCl ([w_Row Z.2.1 n1 a1 b1 v.1, w_Row Z.2.1 n2 a2 b2 f2]).flatten H) (hD : va_D A ([w_Row Z.2.1 n1 a1 b1 v.1, w_Row Z.2.1 n2 a2 b2 f2]).flatten) (hS : va_S A s.heap H locs) (hl : lv_has ls 3 [(0, .ref a1), (1, .ref a2), (2, .int v.2)]) (K1 : ∀ (H : Heap) (locs : List Loc) (ls : Array Slot) (hP : va_P Z.1 vwCl ([w_Row Z.2.1 n1 a1 b1 X, w_Row Z.2.1 n2 a2 b2 f2]).flatten H) (hD : va_D A ([w_Row Z.2.1 n1 a1 b1 X, w_Row Z.2.1 n2 a2 b2 f2]).flatten) (hS : va_S A s.heap H locs) (hl : lv_has ls 3 [(0, .ref a1), (1, .ref a2)]), W p l e rm_X3_copyFrom s m ([.ref a1, .ref a2] : List Value).toArray below meth c H locs 0 0 Q (F0 m 38 ls [])), W p l e rm_X3_copyFrom s m ([.ref a1, .ref a2] : List Value).toArray below meth c H locs 0 0 Q (F0 m 2 ls []) := by
    skip
    refine z_loopE (fun rec ih v X hF H locs ls hP hD hS hl K1 => ?_)
    unfold b_X3_copyFrom_2 at hF
    refine lv_iload_n hx hb (z_d hX3_copyFrom_0 2 rfl) rfl (lv_at hl 2 rfl) ?_
    refine lv_aload_n hx hb (z_d hX3_copyFrom_0 3 rfl) rfl (lv_at hl 0 rfl) ?_
    refine va_get (D := Z.1) (ci := 3) (v := .ref b1) (C := RX3) (T := TX3) (N := 1) hx hb hts zinX3 hown hK.1 (zP_reg hP 0 rfl) 0 rfl rfl 0 (by decide) (hts _ k_f_X3_9) (fun _ h9 => h9) rfl (z_d hX3_copyFrom_0 4 rfl) ?_
    refine va_alen (v := Int32.ofNat n1) (ty := .int) hx hb hK.1 (zP_reg hP 0 rfl) 1 0 rfl rfl rfl (z_d hX3_copyFrom_0 5 rfl) ?_
    refine lv_icmp_ge (tgt := 38) hx hb (z_d hX3_copyFrom_0 6 rfl) (by decide) (fun hc8 => ?_) (fun hc8 => ?_)
    · have hF := z_pos hc8 hF
      obtain rfl := Option.some.inj hF
      exact K1 _ _ ls hP hD hS (lv_sub hl [0, 1] rfl)
    · have hF := z_neg hc8 hF
      refine lv_iload_n hx hb (z_d hX3_copyFrom_0 7 rfl) rfl (lv_at hl 2 rfl) ?_
      refine lv_aload_n hx hb (z_d hX3_copyFrom_0 8 rfl) rfl (lv_at hl 1 rfl) ?_
      refine va_get (D := Z.1) (ci := 3) (v := .ref b2) (C := RX3) (T := TX3) (N := 1) hx hb hts zinX3 hown hK.1 (zP_reg hP 1 rfl) 0 rfl rfl 0 (by decide) (hts _ k_f_X3_9) (fun _ h9 => h9) rfl (z_d hX3_copyFrom_0 9 rfl) ?_
      refine va_alen (v := Int32.ofNat n2) (ty := .int) hx hb hK.1 (zP_reg hP 1 rfl) 1 0 rfl rfl rfl (z_d hX3_copyFrom_0 10 rfl) ?_
      refine lv_icmp_ge (tgt := 38) hx hb (z_d hX3_copyFrom_0 11 rfl) (by decide) (fun hc17 => ?_) (fun hc17 => ?_)
      · have hF := z_pos hc17 hF
        obtain rfl := Option.some.inj hF
        exact K1 _ _ ls hP hD hS (lv_sub hl [0, 1] rfl)
      · have hF := z_neg hc17 hF
        refine lv_aload_n hx hb (z_d hX3_copyFrom_0 12 rfl) rfl (lv_at hl 0 rfl) ?_
        refine va_get (D := Z.1) (ci := 3) (v := .ref b1) (C := RX3) (T := TX3) (N := 1) hx hb hts zinX3 hown hK.1 (zP_reg hP 0 rfl) 0 rfl rfl 0 (by decide) (hts _ k_f_X3_9) (fun _ h9 => h9) rfl (z_d hX3_copyFrom_0 13 rfl) ?_
        refine lv_iload_n hx hb (z_d hX3_copyFrom_0 14 rfl) rfl (lv_at hl 2 rfl) ?_
        refine lv_aload_n hx hb (z_d hX3_copyFrom_0 15 rfl) rfl (lv_at hl 1 rfl) ?_
        refine va_get (D := Z.1) (ci := 3) (v := .ref b2) (C := RX3) (T := TX3) (N := 1) hx hb hts zinX3 hown hK.1 (zP_reg hP 1 rfl) 0 rfl rfl 0 (by decide) (hts _ k_f_X3_9) (fun _ h9 => h9) rfl (z_d hX3_copyFrom_0 16 rfl) ?_
        refine lv_iload_n hx hb (z_d hX3_copyFrom_0 17 rfl) rfl (lv_at hl 2 rfl) ?_
        refine z_ix hF (fun hin hF => ?_)
        refine va_iald (D := Z.1) (f := f2) hx hb hK.1 (zP_reg hP 1 rfl) 1 0 rfl rfl hin (z_d hX3_copyFrom_0 18 rfl) ?_
        refine z_let hF (fun u1 hu1 hF => ?_)
        refine lv_topE hu1 ?_
        refine z_ix hF (fun hin hF => ?_)
        refine z_let hF (fun g2 hg2 hF => ?_)
        refine z_iastR (Z := Z) (ws := ([w_Row Z.2.1 n1 a1 b1 v.1, w_Row Z.2.1 n2 a2 b2 f2]).flatten) (ws' := ([w_Row Z.2.1 n1 a1 b1 g2, w_Row Z.2.1 n2 a2 b2 f2]).flatten) (f := v.1) hx hb hK hP hD hS 1 rfl hin hg2 rfl (z_d hX3_copyFrom_0 19 rfl) (fun H locs hP hD hS => ?_)
        refine z_let hF (fun u3 hu3 hF => ?_)
        refine lv_iinc (v := u3) (lv' := [(2, .int u3), (0, .ref a1), (1, .ref a2)]) hx hb (z_d hX3_copyFrom_0 20 rfl) hl (k := 2) rfl (z_inc1 hu3) (by decide) rfl (fun ls hl => ?_)
        refine lv_goto (tgt := 2) hx hb (z_d hX3_copyFrom_0 21 rfl) (by decide) ?_
        exact ih _ _ hF _ _ ls hP hD hS (lv_sub hl [1, 2, 0] rfl) K1
  refine lv_iconst (v := 0) hx hb (z_d hX3_copyFrom_0 0 rfl) (by decide) ?_
  refine lv_istore_n (lv' := [(2, .int 0), (0, .ref a1), (1, .ref a2)]) hx hb (z_d hX3_copyFrom_0 1 rfl) rfl hl (by decide) rfl (fun ls hl => ?_)
  refine z_bnd hF (fun q4 hq4 hF => ?_)
  refine L2  _ _ _ hq4 _ _ ls hP hD hS (lv_sub hl [1, 2, 0] rfl) (fun H locs ls hP hD hS hl => ?_)
  obtain rfl := Option.some.inj hF
  subst hQ
  subst hA
  exact W.vret hx hb hr (fun t ht hW => zq_mu (by rw [ht]; exact hP) (hS.F ht)) hS.2.2 (z_d hX3_copyFrom_0 22 rfl)

theorem k_min_X1 : Cond.methodLink RX1 133 Lib.Math.min.name ∈ zG := zG_at 563 (by decide +kernel) (by decide +kernel)
theorem k_min_s : Cond.static Lib.Math.min.name ∈ zG := zG_at 564 (by decide +kernel) (by decide +kernel)
theorem k_min_i : Cond.initialized "java/lang/Math" ∈ zG := zG_at 38 (by decide +kernel) (by decide +kernel)
theorem k_min_c : Cond.code Lib.Math.min.name Lib.Math.min.code 2 (some .int) ∈ zG := zG_at 565 (by decide +kernel) (by decide +kernel)
def rm_X6_isBelow : Room := { frames := 0, cells := 0, slots := 0, locals := 0 }
set_option maxRecDepth 100000 in
set_option maxHeartbeats 4000000 in
theorem c_X6_isBelow (l : Launch) (Z : zZ) (p0 : Int32) (p1 : Int32) (R : Int32) (hF : X6_isBelow p0 p1 = R) : zRO l yX6_isBelow (zw yX6_isBelow cX6_isBelow 2 (some .boolean)) rm_X6_isBelow Z [.int p0, .int p1] ([] : va_W) (some (.int R)) := by
  refine zRO_of (by decide) (Nat.le_of_ble_eq_true rfl) (fun p e s m below meth c hx hb hr hml hown hts hlocks hK Q hQ ls hl hP hS => ?_)
  unfold X6_isBelow at hF
  have hl : lv_has ls 2 [(0, .int p0), (1, .int p1)] := hl
  have hown : s.vm.findClass RX6 = some m.cls := hown
  refine lv_iload_n hx hb (z_d hX6_isBelow_0 0 rfl) rfl (lv_at hl 0 rfl) ?_
  refine lv_if_lt (tgt := 13) hx hb (z_d hX6_isBelow_0 1 rfl) (by decide) (fun hc1 => ?_) (fun hc1 => ?_)
  · have hF := z_pos hc1 hF
    refine lv_iconst (v := 0) hx hb (z_d hX6_isBelow_0 7 rfl) (by decide) ?_
    have hz9 : narrow .boolean (.int 0) = .int 0 := rfl
    obtain rfl := hF
    subst hQ
    exact W.zret hx hb hr hz9 (fun t ht hW => zq_ro (hS.F ht)) hS.2.2 (z_d hX6_isBelow_0 8 rfl)
  · have hF := z_neg hc1 hF
    refine lv_iload_n hx hb (z_d hX6_isBelow_0 2 rfl) rfl (lv_at hl 0 rfl) ?_
    refine lv_iload_n hx hb (z_d hX6_isBelow_0 3 rfl) rfl (lv_at hl 1 rfl) ?_
    refine lv_icmp_ge (tgt := 13) hx hb (z_d hX6_isBelow_0 4 rfl) (by decide) (fun hc6 => ?_) (fun hc6 => ?_)
    · have hF := z_pos hc6 hF
      refine lv_iconst (v := 0) hx hb (z_d hX6_isBelow_0 7 rfl) (by decide) ?_
      have hz9 : narrow .boolean (.int 0) = .int 0 := rfl
      obtain rfl := hF
      subst hQ
      exact W.zret hx hb hr hz9 (fun t ht hW => zq_ro (hS.F ht)) hS.2.2 (z_d hX6_isBelow_0 8 rfl)
    · have hF := z_neg hc6 hF
      refine lv_iconst (v := 1) hx hb (z_d hX6_isBelow_0 5 rfl) (by decide) ?_
      refine lv_goto (tgt := 14) hx hb (z_d hX6_isBelow_0 6 rfl) (by decide) ?_
      have hz9 : narrow .boolean (.int 1) = .int 1 := rfl
      obtain rfl := hF
      subst hQ
      exact W.zret hx hb hr hz9 (fun t ht hW => zq_ro (hS.F ht)) hS.2.2 (z_d hX6_isBelow_0 8 rfl)
def rm_X6_isKind : Room := { frames := 0, cells := 0, slots := 0, locals := 0 }
set_option maxRecDepth 100000 in
set_option maxHeartbeats 4000000 in
theorem c_X6_isKind (l : Launch) (Z : zZ) (p0 : Int32) (R : Int32) (hF : X6_isKind p0 = R) : zRO l yX6_isKind (zw yX6_isKind cX6_isKind 1 (some .boolean)) rm_X6_isKind Z [.int p0] ([] : va_W) (some (.int R)) := by
  refine zRO_of (by decide) (Nat.le_of_ble_eq_true rfl) (fun p e s m below meth c hx hb hr hml hown hts hlocks hK Q hQ ls hl hP hS => ?_)
  unfold X6_isKind at hF
  have hl : lv_has ls 1 [(0, .int p0)] := hl
  have hown : s.vm.findClass RX6 = some m.cls := hown
  refine lv_iload_n hx hb (z_d hX6_isKind_0 0 rfl) rfl (lv_at hl 0 rfl) ?_
  refine lv_if_lt (tgt := 13) hx hb (z_d hX6_isKind_0 1 rfl) (by decide) (fun hc1 => ?_) (fun hc1 => ?_)
  · have hF := z_pos hc1 hF
    refine lv_iconst (v := 0) hx hb (z_d hX6_isKind_0 7 rfl) (by decide) ?_
    have hz9 : narrow .boolean (.int 0) = .int 0 := rfl
    obtain rfl := hF
    subst hQ
    exact W.zret hx hb hr hz9 (fun t ht hW => zq_ro (hS.F ht)) hS.2.2 (z_d hX6_isKind_0 8 rfl)
  · have hF := z_neg hc1 hF
    refine lv_iload_n hx hb (z_d hX6_isKind_0 2 rfl) rfl (lv_at hl 0 rfl) ?_
    refine lv_iconst (v := 4) hx hb (z_d hX6_isKind_0 3 rfl) (by decide) ?_
    refine lv_icmp_gt (tgt := 13) hx hb (z_d hX6_isKind_0 4 rfl) (by decide) (fun hc6 => ?_) (fun hc6 => ?_)
    · have hF := z_pos hc6 hF
      refine lv_iconst (v := 0) hx hb (z_d hX6_isKind_0 7 rfl) (by decide) ?_
      have hz9 : narrow .boolean (.int 0) = .int 0 := rfl
      obtain rfl := hF
      subst hQ
      exact W.zret hx hb hr hz9 (fun t ht hW => zq_ro (hS.F ht)) hS.2.2 (z_d hX6_isKind_0 8 rfl)
    · have hF := z_neg hc6 hF
      refine lv_iconst (v := 1) hx hb (z_d hX6_isKind_0 5 rfl) (by decide) ?_
      refine lv_goto (tgt := 14) hx hb (z_d hX6_isKind_0 6 rfl) (by decide) ?_
      have hz9 : narrow .boolean (.int 1) = .int 1 := rfl
      obtain rfl := hF
      subst hQ
      exact W.zret hx hb hr hz9 (fun t ht hW => zq_ro (hS.F ht)) hS.2.2 (z_d hX6_isKind_0 8 rfl)
def rm_X6_isLength : Room := { frames := 0, cells := 0, slots := 0, locals := 0 }
set_option maxRecDepth 100000 in
set_option maxHeartbeats 4000000 in
theorem c_X6_isLength (l : Launch) (Z : zZ) (p0 : Int32) (R : Int32) (hF : X6_isLength p0 = R) : zRO l yX6_isLength (zw yX6_isLength cX6_isLength 1 (some .boolean)) rm_X6_isLength Z [.int p0] ([] : va_W) (some (.int R)) := by
  refine zRO_of (by decide) (Nat.le_of_ble_eq_true rfl) (fun p e s m below meth c hx hb hr hml hown hts hlocks hK Q hQ ls hl hP hS => ?_)
  unfold X6_isLength at hF
  have hl : lv_has ls 1 [(0, .int p0)] := hl
  have hown : s.vm.findClass RX6 = some m.cls := hown
  refine lv_iload_n hx hb (z_d hX6_isLength_0 0 rfl) rfl (lv_at hl 0 rfl) ?_
  refine lv_iconst (v := 1) hx hb (z_d hX6_isLength_0 1 rfl) (by decide) ?_
  refine lv_icmp_lt (tgt := 16) hx hb (z_d hX6_isLength_0 2 rfl) (by decide) (fun hc2 => ?_) (fun hc2 => ?_)
  · have hF := z_pos hc2 hF
    refine lv_iconst (v := 0) hx hb (z_d hX6_isLength_0 8 rfl) (by decide) ?_
    have hz9 : narrow .boolean (.int 0) = .int 0 := rfl
    obtain rfl := hF
    subst hQ
    exact W.zret hx hb hr hz9 (fun t ht hW => zq_ro (hS.F ht)) hS.2.2 (z_d hX6_isLength_0 9 rfl)
  · have hF := z_neg hc2 hF
    refine lv_iload_n hx hb (z_d hX6_isLength_0 3 rfl) rfl (lv_at hl 0 rfl) ?_
    refine lv_sipush (v := 400) hx hb (z_d hX6_isLength_0 4 rfl) (by decide) ?_
    refine lv_icmp_gt (tgt := 16) hx hb (z_d hX6_isLength_0 5 rfl) (by decide) (fun hc9 => ?_) (fun hc9 => ?_)
    · have hF := z_pos hc9 hF
      refine lv_iconst (v := 0) hx hb (z_d hX6_isLength_0 8 rfl) (by decide) ?_
      have hz9 : narrow .boolean (.int 0) = .int 0 := rfl
      obtain rfl := hF
      subst hQ
      exact W.zret hx hb hr hz9 (fun t ht hW => zq_ro (hS.F ht)) hS.2.2 (z_d hX6_isLength_0 9 rfl)
    · have hF := z_neg hc9 hF
      refine lv_iconst (v := 1) hx hb (z_d hX6_isLength_0 6 rfl) (by decide) ?_
      refine lv_goto (tgt := 17) hx hb (z_d hX6_isLength_0 7 rfl) (by decide) ?_
      have hz9 : narrow .boolean (.int 1) = .int 1 := rfl
      obtain rfl := hF
      subst hQ
      exact W.zret hx hb hr hz9 (fun t ht hW => zq_ro (hS.F ht)) hS.2.2 (z_d hX6_isLength_0 9 rfl)
def rm_X6_isPersonOf : Room := { frames := 0, cells := 0, slots := 0, locals := 0 }
set_option maxRecDepth 100000 in
set_option maxHeartbeats 4000000 in
theorem c_X6_isPersonOf (l : Launch) (Z : zZ) (p0 : Int32) (p1 : Int32) (R : Int32) (hF : X6_isPersonOf p0 p1 = R) : zRO l yX6_isPersonOf (zw yX6_isPersonOf cX6_isPersonOf 2 (some .boolean)) rm_X6_isPersonOf Z [.int p0, .int p1] ([] : va_W) (some (.int R)) := by
  refine zRO_of (by decide) (Nat.le_of_ble_eq_true rfl) (fun p e s m below meth c hx hb hr hml hown hts hlocks hK Q hQ ls hl hP hS => ?_)
  unfold X6_isPersonOf at hF
  have hl : lv_has ls 2 [(0, .int p0), (1, .int p1)] := hl
  have hown : s.vm.findClass RX6 = some m.cls := hown
  refine lv_iload_n hx hb (z_d hX6_isPersonOf_0 0 rfl) rfl (lv_at hl 0 rfl) ?_
  refine lv_iconst (v := 2) hx hb (z_d hX6_isPersonOf_0 1 rfl) (by decide) ?_
  refine lv_icmp_ne (tgt := 23) hx hb (z_d hX6_isPersonOf_0 2 rfl) (by decide) (fun hc2 => ?_) (fun hc2 => ?_)
  · have hF := z_neg hc2 hF
    refine lv_iload_n hx hb (z_d hX6_isPersonOf_0 12 rfl) rfl (lv_at hl 1 rfl) ?_
    refine lv_iconst (v := (-1)) hx hb (z_d hX6_isPersonOf_0 13 rfl) (by decide) ?_
    refine lv_icmp_ne (tgt := 32) hx hb (z_d hX6_isPersonOf_0 14 rfl) (by decide) (fun hc25 => ?_) (fun hc25 => ?_)
    · have hF := z_neg hc25 hF
      refine lv_iconst (v := 0) hx hb (z_d hX6_isPersonOf_0 17 rfl) (by decide) ?_
      have hz9 : narrow .boolean (.int 0) = .int 0 := rfl
      obtain rfl := hF
      subst hQ
      exact W.zret hx hb hr hz9 (fun t ht hW => zq_ro (hS.F ht)) hS.2.2 (z_d hX6_isPersonOf_0 18 rfl)
    · have hF := z_pos hc25 hF
      refine lv_iconst (v := 1) hx hb (z_d hX6_isPersonOf_0 15 rfl) (by decide) ?_
      refine lv_goto (tgt := 33) hx hb (z_d hX6_isPersonOf_0 16 rfl) (by decide) ?_
      have hz9 : narrow .boolean (.int 1) = .int 1 := rfl
      obtain rfl := hF
      subst hQ
      exact W.zret hx hb hr hz9 (fun t ht hW => zq_ro (hS.F ht)) hS.2.2 (z_d hX6_isPersonOf_0 18 rfl)
  · have hF := z_pos hc2 hF
    refine lv_iload_n hx hb (z_d hX6_isPersonOf_0 3 rfl) rfl (lv_at hl 1 rfl) ?_
    refine lv_if_lt (tgt := 19) hx hb (z_d hX6_isPersonOf_0 4 rfl) (by decide) (fun hc6 => ?_) (fun hc6 => ?_)
    · have hF := z_pos hc6 hF
      refine lv_iconst (v := 0) hx hb (z_d hX6_isPersonOf_0 10 rfl) (by decide) ?_
      refine lv_goto (tgt := 33) hx hb (z_d hX6_isPersonOf_0 11 rfl) (by decide) ?_
      have hz9 : narrow .boolean (.int 0) = .int 0 := rfl
      obtain rfl := hF
      subst hQ
      exact W.zret hx hb hr hz9 (fun t ht hW => zq_ro (hS.F ht)) hS.2.2 (z_d hX6_isPersonOf_0 18 rfl)
    · have hF := z_neg hc6 hF
      refine lv_iload_n hx hb (z_d hX6_isPersonOf_0 5 rfl) rfl (lv_at hl 1 rfl) ?_
      refine lv_bipush (v := 9) hx hb (z_d hX6_isPersonOf_0 6 rfl) (by decide) ?_
      refine lv_icmp_gt (tgt := 19) hx hb (z_d hX6_isPersonOf_0 7 rfl) (by decide) (fun hc12 => ?_) (fun hc12 => ?_)
      · have hF := z_pos hc12 hF
        refine lv_iconst (v := 0) hx hb (z_d hX6_isPersonOf_0 10 rfl) (by decide) ?_
        refine lv_goto (tgt := 33) hx hb (z_d hX6_isPersonOf_0 11 rfl) (by decide) ?_
        have hz9 : narrow .boolean (.int 0) = .int 0 := rfl
        obtain rfl := hF
        subst hQ
        exact W.zret hx hb hr hz9 (fun t ht hW => zq_ro (hS.F ht)) hS.2.2 (z_d hX6_isPersonOf_0 18 rfl)
      · have hF := z_neg hc12 hF
        refine lv_iconst (v := 1) hx hb (z_d hX6_isPersonOf_0 8 rfl) (by decide) ?_
        refine lv_goto (tgt := 33) hx hb (z_d hX6_isPersonOf_0 9 rfl) (by decide) ?_
        have hz9 : narrow .boolean (.int 1) = .int 1 := rfl
        obtain rfl := hF
        subst hQ
        exact W.zret hx hb hr hz9 (fun t ht hW => zq_ro (hS.F ht)) hS.2.2 (z_d hX6_isPersonOf_0 18 rfl)
def rm_X6_isPageLines : Room := { frames := 0, cells := 0, slots := 0, locals := 0 }
set_option maxRecDepth 100000 in
set_option maxHeartbeats 4000000 in
theorem c_X6_isPageLines (l : Launch) (Z : zZ) (p0 : Int32) (R : Int32) (hF : X6_isPageLines p0 = R) : zRO l yX6_isPageLines (zw yX6_isPageLines cX6_isPageLines 1 (some .boolean)) rm_X6_isPageLines Z [.int p0] ([] : va_W) (some (.int R)) := by
  refine zRO_of (by decide) (Nat.le_of_ble_eq_true rfl) (fun p e s m below meth c hx hb hr hml hown hts hlocks hK Q hQ ls hl hP hS => ?_)
  unfold X6_isPageLines at hF
  have hl : lv_has ls 1 [(0, .int p0)] := hl
  have hown : s.vm.findClass RX6 = some m.cls := hown
  refine lv_iload_n hx hb (z_d hX6_isPageLines_0 0 rfl) rfl (lv_at hl 0 rfl) ?_
  refine lv_bipush (v := 20) hx hb (z_d hX6_isPageLines_0 1 rfl) (by decide) ?_
  refine lv_icmp_lt (tgt := 16) hx hb (z_d hX6_isPageLines_0 2 rfl) (by decide) (fun hc3 => ?_) (fun hc3 => ?_)
  · have hF := z_pos hc3 hF
    refine lv_iconst (v := 0) hx hb (z_d hX6_isPageLines_0 8 rfl) (by decide) ?_
    have hz9 : narrow .boolean (.int 0) = .int 0 := rfl
    obtain rfl := hF
    subst hQ
    exact W.zret hx hb hr hz9 (fun t ht hW => zq_ro (hS.F ht)) hS.2.2 (z_d hX6_isPageLines_0 9 rfl)
  · have hF := z_neg hc3 hF
    refine lv_iload_n hx hb (z_d hX6_isPageLines_0 3 rfl) rfl (lv_at hl 0 rfl) ?_
    refine lv_bipush (v := 60) hx hb (z_d hX6_isPageLines_0 4 rfl) (by decide) ?_
    refine lv_icmp_gt (tgt := 16) hx hb (z_d hX6_isPageLines_0 5 rfl) (by decide) (fun hc9 => ?_) (fun hc9 => ?_)
    · have hF := z_pos hc9 hF
      refine lv_iconst (v := 0) hx hb (z_d hX6_isPageLines_0 8 rfl) (by decide) ?_
      have hz9 : narrow .boolean (.int 0) = .int 0 := rfl
      obtain rfl := hF
      subst hQ
      exact W.zret hx hb hr hz9 (fun t ht hW => zq_ro (hS.F ht)) hS.2.2 (z_d hX6_isPageLines_0 9 rfl)
    · have hF := z_neg hc9 hF
      refine lv_iconst (v := 1) hx hb (z_d hX6_isPageLines_0 6 rfl) (by decide) ?_
      refine lv_goto (tgt := 17) hx hb (z_d hX6_isPageLines_0 7 rfl) (by decide) ?_
      have hz9 : narrow .boolean (.int 1) = .int 1 := rfl
      obtain rfl := hF
      subst hQ
      exact W.zret hx hb hr hz9 (fun t ht hW => zq_ro (hS.F ht)) hS.2.2 (z_d hX6_isPageLines_0 9 rfl)
def rm_X1_leastPart : Room := { frames := 0, cells := 0, slots := 0, locals := 0 }
set_option maxRecDepth 100000 in
set_option maxHeartbeats 4000000 in
theorem c_X1_leastPart (l : Launch) (Z : zZ) (p0 : Int32) (p1 : Int32) (R : Int32) (hF : X1_leastPart p0 p1 = R) : zRO l yX1_leastPart (zw yX1_leastPart cX1_leastPart 2 (some .int)) rm_X1_leastPart Z [.int p0, .int p1] ([] : va_W) (some (.int R)) := by
  refine zRO_of (by decide) (Nat.le_of_ble_eq_true rfl) (fun p e s m below meth c hx hb hr hml hown hts hlocks hK Q hQ ls hl hP hS => ?_)
  unfold X1_leastPart at hF
  have hl : lv_has ls 2 [(0, .int p0), (1, .int p1)] := hl
  have hown : s.vm.findClass RX1 = some m.cls := hown
  have J12 : ∀  (hF : j_X1_leastPart_12 p0 p1 = R) (H : Heap) (locs : List Loc) (ls : Array Slot) (hP : va_P Z.1 vwCl ([] : va_W) H) (hS : va_S (fun _ => False) s.heap H locs) (hl : lv_has ls 2 [(0, .int p0), (1, .int p1)]), W p l e rm_X1_leastPart s m ([.int p0, .int p1] : List Value).toArray below meth c H locs 0 0 Q (F0 m 12 ls []) := by
    intro  hF H locs ls hP hS hl
    unfold j_X1_leastPart_12 at hF
    refine lv_iload_n hx hb (z_d hX1_leastPart_0 8 rfl) rfl (lv_at hl 1 rfl) ?_
    refine lv_iconst (v := 4) hx hb (z_d hX1_leastPart_0 9 rfl) (by decide) ?_
    refine lv_icmp_lt (tgt := 26) hx hb (z_d hX1_leastPart_0 10 rfl) (by decide) (fun hc14 => ?_) (fun hc14 => ?_)
    · have hF := z_pos hc14 hF
      refine lv_iload_n hx hb (z_d hX1_leastPart_0 16 rfl) rfl (lv_at hl 1 rfl) ?_
      obtain rfl := hF
      subst hQ
      exact W.iret hx hb hr (fun t ht hW => zq_ro (hS.F ht)) hS.2.2 (z_d hX1_leastPart_0 17 rfl)
    · have hF := z_neg hc14 hF
      refine lv_iload_n hx hb (z_d hX1_leastPart_0 11 rfl) rfl (lv_at hl 0 rfl) ?_
      refine lv_iconst (v := 3) hx hb (z_d hX1_leastPart_0 12 rfl) (by decide) ?_
      refine lv_icmp_ne (tgt := 26) hx hb (z_d hX1_leastPart_0 13 rfl) (by decide) (fun hc19 => ?_) (fun hc19 => ?_)
      · have hF := z_neg hc19 hF
        refine lv_iload_n hx hb (z_d hX1_leastPart_0 16 rfl) rfl (lv_at hl 1 rfl) ?_
        obtain rfl := hF
        subst hQ
        exact W.iret hx hb hr (fun t ht hW => zq_ro (hS.F ht)) hS.2.2 (z_d hX1_leastPart_0 17 rfl)
      · have hF := z_pos hc19 hF
        refine lv_iconst (v := 3) hx hb (z_d hX1_leastPart_0 14 rfl) (by decide) ?_
        refine lv_goto (tgt := 27) hx hb (z_d hX1_leastPart_0 15 rfl) (by decide) ?_
        obtain rfl := hF
        subst hQ
        exact W.iret hx hb hr (fun t ht hW => zq_ro (hS.F ht)) hS.2.2 (z_d hX1_leastPart_0 17 rfl)
  refine lv_iload_n hx hb (z_d hX1_leastPart_0 0 rfl) rfl (lv_at hl 1 rfl) ?_
  refine lv_iconst (v := 4) hx hb (z_d hX1_leastPart_0 1 rfl) (by decide) ?_
  refine lv_icmp_lt (tgt := 12) hx hb (z_d hX1_leastPart_0 2 rfl) (by decide) (fun hc2 => ?_) (fun hc2 => ?_)
  · have hF := z_pos hc2 hF
    exact J12  hF _ _ ls hP hS (lv_sub hl [0, 1] rfl)
  · have hF := z_neg hc2 hF
    refine lv_iload_n hx hb (z_d hX1_leastPart_0 3 rfl) rfl (lv_at hl 0 rfl) ?_
    refine lv_iconst (v := 1) hx hb (z_d hX1_leastPart_0 4 rfl) (by decide) ?_
    refine lv_icmp_ne (tgt := 12) hx hb (z_d hX1_leastPart_0 5 rfl) (by decide) (fun hc7 => ?_) (fun hc7 => ?_)
    · have hF := z_neg hc7 hF
      exact J12  hF _ _ ls hP hS (lv_sub hl [0, 1] rfl)
    · have hF := z_pos hc7 hF
      refine lv_iconst (v := 2) hx hb (z_d hX1_leastPart_0 6 rfl) (by decide) ?_
      obtain rfl := hF
      subst hQ
      exact W.iret hx hb hr (fun t ht hW => zq_ro (hS.F ht)) hS.2.2 (z_d hX1_leastPart_0 7 rfl)
def rm_X1_firstPart : Room := { frames := 1, cells := 0, slots := 0, locals := 21 }
set_option maxRecDepth 100000 in
set_option maxHeartbeats 4000000 in
theorem c_X1_firstPart (l : Launch) (Z : zZ) (p0 : Int32) (p1 : Int32) (p2 : Int32) (R : Int32) (hF : X1_firstPart p0 p1 p2 = R) : zRO l yX1_firstPart (zw yX1_firstPart cX1_firstPart 3 (some .int)) rm_X1_firstPart Z [.int p0, .int p1, .int p2] ([] : va_W) (some (.int R)) := by
  refine zRO_of (by decide) (Nat.le_of_ble_eq_true rfl) (fun p e s m below meth c hx hb hr hml hown hts hlocks hK Q hQ ls hl hP hS => ?_)
  unfold X1_firstPart at hF
  have hl : lv_has ls 3 [(0, .int p0), (1, .int p1), (2, .int p2)] := hl
  have hown : s.vm.findClass RX1 = some m.cls := hown
  have J19 : ∀ (z0 : Int32) (hF : j_X1_firstPart_19 p0 p1 p2 z0 = R) (H : Heap) (locs : List Loc) (ls : Array Slot) (hP : va_P Z.1 vwCl ([] : va_W) H) (hS : va_S (fun _ => False) s.heap H locs) (hl : lv_has ls 3 [(0, .int p0), (1, .int p1), (2, .int p2)]), W p l e rm_X1_firstPart s m ([.int p0, .int p1, .int p2] : List Value).toArray below meth c H locs 0 0 Q (F0 m 19 ls [.int z0]) := by
    intro z0 hF H locs ls hP hS hl
    unfold j_X1_firstPart_19 at hF
    refine lv_iload_n hx hb (z_d hX1_firstPart_0 13 rfl) rfl (lv_at hl 1 rfl) ?_
    refine lv_iconst (v := 2) hx hb (z_d hX1_firstPart_0 14 rfl) (by decide) ?_
    refine lv_isub hx hb (z_d hX1_firstPart_0 15 rfl) ?_
    refine z_let hF (fun u1 hu1 hF => ?_)
    refine lv_topE hu1 ?_
    refine va_mmin hx hb (by rw [hml]; exact hl.1.symm) hown (hts _ k_min_X1) (hts _ k_min_s) (hts _ k_min_i) (hts _ k_min_c) (Nat.le_of_ble_eq_true rfl) (Nat.le_of_ble_eq_true rfl) (Nat.zero_le _) (Nat.zero_le _) (z_d hX1_firstPart_0 16 rfl) ?_
    refine z_let hF (fun u2 hu2 hF => ?_)
    refine lv_topE hu2 ?_
    obtain rfl := hF
    subst hQ
    exact W.iret hx hb hr (fun t ht hW => zq_ro (hS.F ht)) hS.2.2 (z_d hX1_firstPart_0 17 rfl)
  refine lv_iload_n hx hb (z_d hX1_firstPart_0 0 rfl) rfl (lv_at hl 1 rfl) ?_
  refine lv_iload_n hx hb (z_d hX1_firstPart_0 1 rfl) rfl (lv_at hl 2 rfl) ?_
  refine lv_icmp_gt (tgt := 7) hx hb (z_d hX1_firstPart_0 2 rfl) (by decide) (fun hc2 => ?_) (fun hc2 => ?_)
  · have hF := z_pos hc2 hF
    refine lv_iload_n hx hb (z_d hX1_firstPart_0 5 rfl) rfl (lv_at hl 0 rfl) ?_
    refine lv_iconst (v := 3) hx hb (z_d hX1_firstPart_0 6 rfl) (by decide) ?_
    refine lv_icmp_ne (tgt := 18) hx hb (z_d hX1_firstPart_0 7 rfl) (by decide) (fun hc9 => ?_) (fun hc9 => ?_)
    · have hF := z_neg hc9 hF
      refine lv_iload_n hx hb (z_d hX1_firstPart_0 12 rfl) rfl (lv_at hl 2 rfl) ?_
      exact J19 p2 hF _ _ ls hP hS (lv_sub hl [0, 1, 2] rfl)
    · have hF := z_pos hc9 hF
      refine lv_iload_n hx hb (z_d hX1_firstPart_0 8 rfl) rfl (lv_at hl 2 rfl) ?_
      refine lv_iconst (v := 1) hx hb (z_d hX1_firstPart_0 9 rfl) (by decide) ?_
      refine lv_isub hx hb (z_d hX1_firstPart_0 10 rfl) ?_
      refine z_let hF (fun u3 hu3 hF => ?_)
      refine lv_topE hu3 ?_
      refine lv_goto (tgt := 19) hx hb (z_d hX1_firstPart_0 11 rfl) (by decide) ?_
      exact J19 u3 hF _ _ ls hP hS (lv_sub hl [0, 1, 2] rfl)
  · have hF := z_neg hc2 hF
    refine lv_iload_n hx hb (z_d hX1_firstPart_0 3 rfl) rfl (lv_at hl 1 rfl) ?_
    obtain rfl := hF
    subst hQ
    exact W.iret hx hb hr (fun t ht hW => zq_ro (hS.F ht)) hS.2.2 (z_d hX1_firstPart_0 4 rfl)

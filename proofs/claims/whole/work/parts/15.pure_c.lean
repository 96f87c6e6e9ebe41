theorem vs_X7_in : zSt yX7_in cX7_in 3 (some .boolean) 3 := ⟨zG_at 961 (by decide +kernel) (by decide +kernel), zG_at 81 (by decide +kernel) (by decide +kernel), zG_at 962 (by decide +kernel) (by decide +kernel), by decide +kernel⟩
theorem k_min_X1 : Cond.methodLink RX1 133 Lib.Math.min.name ∈ zG := zG_at 467 (by decide +kernel) (by decide +kernel)
theorem k_min_s : Cond.static Lib.Math.min.name ∈ zG := zG_at 468 (by decide +kernel) (by decide +kernel)
theorem k_min_i : Cond.initialized "java/lang/Math" ∈ zG := zG_at 88 (by decide +kernel) (by decide +kernel)
theorem k_min_c : Cond.code Lib.Math.min.name Lib.Math.min.code 2 (some .int) ∈ zG := zG_at 469 (by decide +kernel) (by decide +kernel)
theorem k_m_X7_58 : Cond.methodLink RX7 58 yX7_in ∈ zG := zG_at 960 (by decide +kernel) (by decide +kernel)
def rm_X6_isBelow : Room := { frames := 0, cells := 0, slots := 0, locals := 0 }
set_option maxRecDepth 100000 in
set_option maxHeartbeats 4000000 in
theorem c_X6_isBelow (l : Launch) (Z : zZ) (p0 : Int32) (p1 : Int32) (R : Int32) (hF : X6_isBelow p0 p1 = R) : zRO l yX6_isBelow (zw yX6_isBelow cX6_isBelow 2 (some .boolean)) rm_X6_isBelow Z [.int p0, .int p1] ([] : va_W) (some (.int R)) := by
  refine zRO_of (by decide) (Nat.le_of_ble_eq_true rfl) (fun p e s m below meth c hx hb hr hml hown hts hlocks hK Q hQ ls hl hP hS => ?_)
  unfold X6_isBelow at hF
  have hl : lv_has ls 2 [(0, .int p0), (1, .int p1)] := hl
  have hown : s.vm.findClass RX6 = some m.cls := hown
  refine lv_iload_n hx hb (z_d hX6_isBelow_0 0 rfl) rfl (lv_at hl 0 rfl) ?_
  refine lv_if_lt (tgt := 13) hx hb (z_d hX6_isBelow_0 1 rfl) (by decide) (fun hc1 => ?_) (fun hc1 => ?_)
  · have hF := z_pos hc1 hF
    refine lv_iconst (v := 0) hx hb (z_d hX6_isBelow_0 7 rfl) (by decide) ?_
    have hz9 : narrow .boolean (.int 0) = .int 0 := rfl
    obtain rfl := hF
    subst hQ
    exact W.zret hx hb hr hz9 (fun t ht hW => zq_ro (hS.F ht)) hS.2.2 (z_d hX6_isBelow_0 8 rfl)
  · have hF := z_neg hc1 hF
    refine lv_iload_n hx hb (z_d hX6_isBelow_0 2 rfl) rfl (lv_at hl 0 rfl) ?_
    refine lv_iload_n hx hb (z_d hX6_isBelow_0 3 rfl) rfl (lv_at hl 1 rfl) ?_
    refine lv_icmp_ge (tgt := 13) hx hb (z_d hX6_isBelow_0 4 rfl) (by decide) (fun hc6 => ?_) (fun hc6 => ?_)
    · have hF := z_pos hc6 hF
      refine lv_iconst (v := 0) hx hb (z_d hX6_isBelow_0 7 rfl) (by decide) ?_
      have hz9 : narrow .boolean (.int 0) = .int 0 := rfl
      obtain rfl := hF
      subst hQ
      exact W.zret hx hb hr hz9 (fun t ht hW => zq_ro (hS.F ht)) hS.2.2 (z_d hX6_isBelow_0 8 rfl)
    · have hF := z_neg hc6 hF
      refine lv_iconst (v := 1) hx hb (z_d hX6_isBelow_0 5 rfl) (by decide) ?_
      refine lv_goto (tgt := 14) hx hb (z_d hX6_isBelow_0 6 rfl) (by decide) ?_
      have hz9 : narrow .boolean (.int 1) = .int 1 := rfl
      obtain rfl := hF
      subst hQ
      exact W.zret hx hb hr hz9 (fun t ht hW => zq_ro (hS.F ht)) hS.2.2 (z_d hX6_isBelow_0 8 rfl)
def rm_X6_isKind : Room := { frames := 0, cells := 0, slots := 0, locals := 0 }
set_option maxRecDepth 100000 in
set_option maxHeartbeats 4000000 in
theorem c_X6_isKind (l : Launch) (Z : zZ) (p0 : Int32) (R : Int32) (hF : X6_isKind p0 = R) : zRO l yX6_isKind (zw yX6_isKind cX6_isKind 1 (some .boolean)) rm_X6_isKind Z [.int p0] ([] : va_W) (some (.int R)) := by
  refine zRO_of (by decide) (Nat.le_of_ble_eq_true rfl) (fun p e s m below meth c hx hb hr hml hown hts hlocks hK Q hQ ls hl hP hS => ?_)
  unfold X6_isKind at hF
  have hl : lv_has ls 1 [(0, .int p0)] := hl
  have hown : s.vm.findClass RX6 = some m.cls := hown
  refine lv_iload_n hx hb (z_d hX6_isKind_0 0 rfl) rfl (lv_at hl 0 rfl) ?_
  refine lv_if_lt (tgt := 13) hx hb (z_d hX6_isKind_0 1 rfl) (by decide) (fun hc1 => ?_) (fun hc1 => ?_)
  · have hF := z_pos hc1 hF
    refine lv_iconst (v := 0) hx hb (z_d hX6_isKind_0 7 rfl) (by decide) ?_
    have hz9 : narrow .boolean (.int 0) = .int 0 := rfl
    obtain rfl := hF
    subst hQ
    exact W.zret hx hb hr hz9 (fun t ht hW => zq_ro (hS.F ht)) hS.2.2 (z_d hX6_isKind_0 8 rfl)
  · have hF := z_neg hc1 hF
    refine lv_iload_n hx hb (z_d hX6_isKind_0 2 rfl) rfl (lv_at hl 0 rfl) ?_
    refine lv_iconst (v := 4) hx hb (z_d hX6_isKind_0 3 rfl) (by decide) ?_
    refine lv_icmp_gt (tgt := 13) hx hb (z_d hX6_isKind_0 4 rfl) (by decide) (fun hc6 => ?_) (fun hc6 => ?_)
    · have hF := z_pos hc6 hF
      refine lv_iconst (v := 0) hx hb (z_d hX6_isKind_0 7 rfl) (by decide) ?_
      have hz9 : narrow .boolean (.int 0) = .int 0 := rfl
      obtain rfl := hF
      subst hQ
      exact W.zret hx hb hr hz9 (fun t ht hW => zq_ro (hS.F ht)) hS.2.2 (z_d hX6_isKind_0 8 rfl)
    · have hF := z_neg hc6 hF
      refine lv_iconst (v := 1) hx hb (z_d hX6_isKind_0 5 rfl) (by decide) ?_
      refine lv_goto (tgt := 14) hx hb (z_d hX6_isKind_0 6 rfl) (by decide) ?_
      have hz9 : narrow .boolean (.int 1) = .int 1 := rfl
      obtain rfl := hF
      subst hQ
      exact W.zret hx hb hr hz9 (fun t ht hW => zq_ro (hS.F ht)) hS.2.2 (z_d hX6_isKind_0 8 rfl)
def rm_X6_isLength : Room := { frames := 0, cells := 0, slots := 0, locals := 0 }
set_option maxRecDepth 100000 in
set_option maxHeartbeats 4000000 in
theorem c_X6_isLength (l : Launch) (Z : zZ) (p0 : Int32) (R : Int32) (hF : X6_isLength p0 = R) : zRO l yX6_isLength (zw yX6_isLength cX6_isLength 1 (some .boolean)) rm_X6_isLength Z [.int p0] ([] : va_W) (some (.int R)) := by
  refine zRO_of (by decide) (Nat.le_of_ble_eq_true rfl) (fun p e s m below meth c hx hb hr hml hown hts hlocks hK Q hQ ls hl hP hS => ?_)
  unfold X6_isLength at hF
  have hl : lv_has ls 1 [(0, .int p0)] := hl
  have hown : s.vm.findClass RX6 = some m.cls := hown
  refine lv_iload_n hx hb (z_d hX6_isLength_0 0 rfl) rfl (lv_at hl 0 rfl) ?_
  refine lv_iconst (v := 1) hx hb (z_d hX6_isLength_0 1 rfl) (by decide) ?_
  refine lv_icmp_lt (tgt := 16) hx hb (z_d hX6_isLength_0 2 rfl) (by decide) (fun hc2 => ?_) (fun hc2 => ?_)
  · have hF := z_pos hc2 hF
    refine lv_iconst (v := 0) hx hb (z_d hX6_isLength_0 8 rfl) (by decide) ?_
    have hz9 : narrow .boolean (.int 0) = .int 0 := rfl
    obtain rfl := hF
    subst hQ
    exact W.zret hx hb hr hz9 (fun t ht hW => zq_ro (hS.F ht)) hS.2.2 (z_d hX6_isLength_0 9 rfl)
  · have hF := z_neg hc2 hF
    refine lv_iload_n hx hb (z_d hX6_isLength_0 3 rfl) rfl (lv_at hl 0 rfl) ?_
    refine lv_sipush (v := 400) hx hb (z_d hX6_isLength_0 4 rfl) (by decide) ?_
    refine lv_icmp_gt (tgt := 16) hx hb (z_d hX6_isLength_0 5 rfl) (by decide) (fun hc9 => ?_) (fun hc9 => ?_)
    · have hF := z_pos hc9 hF
      refine lv_iconst (v := 0) hx hb (z_d hX6_isLength_0 8 rfl) (by decide) ?_
      have hz9 : narrow .boolean (.int 0) = .int 0 := rfl
      obtain rfl := hF
      subst hQ
      exact W.zret hx hb hr hz9 (fun t ht hW => zq_ro (hS.F ht)) hS.2.2 (z_d hX6_isLength_0 9 rfl)
    · have hF := z_neg hc9 hF
      refine lv_iconst (v := 1) hx hb (z_d hX6_isLength_0 6 rfl) (by decide) ?_
      refine lv_goto (tgt := 17) hx hb (z_d hX6_isLength_0 7 rfl) (by decide) ?_
      have hz9 : narrow .boolean (.int 1) = .int 1 := rfl
      obtain rfl := hF
      subst hQ
      exact W.zret hx hb hr hz9 (fun t ht hW => zq_ro (hS.F ht)) hS.2.2 (z_d hX6_isLength_0 9 rfl)
def rm_X6_isPersonOf : Room := { frames := 0, cells := 0, slots := 0, locals := 0 }
set_option maxRecDepth 100000 in
set_option maxHeartbeats 4000000 in
theorem c_X6_isPersonOf (l : Launch) (Z : zZ) (p0 : Int32) (p1 : Int32) (R : Int32) (hF : X6_isPersonOf p0 p1 = R) : zRO l yX6_isPersonOf (zw yX6_isPersonOf cX6_isPersonOf 2 (some .boolean)) rm_X6_isPersonOf Z [.int p0, .int p1] ([] : va_W) (some (.int R)) := by
  refine zRO_of (by decide) (Nat.le_of_ble_eq_true rfl) (fun p e s m below meth c hx hb hr hml hown hts hlocks hK Q hQ ls hl hP hS => ?_)
  unfold X6_isPersonOf at hF
  have hl : lv_has ls 2 [(0, .int p0), (1, .int p1)] := hl
  have hown : s.vm.findClass RX6 = some m.cls := hown
  refine lv_iload_n hx hb (z_d hX6_isPersonOf_0 0 rfl) rfl (lv_at hl 0 rfl) ?_
  refine lv_iconst (v := 2) hx hb (z_d hX6_isPersonOf_0 1 rfl) (by decide) ?_
  refine lv_icmp_ne (tgt := 23) hx hb (z_d hX6_isPersonOf_0 2 rfl) (by decide) (fun hc2 => ?_) (fun hc2 => ?_)
  · have hF := z_neg hc2 hF
    refine lv_iload_n hx hb (z_d hX6_isPersonOf_0 12 rfl) rfl (lv_at hl 1 rfl) ?_
    refine lv_iconst (v := (-1)) hx hb (z_d hX6_isPersonOf_0 13 rfl) (by decide) ?_
    refine lv_icmp_ne (tgt := 32) hx hb (z_d hX6_isPersonOf_0 14 rfl) (by decide) (fun hc25 => ?_) (fun hc25 => ?_)
    · have hF := z_neg hc25 hF
      refine lv_iconst (v := 0) hx hb (z_d hX6_isPersonOf_0 17 rfl) (by decide) ?_
      have hz9 : narrow .boolean (.int 0) = .int 0 := rfl
      obtain rfl := hF
      subst hQ
      exact W.zret hx hb hr hz9 (fun t ht hW => zq_ro (hS.F ht)) hS.2.2 (z_d hX6_isPersonOf_0 18 rfl)
    · have hF := z_pos hc25 hF
      refine lv_iconst (v := 1) hx hb (z_d hX6_isPersonOf_0 15 rfl) (by decide) ?_
      refine lv_goto (tgt := 33) hx hb (z_d hX6_isPersonOf_0 16 rfl) (by decide) ?_
      have hz9 : narrow .boolean (.int 1) = .int 1 := rfl
      obtain rfl := hF
      subst hQ
      exact W.zret hx hb hr hz9 (fun t ht hW => zq_ro (hS.F ht)) hS.2.2 (z_d hX6_isPersonOf_0 18 rfl)
  · have hF := z_pos hc2 hF
    refine lv_iload_n hx hb (z_d hX6_isPersonOf_0 3 rfl) rfl (lv_at hl 1 rfl) ?_
    refine lv_if_lt (tgt := 19) hx hb (z_d hX6_isPersonOf_0 4 rfl) (by decide) (fun hc6 => ?_) (fun hc6 => ?_)
    · have hF := z_pos hc6 hF
      refine lv_iconst (v := 0) hx hb (z_d hX6_isPersonOf_0 10 rfl) (by decide) ?_
      refine lv_goto (tgt := 33) hx hb (z_d hX6_isPersonOf_0 11 rfl) (by decide) ?_
      have hz9 : narrow .boolean (.int 0) = .int 0 := rfl
      obtain rfl := hF
      subst hQ
      exact W.zret hx hb hr hz9 (fun t ht hW => zq_ro (hS.F ht)) hS.2.2 (z_d hX6_isPersonOf_0 18 rfl)
    · have hF := z_neg hc6 hF
      refine lv_iload_n hx hb (z_d hX6_isPersonOf_0 5 rfl) rfl (lv_at hl 1 rfl) ?_
      refine lv_bipush (v := 9) hx hb (z_d hX6_isPersonOf_0 6 rfl) (by decide) ?_
      refine lv_icmp_gt (tgt := 19) hx hb (z_d hX6_isPersonOf_0 7 rfl) (by decide) (fun hc12 => ?_) (fun hc12 => ?_)
      · have hF := z_pos hc12 hF
        refine lv_iconst (v := 0) hx hb (z_d hX6_isPersonOf_0 10 rfl) (by decide) ?_
        refine lv_goto (tgt := 33) hx hb (z_d hX6_isPersonOf_0 11 rfl) (by decide) ?_
        have hz9 : narrow .boolean (.int 0) = .int 0 := rfl
        obtain rfl := hF
        subst hQ
        exact W.zret hx hb hr hz9 (fun t ht hW => zq_ro (hS.F ht)) hS.2.2 (z_d hX6_isPersonOf_0 18 rfl)
      · have hF := z_neg hc12 hF
        refine lv_iconst (v := 1) hx hb (z_d hX6_isPersonOf_0 8 rfl) (by decide) ?_
        refine lv_goto (tgt := 33) hx hb (z_d hX6_isPersonOf_0 9 rfl) (by decide) ?_
        have hz9 : narrow .boolean (.int 1) = .int 1 := rfl
        obtain rfl := hF
        subst hQ
        exact W.zret hx hb hr hz9 (fun t ht hW => zq_ro (hS.F ht)) hS.2.2 (z_d hX6_isPersonOf_0 18 rfl)
def rm_X6_isPageLines : Room := { frames := 0, cells := 0, slots := 0, locals := 0 }
set_option maxRecDepth 100000 in
set_option maxHeartbeats 4000000 in
theorem c_X6_isPageLines (l : Launch) (Z : zZ) (p0 : Int32) (R : Int32) (hF : X6_isPageLines p0 = R) : zRO l yX6_isPageLines (zw yX6_isPageLines cX6_isPageLines 1 (some .boolean)) rm_X6_isPageLines Z [.int p0] ([] : va_W) (some (.int R)) := by
  refine zRO_of (by decide) (Nat.le_of_ble_eq_true rfl) (fun p e s m below meth c hx hb hr hml hown hts hlocks hK Q hQ ls hl hP hS => ?_)
  unfold X6_isPageLines at hF
  have hl : lv_has ls 1 [(0, .int p0)] := hl
  have hown : s.vm.findClass RX6 = some m.cls := hown
  refine lv_iload_n hx hb (z_d hX6_isPageLines_0 0 rfl) rfl (lv_at hl 0 rfl) ?_
  refine lv_bipush (v := 20) hx hb (z_d hX6_isPageLines_0 1 rfl) (by decide) ?_
  refine lv_icmp_lt (tgt := 16) hx hb (z_d hX6_isPageLines_0 2 rfl) (by decide) (fun hc3 => ?_) (fun hc3 => ?_)
  · have hF := z_pos hc3 hF
    refine lv_iconst (v := 0) hx hb (z_d hX6_isPageLines_0 8 rfl) (by decide) ?_
    have hz9 : narrow .boolean (.int 0) = .int 0 := rfl
    obtain rfl := hF
    subst hQ
    exact W.zret hx hb hr hz9 (fun t ht hW => zq_ro (hS.F ht)) hS.2.2 (z_d hX6_isPageLines_0 9 rfl)
  · have hF := z_neg hc3 hF
    refine lv_iload_n hx hb (z_d hX6_isPageLines_0 3 rfl) rfl (lv_at hl 0 rfl) ?_
    refine lv_bipush (v := 60) hx hb (z_d hX6_isPageLines_0 4 rfl) (by decide) ?_
    refine lv_icmp_gt (tgt := 16) hx hb (z_d hX6_isPageLines_0 5 rfl) (by decide) (fun hc9 => ?_) (fun hc9 => ?_)
    · have hF := z_pos hc9 hF
      refine lv_iconst (v := 0) hx hb (z_d hX6_isPageLines_0 8 rfl) (by decide) ?_
      have hz9 : narrow .boolean (.int 0) = .int 0 := rfl
      obtain rfl := hF
      subst hQ
      exact W.zret hx hb hr hz9 (fun t ht hW => zq_ro (hS.F ht)) hS.2.2 (z_d hX6_isPageLines_0 9 rfl)
    · have hF := z_neg hc9 hF
      refine lv_iconst (v := 1) hx hb (z_d hX6_isPageLines_0 6 rfl) (by decide) ?_
      refine lv_goto (tgt := 17) hx hb (z_d hX6_isPageLines_0 7 rfl) (by decide) ?_
      have hz9 : narrow .boolean (.int 1) = .int 1 := rfl
      obtain rfl := hF
      subst hQ
      exact W.zret hx hb hr hz9 (fun t ht hW => zq_ro (hS.F ht)) hS.2.2 (z_d hX6_isPageLines_0 9 rfl)
def rm_X1_leastPart : Room := { frames := 0, cells := 0, slots := 0, locals := 0 }
set_option maxRecDepth 100000 in
set_option maxHeartbeats 4000000 in
theorem c_X1_leastPart (l : Launch) (Z : zZ) (p0 : Int32) (p1 : Int32) (R : Int32) (hF : X1_leastPart p0 p1 = R) : zRO l yX1_leastPart (zw yX1_leastPart cX1_leastPart 2 (some .int)) rm_X1_leastPart Z [.int p0, .int p1] ([] : va_W) (some (.int R)) := by
  refine zRO_of (by decide) (Nat.le_of_ble_eq_true rfl) (fun p e s m below meth c hx hb hr hml hown hts hlocks hK Q hQ ls hl hP hS => ?_)
  unfold X1_leastPart at hF
  have hl : lv_has ls 2 [(0, .int p0), (1, .int p1)] := hl
  have hown : s.vm.findClass RX1 = some m.cls := hown
  have J12 : ∀  (hF : j_X1_leastPart_12 p0 p1 = R) (H : Heap) (locs : List Loc) (ls : Array Slot) (hP : va_P Z.1 vwCl ([] : va_W) H) (hS : va_S (fun _ => False) s.heap H locs) (hl : lv_has ls 2 [(0, .int p0), (1, .int p1)]), W p l e rm_X1_leastPart s m ([.int p0, .int p1] : List Value).toArray below meth c H locs 0 0 Q (F0 m 12 ls []) := by
    intro  hF H locs ls hP hS hl
    unfold j_X1_leastPart_12 at hF
    refine lv_iload_n hx hb (z_d hX1_leastPart_0 8 rfl) rfl (lv_at hl 1 rfl) ?_
    refine lv_iconst (v := 4) hx hb (z_d hX1_leastPart_0 9 rfl) (by decide) ?_
    refine lv_icmp_lt (tgt := 26) hx hb (z_d hX1_leastPart_0 10 rfl) (by decide) (fun hc14 => ?_) (fun hc14 => ?_)
    · have hF := z_pos hc14 hF
      refine lv_iload_n hx hb (z_d hX1_leastPart_0 16 rfl) rfl (lv_at hl 1 rfl) ?_
      obtain rfl := hF
      subst hQ
      exact W.iret hx hb hr (fun t ht hW => zq_ro (hS.F ht)) hS.2.2 (z_d hX1_leastPart_0 17 rfl)
    · have hF := z_neg hc14 hF
      refine lv_iload_n hx hb (z_d hX1_leastPart_0 11 rfl) rfl (lv_at hl 0 rfl) ?_
      refine lv_iconst (v := 3) hx hb (z_d hX1_leastPart_0 12 rfl) (by decide) ?_
      refine lv_icmp_ne (tgt := 26) hx hb (z_d hX1_leastPart_0 13 rfl) (by decide) (fun hc19 => ?_) (fun hc19 => ?_)
      · have hF := z_neg hc19 hF
        refine lv_iload_n hx hb (z_d hX1_leastPart_0 16 rfl) rfl (lv_at hl 1 rfl) ?_
        obtain rfl := hF
        subst hQ
        exact W.iret hx hb hr (fun t ht hW => zq_ro (hS.F ht)) hS.2.2 (z_d hX1_leastPart_0 17 rfl)
      · have hF := z_pos hc19 hF
        refine lv_iconst (v := 3) hx hb (z_d hX1_leastPart_0 14 rfl) (by decide) ?_
        refine lv_goto (tgt := 27) hx hb (z_d hX1_leastPart_0 15 rfl) (by decide) ?_
        obtain rfl := hF
        subst hQ
        exact W.iret hx hb hr (fun t ht hW => zq_ro (hS.F ht)) hS.2.2 (z_d hX1_leastPart_0 17 rfl)
  refine lv_iload_n hx hb (z_d hX1_leastPart_0 0 rfl) rfl (lv_at hl 1 rfl) ?_
  refine lv_iconst (v := 4) hx hb (z_d hX1_leastPart_0 1 rfl) (by decide) ?_
  refine lv_icmp_lt (tgt := 12) hx hb (z_d hX1_leastPart_0 2 rfl) (by decide) (fun hc2 => ?_) (fun hc2 => ?_)
  · have hF := z_pos hc2 hF
    exact J12  hF _ _ ls hP hS (lv_sub hl [0, 1] rfl)
  · have hF := z_neg hc2 hF
    refine lv_iload_n hx hb (z_d hX1_leastPart_0 3 rfl) rfl (lv_at hl 0 rfl) ?_
    refine lv_iconst (v := 1) hx hb (z_d hX1_leastPart_0 4 rfl) (by decide) ?_
    refine lv_icmp_ne (tgt := 12) hx hb (z_d hX1_leastPart_0 5 rfl) (by decide) (fun hc7 => ?_) (fun hc7 => ?_)
    · have hF := z_neg hc7 hF
      exact J12  hF _ _ ls hP hS (lv_sub hl [0, 1] rfl)
    · have hF := z_pos hc7 hF
      refine lv_iconst (v := 2) hx hb (z_d hX1_leastPart_0 6 rfl) (by decide) ?_
      obtain rfl := hF
      subst hQ
      exact W.iret hx hb hr (fun t ht hW => zq_ro (hS.F ht)) hS.2.2 (z_d hX1_leastPart_0 7 rfl)
def rm_X1_firstPart : Room := { frames := 1, cells := 0, slots := 0, locals := 21 }
set_option maxRecDepth 100000 in
set_option maxHeartbeats 4000000 in
theorem c_X1_firstPart (l : Launch) (Z : zZ) (p0 : Int32) (p1 : Int32) (p2 : Int32) (R : Int32) (hF : X1_firstPart p0 p1 p2 = R) : zRO l yX1_firstPart (zw yX1_firstPart cX1_firstPart 3 (some .int)) rm_X1_firstPart Z [.int p0, .int p1, .int p2] ([] : va_W) (some (.int R)) := by
  refine zRO_of (by decide) (Nat.le_of_ble_eq_true rfl) (fun p e s m below meth c hx hb hr hml hown hts hlocks hK Q hQ ls hl hP hS => ?_)
  unfold X1_firstPart at hF
  have hl : lv_has ls 3 [(0, .int p0), (1, .int p1), (2, .int p2)] := hl
  have hown : s.vm.findClass RX1 = some m.cls := hown
  have J19 : ∀ (z0 : Int32) (hF : j_X1_firstPart_19 p0 p1 p2 z0 = R) (H : Heap) (locs : List Loc) (ls : Array Slot) (hP : va_P Z.1 vwCl ([] : va_W) H) (hS : va_S (fun _ => False) s.heap H locs) (hl : lv_has ls 3 [(0, .int p0), (1, .int p1), (2, .int p2)]), W p l e rm_X1_firstPart s m ([.int p0, .int p1, .int p2] : List Value).toArray below meth c H locs 0 0 Q (F0 m 19 ls [.int z0]) := by
    intro z0 hF H locs ls hP hS hl
    unfold j_X1_firstPart_19 at hF
    refine lv_iload_n hx hb (z_d hX1_firstPart_0 13 rfl) rfl (lv_at hl 1 rfl) ?_
    refine lv_iconst (v := 2) hx hb (z_d hX1_firstPart_0 14 rfl) (by decide) ?_
    refine lv_isub hx hb (z_d hX1_firstPart_0 15 rfl) ?_
    refine z_let hF (fun u1 hu1 hF => ?_)
    refine lv_topE hu1 ?_
    refine va_mmin hx hb (by rw [hml]; exact hl.1.symm) hown (hts _ k_min_X1) (hts _ k_min_s) (hts _ k_min_i) (hts _ k_min_c) (Nat.le_of_ble_eq_true rfl) (Nat.le_of_ble_eq_true rfl) (Nat.zero_le _) (Nat.zero_le _) (z_d hX1_firstPart_0 16 rfl) ?_
    refine z_let hF (fun u2 hu2 hF => ?_)
    refine lv_topE hu2 ?_
    obtain rfl := hF
    subst hQ
    exact W.iret hx hb hr (fun t ht hW => zq_ro (hS.F ht)) hS.2.2 (z_d hX1_firstPart_0 17 rfl)
  refine lv_iload_n hx hb (z_d hX1_firstPart_0 0 rfl) rfl (lv_at hl 1 rfl) ?_
  refine lv_iload_n hx hb (z_d hX1_firstPart_0 1 rfl) rfl (lv_at hl 2 rfl) ?_
  refine lv_icmp_gt (tgt := 7) hx hb (z_d hX1_firstPart_0 2 rfl) (by decide) (fun hc2 => ?_) (fun hc2 => ?_)
  · have hF := z_pos hc2 hF
    refine lv_iload_n hx hb (z_d hX1_firstPart_0 5 rfl) rfl (lv_at hl 0 rfl) ?_
    refine lv_iconst (v := 3) hx hb (z_d hX1_firstPart_0 6 rfl) (by decide) ?_
    refine lv_icmp_ne (tgt := 18) hx hb (z_d hX1_firstPart_0 7 rfl) (by decide) (fun hc9 => ?_) (fun hc9 => ?_)
    · have hF := z_neg hc9 hF
      refine lv_iload_n hx hb (z_d hX1_firstPart_0 12 rfl) rfl (lv_at hl 2 rfl) ?_
      exact J19 p2 hF _ _ ls hP hS (lv_sub hl [0, 1, 2] rfl)
    · have hF := z_pos hc9 hF
      refine lv_iload_n hx hb (z_d hX1_firstPart_0 8 rfl) rfl (lv_at hl 2 rfl) ?_
      refine lv_iconst (v := 1) hx hb (z_d hX1_firstPart_0 9 rfl) (by decide) ?_
      refine lv_isub hx hb (z_d hX1_firstPart_0 10 rfl) ?_
      refine z_let hF (fun u3 hu3 hF => ?_)
      refine lv_topE hu3 ?_
      refine lv_goto (tgt := 19) hx hb (z_d hX1_firstPart_0 11 rfl) (by decide) ?_
      exact J19 u3 hF _ _ ls hP hS (lv_sub hl [0, 1, 2] rfl)
  · have hF := z_neg hc2 hF
    refine lv_iload_n hx hb (z_d hX1_firstPart_0 3 rfl) rfl (lv_at hl 1 rfl) ?_
    obtain rfl := hF
    subst hQ
    exact W.iret hx hb hr (fun t ht hW => zq_ro (hS.F ht)) hS.2.2 (z_d hX1_firstPart_0 4 rfl)
def rm_X2_kindOf : Room := { frames := 0, cells := 0, slots := 0, locals := 0 }
set_option maxRecDepth 100000 in
set_option maxHeartbeats 4000000 in
theorem c_X2_kindOf (l : Launch) (Z : zZ) (p0 : Int32) (R : Int32) (hF : X2_kindOf p0 = R) : zRO l yX2_kindOf (zw yX2_kindOf cX2_kindOf 1 (some .int)) rm_X2_kindOf Z [.int p0] ([] : va_W) (some (.int R)) := by
  refine zRO_of (by decide) (Nat.le_of_ble_eq_true rfl) (fun p e s m below meth c hx hb hr hml hown hts hlocks hK Q hQ ls hl hP hS => ?_)
  unfold X2_kindOf at hF
  have hl : lv_has ls 1 [(0, .int p0)] := hl
  have hown : s.vm.findClass RX2 = some m.cls := hown
  refine lv_iload_n hx hb (z_d hX2_kindOf_0 0 rfl) rfl (lv_at hl 0 rfl) ?_
  by_cases hs1_97 : p0 = 97
  · have hF := z_pos hs1_97 hF
    refine lv_lookup (off := 53) (tgt := 54) hx hb (z_d hX2_kindOf_0 1 rfl) (by decide) (by rw [hs1_97]; first | done | rfl) (by decide) ?_
    refine lv_iconst (v := 1) hx hb (z_d hX2_kindOf_0 4 rfl) (by decide) ?_
    obtain rfl := hF
    subst hQ
    exact W.iret hx hb hr (fun t ht hW => zq_ro (hS.F ht)) hS.2.2 (z_d hX2_kindOf_0 5 rfl)
  have hF := z_neg hs1_97 hF
  by_cases hs1_104 : p0 = 104
  · have hF := z_pos hs1_104 hF
    refine lv_lookup (off := 51) (tgt := 52) hx hb (z_d hX2_kindOf_0 1 rfl) (by decide) (by rw [hs1_104]; first | done | rfl) (by decide) ?_
    refine lv_iconst (v := 0) hx hb (z_d hX2_kindOf_0 2 rfl) (by decide) ?_
    obtain rfl := hF
    subst hQ
    exact W.iret hx hb hr (fun t ht hW => zq_ro (hS.F ht)) hS.2.2 (z_d hX2_kindOf_0 3 rfl)
  have hF := z_neg hs1_104 hF
  by_cases hs1_110 : p0 = 110
  · have hF := z_pos hs1_110 hF
    refine lv_lookup (off := 55) (tgt := 56) hx hb (z_d hX2_kindOf_0 1 rfl) (by decide) (by rw [hs1_110]; first | done | rfl) (by decide) ?_
    refine lv_iconst (v := 2) hx hb (z_d hX2_kindOf_0 6 rfl) (by decide) ?_
    obtain rfl := hF
    subst hQ
    exact W.iret hx hb hr (fun t ht hW => zq_ro (hS.F ht)) hS.2.2 (z_d hX2_kindOf_0 7 rfl)
  have hF := z_neg hs1_110 hF
  by_cases hs1_114 : p0 = 114
  · have hF := z_pos hs1_114 hF
    refine lv_lookup (off := 59) (tgt := 60) hx hb (z_d hX2_kindOf_0 1 rfl) (by decide) (by rw [hs1_114]; first | done | rfl) (by decide) ?_
    refine lv_iconst (v := 4) hx hb (z_d hX2_kindOf_0 10 rfl) (by decide) ?_
    obtain rfl := hF
    subst hQ
    exact W.iret hx hb hr (fun t ht hW => zq_ro (hS.F ht)) hS.2.2 (z_d hX2_kindOf_0 11 rfl)
  have hF := z_neg hs1_114 hF
  by_cases hs1_115 : p0 = 115
  · have hF := z_pos hs1_115 hF
    refine lv_lookup (off := 57) (tgt := 58) hx hb (z_d hX2_kindOf_0 1 rfl) (by decide) (by rw [hs1_115]; first | done | rfl) (by decide) ?_
    refine lv_iconst (v := 3) hx hb (z_d hX2_kindOf_0 8 rfl) (by decide) ?_
    obtain rfl := hF
    subst hQ
    exact W.iret hx hb hr (fun t ht hW => zq_ro (hS.F ht)) hS.2.2 (z_d hX2_kindOf_0 9 rfl)
  have hF := z_neg hs1_115 hF
  refine lv_lookup (off := 61) (tgt := 62) hx hb (z_d hX2_kindOf_0 1 rfl) (by decide) ((lv_osw hs1_97 (by decide)).trans ((lv_osw hs1_104 (by decide)).trans ((lv_osw hs1_110 (by decide)).trans ((lv_osw hs1_114 (by decide)).trans ((lv_osw hs1_115 (by decide)).trans rfl))))) (by decide) ?_
  refine lv_iconst (v := (-1)) hx hb (z_d hX2_kindOf_0 12 rfl) (by decide) ?_
  obtain rfl := hF
  subst hQ
  exact W.iret hx hb hr (fun t ht hW => zq_ro (hS.F ht)) hS.2.2 (z_d hX2_kindOf_0 13 rfl)
def rm_X2_isDigit : Room := { frames := 0, cells := 0, slots := 0, locals := 0 }
set_option maxRecDepth 100000 in
set_option maxHeartbeats 4000000 in
theorem c_X2_isDigit (l : Launch) (Z : zZ) (p0 : Int32) (R : Int32) (hF : X2_isDigit p0 = R) : zRO l yX2_isDigit (zw yX2_isDigit cX2_isDigit 1 (some .boolean)) rm_X2_isDigit Z [.int p0] ([] : va_W) (some (.int R)) := by
  refine zRO_of (by decide) (Nat.le_of_ble_eq_true rfl) (fun p e s m below meth c hx hb hr hml hown hts hlocks hK Q hQ ls hl hP hS => ?_)
  unfold X2_isDigit at hF
  have hl : lv_has ls 1 [(0, .int p0)] := hl
  have hown : s.vm.findClass RX2 = some m.cls := hown
  refine lv_iload_n hx hb (z_d hX2_isDigit_0 0 rfl) rfl (lv_at hl 0 rfl) ?_
  refine lv_bipush (v := 48) hx hb (z_d hX2_isDigit_0 1 rfl) (by decide) ?_
  refine lv_icmp_lt (tgt := 16) hx hb (z_d hX2_isDigit_0 2 rfl) (by decide) (fun hc3 => ?_) (fun hc3 => ?_)
  · have hF := z_pos hc3 hF
    refine lv_iconst (v := 0) hx hb (z_d hX2_isDigit_0 8 rfl) (by decide) ?_
    have hz9 : narrow .boolean (.int 0) = .int 0 := rfl
    obtain rfl := hF
    subst hQ
    exact W.zret hx hb hr hz9 (fun t ht hW => zq_ro (hS.F ht)) hS.2.2 (z_d hX2_isDigit_0 9 rfl)
  · have hF := z_neg hc3 hF
    refine lv_iload_n hx hb (z_d hX2_isDigit_0 3 rfl) rfl (lv_at hl 0 rfl) ?_
    refine lv_bipush (v := 57) hx hb (z_d hX2_isDigit_0 4 rfl) (by decide) ?_
    refine lv_icmp_gt (tgt := 16) hx hb (z_d hX2_isDigit_0 5 rfl) (by decide) (fun hc9 => ?_) (fun hc9 => ?_)
    · have hF := z_pos hc9 hF
      refine lv_iconst (v := 0) hx hb (z_d hX2_isDigit_0 8 rfl) (by decide) ?_
      have hz9 : narrow .boolean (.int 0) = .int 0 := rfl
      obtain rfl := hF
      subst hQ
      exact W.zret hx hb hr hz9 (fun t ht hW => zq_ro (hS.F ht)) hS.2.2 (z_d hX2_isDigit_0 9 rfl)
    · have hF := z_neg hc9 hF
      refine lv_iconst (v := 1) hx hb (z_d hX2_isDigit_0 6 rfl) (by decide) ?_
      refine lv_goto (tgt := 17) hx hb (z_d hX2_isDigit_0 7 rfl) (by decide) ?_
      have hz9 : narrow .boolean (.int 1) = .int 1 := rfl
      obtain rfl := hF
      subst hQ
      exact W.zret hx hb hr hz9 (fun t ht hW => zq_ro (hS.F ht)) hS.2.2 (z_d hX2_isDigit_0 9 rfl)
def rm_X7_in : Room := { frames := 0, cells := 0, slots := 0, locals := 0 }
set_option maxRecDepth 100000 in
set_option maxHeartbeats 4000000 in
theorem c_X7_in (l : Launch) (Z : zZ) (p0 : Int32) (p1 : Int32) (p2 : Int32) (R : Int32) (hF : X7_in p0 p1 p2 = R) : zRO l yX7_in (zw yX7_in cX7_in 3 (some .boolean)) rm_X7_in Z [.int p0, .int p1, .int p2] ([] : va_W) (some (.int R)) := by
  refine zRO_of (by decide) (Nat.le_of_ble_eq_true rfl) (fun p e s m below meth c hx hb hr hml hown hts hlocks hK Q hQ ls hl hP hS => ?_)
  unfold X7_in at hF
  have hl : lv_has ls 3 [(0, .int p0), (1, .int p1), (2, .int p2)] := hl
  have hown : s.vm.findClass RX7 = some m.cls := hown
  refine lv_iload_n hx hb (z_d hX7_in_0 0 rfl) rfl (lv_at hl 0 rfl) ?_
  refine lv_iload_n hx hb (z_d hX7_in_0 1 rfl) rfl (lv_at hl 1 rfl) ?_
  refine lv_icmp_lt (tgt := 14) hx hb (z_d hX7_in_0 2 rfl) (by decide) (fun hc2 => ?_) (fun hc2 => ?_)
  · have hF := z_pos hc2 hF
    refine lv_iconst (v := 0) hx hb (z_d hX7_in_0 8 rfl) (by decide) ?_
    have hz9 : narrow .boolean (.int 0) = .int 0 := rfl
    obtain rfl := hF
    subst hQ
    exact W.zret hx hb hr hz9 (fun t ht hW => zq_ro (hS.F ht)) hS.2.2 (z_d hX7_in_0 9 rfl)
  · have hF := z_neg hc2 hF
    refine lv_iload_n hx hb (z_d hX7_in_0 3 rfl) rfl (lv_at hl 0 rfl) ?_
    refine lv_iload_n hx hb (z_d hX7_in_0 4 rfl) rfl (lv_at hl 2 rfl) ?_
    refine lv_icmp_gt (tgt := 14) hx hb (z_d hX7_in_0 5 rfl) (by decide) (fun hc7 => ?_) (fun hc7 => ?_)
    · have hF := z_pos hc7 hF
      refine lv_iconst (v := 0) hx hb (z_d hX7_in_0 8 rfl) (by decide) ?_
      have hz9 : narrow .boolean (.int 0) = .int 0 := rfl
      obtain rfl := hF
      subst hQ
      exact W.zret hx hb hr hz9 (fun t ht hW => zq_ro (hS.F ht)) hS.2.2 (z_d hX7_in_0 9 rfl)
    · have hF := z_neg hc7 hF
      refine lv_iconst (v := 1) hx hb (z_d hX7_in_0 6 rfl) (by decide) ?_
      refine lv_goto (tgt := 15) hx hb (z_d hX7_in_0 7 rfl) (by decide) ?_
      have hz9 : narrow .boolean (.int 1) = .int 1 := rfl
      obtain rfl := hF
      subst hQ
      exact W.zret hx hb hr hz9 (fun t ht hW => zq_ro (hS.F ht)) hS.2.2 (z_d hX7_in_0 9 rfl)
def rm_X7_wide : Room := { frames := 0, cells := 0, slots := 0, locals := 0 }
set_option maxRecDepth 100000 in
set_option maxHeartbeats 4000000 in
theorem c_X7_wide (l : Launch) (Z : zZ) (p0 : Int32) (R : Int32) (hF : X7_wide p0 = R) : zRO l yX7_wide (zw yX7_wide cX7_wide 1 (some .int)) rm_X7_wide Z [.int p0] ([] : va_W) (some (.int R)) := by
  refine zRO_of (by decide) (Nat.le_of_ble_eq_true rfl) (fun p e s m below meth c hx hb hr hml hown hts hlocks hK Q hQ ls hl hP hS => ?_)
  unfold X7_wide at hF
  have hl : lv_has ls 1 [(0, .int p0)] := hl
  have hown : s.vm.findClass RX7 = some m.cls := hown
  refine lv_iload_n hx hb (z_d hX7_wide_0 0 rfl) rfl (lv_at hl 0 rfl) ?_
  refine lv_iconst (v := 3) hx hb (z_d hX7_wide_0 1 rfl) (by decide) ?_
  refine lv_icmp_ne (tgt := 10) hx hb (z_d hX7_wide_0 2 rfl) (by decide) (fun hc2 => ?_) (fun hc2 => ?_)
  · have hF := z_neg hc2 hF
    refine lv_iload_n hx hb (z_d hX7_wide_0 5 rfl) rfl (lv_at hl 0 rfl) ?_
    refine lv_iconst (v := 4) hx hb (z_d hX7_wide_0 6 rfl) (by decide) ?_
    refine lv_icmp_ne (tgt := 20) hx hb (z_d hX7_wide_0 7 rfl) (by decide) (fun hc12 => ?_) (fun hc12 => ?_)
    · have hF := z_neg hc12 hF
      refine lv_bipush (v := 60) hx hb (z_d hX7_wide_0 10 rfl) (by decide) ?_
      obtain rfl := hF
      subst hQ
      exact W.iret hx hb hr (fun t ht hW => zq_ro (hS.F ht)) hS.2.2 (z_d hX7_wide_0 11 rfl)
    · have hF := z_pos hc12 hF
      refine lv_bipush (v := 25) hx hb (z_d hX7_wide_0 8 rfl) (by decide) ?_
      refine lv_goto (tgt := 22) hx hb (z_d hX7_wide_0 9 rfl) (by decide) ?_
      obtain rfl := hF
      subst hQ
      exact W.iret hx hb hr (fun t ht hW => zq_ro (hS.F ht)) hS.2.2 (z_d hX7_wide_0 11 rfl)
  · have hF := z_pos hc2 hF
    refine lv_bipush (v := 35) hx hb (z_d hX7_wide_0 3 rfl) (by decide) ?_
    refine lv_goto (tgt := 22) hx hb (z_d hX7_wide_0 4 rfl) (by decide) ?_
    obtain rfl := hF
    subst hQ
    exact W.iret hx hb hr (fun t ht hW => zq_ro (hS.F ht)) hS.2.2 (z_d hX7_wide_0 11 rfl)
def rm_X7_kindOf : Room := { frames := 0, cells := 0, slots := 0, locals := 0 }
set_option maxRecDepth 100000 in
set_option maxHeartbeats 4000000 in
theorem c_X7_kindOf (l : Launch) (Z : zZ) (p0 : Int32) (R : Int32) (hF : X7_kindOf p0 = R) : zRO l yX7_kindOf (zw yX7_kindOf cX7_kindOf 1 (some .int)) rm_X7_kindOf Z [.int p0] ([] : va_W) (some (.int R)) := by
  refine zRO_of (by decide) (Nat.le_of_ble_eq_true rfl) (fun p e s m below meth c hx hb hr hml hown hts hlocks hK Q hQ ls hl hP hS => ?_)
  unfold X7_kindOf at hF
  have hl : lv_has ls 1 [(0, .int p0)] := hl
  have hown : s.vm.findClass RX7 = some m.cls := hown
  refine lv_iload_n hx hb (z_d hX7_kindOf_0 0 rfl) rfl (lv_at hl 0 rfl) ?_
  by_cases hs1_97 : p0 = 97
  · have hF := z_pos hs1_97 hF
    refine lv_lookup (off := 53) (tgt := 54) hx hb (z_d hX7_kindOf_0 1 rfl) (by decide) (by rw [hs1_97]; first | done | rfl) (by decide) ?_
    refine lv_iconst (v := 1) hx hb (z_d hX7_kindOf_0 4 rfl) (by decide) ?_
    obtain rfl := hF
    subst hQ
    exact W.iret hx hb hr (fun t ht hW => zq_ro (hS.F ht)) hS.2.2 (z_d hX7_kindOf_0 5 rfl)
  have hF := z_neg hs1_97 hF
  by_cases hs1_104 : p0 = 104
  · have hF := z_pos hs1_104 hF
    refine lv_lookup (off := 51) (tgt := 52) hx hb (z_d hX7_kindOf_0 1 rfl) (by decide) (by rw [hs1_104]; first | done | rfl) (by decide) ?_
    refine lv_iconst (v := 0) hx hb (z_d hX7_kindOf_0 2 rfl) (by decide) ?_
    obtain rfl := hF
    subst hQ
    exact W.iret hx hb hr (fun t ht hW => zq_ro (hS.F ht)) hS.2.2 (z_d hX7_kindOf_0 3 rfl)
  have hF := z_neg hs1_104 hF
  by_cases hs1_110 : p0 = 110
  · have hF := z_pos hs1_110 hF
    refine lv_lookup (off := 55) (tgt := 56) hx hb (z_d hX7_kindOf_0 1 rfl) (by decide) (by rw [hs1_110]; first | done | rfl) (by decide) ?_
    refine lv_iconst (v := 2) hx hb (z_d hX7_kindOf_0 6 rfl) (by decide) ?_
    obtain rfl := hF
    subst hQ
    exact W.iret hx hb hr (fun t ht hW => zq_ro (hS.F ht)) hS.2.2 (z_d hX7_kindOf_0 7 rfl)
  have hF := z_neg hs1_110 hF
  by_cases hs1_114 : p0 = 114
  · have hF := z_pos hs1_114 hF
    refine lv_lookup (off := 59) (tgt := 60) hx hb (z_d hX7_kindOf_0 1 rfl) (by decide) (by rw [hs1_114]; first | done | rfl) (by decide) ?_
    refine lv_iconst (v := 4) hx hb (z_d hX7_kindOf_0 10 rfl) (by decide) ?_
    obtain rfl := hF
    subst hQ
    exact W.iret hx hb hr (fun t ht hW => zq_ro (hS.F ht)) hS.2.2 (z_d hX7_kindOf_0 11 rfl)
  have hF := z_neg hs1_114 hF
  by_cases hs1_115 : p0 = 115
  · have hF := z_pos hs1_115 hF
    refine lv_lookup (off := 57) (tgt := 58) hx hb (z_d hX7_kindOf_0 1 rfl) (by decide) (by rw [hs1_115]; first | done | rfl) (by decide) ?_
    refine lv_iconst (v := 3) hx hb (z_d hX7_kindOf_0 8 rfl) (by decide) ?_
    obtain rfl := hF
    subst hQ
    exact W.iret hx hb hr (fun t ht hW => zq_ro (hS.F ht)) hS.2.2 (z_d hX7_kindOf_0 9 rfl)
  have hF := z_neg hs1_115 hF
  refine lv_lookup (off := 61) (tgt := 62) hx hb (z_d hX7_kindOf_0 1 rfl) (by decide) ((lv_osw hs1_97 (by decide)).trans ((lv_osw hs1_104 (by decide)).trans ((lv_osw hs1_110 (by decide)).trans ((lv_osw hs1_114 (by decide)).trans ((lv_osw hs1_115 (by decide)).trans rfl))))) (by decide) ?_
  refine lv_iconst (v := (-1)) hx hb (z_d hX7_kindOf_0 12 rfl) (by decide) ?_
  obtain rfl := hF
  subst hQ
  exact W.iret hx hb hr (fun t ht hW => zq_ro (hS.F ht)) hS.2.2 (z_d hX7_kindOf_0 13 rfl)
def rm_X7_isLength : Room := { frames := 1, cells := 0, slots := 0, locals := 22 }
set_option maxRecDepth 100000 in
set_option maxHeartbeats 4000000 in
theorem c_X7_isLength (l : Launch) (Z : zZ) (p0 : Int32) (R : Int32) (hF : X7_isLength p0 = R) : zRO l yX7_isLength (zw yX7_isLength cX7_isLength 1 (some .boolean)) rm_X7_isLength Z [.int p0] ([] : va_W) (some (.int R)) := by
  refine zRO_of (by decide) (Nat.le_of_ble_eq_true rfl) (fun p e s m below meth c hx hb hr hml hown hts hlocks hK Q hQ ls hl hP hS => ?_)
  unfold X7_isLength at hF
  have hl : lv_has ls 1 [(0, .int p0)] := hl
  have hown : s.vm.findClass RX7 = some m.cls := hown
  refine lv_iload_n hx hb (z_d hX7_isLength_0 0 rfl) rfl (lv_at hl 0 rfl) ?_
  refine lv_iconst (v := 1) hx hb (z_d hX7_isLength_0 1 rfl) (by decide) ?_
  refine lv_sipush (v := 400) hx hb (z_d hX7_isLength_0 2 rfl) (by decide) ?_
  refine z_let hF (fun q1 hq1 hF => ?_)
  refine z_ro_i (z_rS (As := [.int p0, .int 1, .int 400]) (rest := []) hx hb hml hown hts vs_X7_in (c_X7_in l Z p0 1 400 _ hq1) rfl rfl ⟨Nat.le_of_ble_eq_true rfl, Nat.le_of_ble_eq_true rfl⟩ k_m_X7_58 zPro_blind (z_prec hK zP_nil) rfl hl.1 (Nat.le_of_ble_eq_true rfl) (z_d hX7_isLength_0 3 rfl) ⟨Nat.zero_le _, Nat.zero_le _⟩) hS hP (fun H locs hP hS => ?_)
  have hz9 := z_bool (hq1 ▸ X7_in_b p0 1 400)
  obtain rfl := hF
  subst hQ
  exact W.zret hx hb hr hz9 (fun t ht hW => zq_ro (hS.F ht)) hS.2.2 (z_d hX7_isLength_0 4 rfl)
def rm_X7_isPage : Room := { frames := 1, cells := 0, slots := 0, locals := 22 }
set_option maxRecDepth 100000 in
set_option maxHeartbeats 4000000 in
theorem c_X7_isPage (l : Launch) (Z : zZ) (p0 : Int32) (R : Int32) (hF : X7_isPage p0 = R) : zRO l yX7_isPage (zw yX7_isPage cX7_isPage 1 (some .boolean)) rm_X7_isPage Z [.int p0] ([] : va_W) (some (.int R)) := by
  refine zRO_of (by decide) (Nat.le_of_ble_eq_true rfl) (fun p e s m below meth c hx hb hr hml hown hts hlocks hK Q hQ ls hl hP hS => ?_)
  unfold X7_isPage at hF
  have hl : lv_has ls 1 [(0, .int p0)] := hl
  have hown : s.vm.findClass RX7 = some m.cls := hown
  refine lv_iload_n hx hb (z_d hX7_isPage_0 0 rfl) rfl (lv_at hl 0 rfl) ?_
  refine lv_bipush (v := 20) hx hb (z_d hX7_isPage_0 1 rfl) (by decide) ?_
  refine lv_bipush (v := 60) hx hb (z_d hX7_isPage_0 2 rfl) (by decide) ?_
  refine z_let hF (fun q1 hq1 hF => ?_)
  refine z_ro_i (z_rS (As := [.int p0, .int 20, .int 60]) (rest := []) hx hb hml hown hts vs_X7_in (c_X7_in l Z p0 20 60 _ hq1) rfl rfl ⟨Nat.le_of_ble_eq_true rfl, Nat.le_of_ble_eq_true rfl⟩ k_m_X7_58 zPro_blind (z_prec hK zP_nil) rfl hl.1 (Nat.le_of_ble_eq_true rfl) (z_d hX7_isPage_0 3 rfl) ⟨Nat.zero_le _, Nat.zero_le _⟩) hS hP (fun H locs hP hS => ?_)
  have hz9 := z_bool (hq1 ▸ X7_in_b p0 20 60)
  obtain rfl := hF
  subst hQ
  exact W.zret hx hb hr hz9 (fun t ht hW => zq_ro (hS.F ht)) hS.2.2 (z_d hX7_isPage_0 4 rfl)

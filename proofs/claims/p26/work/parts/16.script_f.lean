def X5_has (S : t_Script) (p1 : Int32) : Int32 := zlet (X6_isBelow p1 S.1) fun q1 => q1
theorem X5_has_b (S : t_Script) (p1 : Int32) : X5_has S p1 = 0 ∨ X5_has S p1 = 1 := by
  unfold X5_has
  repeat' (first | exact z_01a | exact z_01b | refine z_01i ?_ ?_ | refine z_01l (fun _ => ?_) | exact X6_isBelow_b _ _)
def X5_isFull (S : t_Script) : Int32 := if S.1 < 60 then (0) else (1)
theorem X5_isFull_b (S : t_Script) : X5_isFull S = 0 ∨ X5_isFull S = 1 := by
  unfold X5_isFull
  repeat' (first | exact z_01a | exact z_01b | refine z_01i ?_ ?_ | refine z_01l (fun _ => ?_))
def X5_isHeading (S : t_Script) (p1 : Int32) : Int32 := zlet (rAt 60 S.2.2.1 p1) fun q1 => if q1 = 0 then (1) else (0)
theorem X5_isHeading_b (S : t_Script) (p1 : Int32) : X5_isHeading S p1 = 0 ∨ X5_isHeading S p1 = 1 := by
  unfold X5_isHeading
  repeat' (first | exact z_01a | exact z_01b | refine z_01i ?_ ?_ | refine z_01l (fun _ => ?_))
def X5_isLocked (S : t_Script) (p1 : Int32) : Int32 := zlet (rAt 60 S.2.2.2.2.2.2.1 p1) fun q1 => if q1 < 1 then (0) else (1)
theorem X5_isLocked_b (S : t_Script) (p1 : Int32) : X5_isLocked S p1 = 0 ∨ X5_isLocked S p1 = 1 := by
  unfold X5_isLocked
  repeat' (first | exact z_01a | exact z_01b | refine z_01i ?_ ?_ | refine z_01l (fun _ => ?_))
def X5_isOmitted (S : t_Script) (p1 : Int32) : Int32 := zlet (rAt 60 S.2.2.2.2.2.2.1 p1) fun q1 => if q1 = 2 then (1) else (0)
theorem X5_isOmitted_b (S : t_Script) (p1 : Int32) : X5_isOmitted S p1 = 0 ∨ X5_isOmitted S p1 = 1 := by
  unfold X5_isOmitted
  repeat' (first | exact z_01a | exact z_01b | refine z_01i ?_ ?_ | refine z_01l (fun _ => ?_))
def X5_linesOf (S : t_Script) (p1 : Int32) : Int32 := zlet (rAt 60 S.2.2.1 p1) fun q1 => if q1 = 2 then (1) else (zlet (X5_isOmitted S p1) fun q2 => if q2 = 0 then (zlet (rAt 60 S.2.2.2.1 p1) fun q3 => if q1 = 3 then (zlet (q3 + 34) fun u4 => zlet (u4 / 35) fun u5 => u5) else (if q1 = 4 then (zlet (q3 + 24) fun u6 => zlet (u6 / 25) fun u7 => u7) else (zlet (q3 + 59) fun u8 => zlet (u8 / 60) fun u9 => u9))) else (1))
def X5_blanksAhead (S : t_Script) (p1 : Int32) : Int32 := zlet (rAt 60 S.2.2.1 p1) fun q1 => if q1 = 0 then (2) else (if q1 = 1 then (1) else (if q1 = 2 then (1) else (0)))
def X5_putIn (S : t_Script) (p1 : Int32) (p2 : Int32) (p3 : Int32) (p4 : Int32) : t_Script := zlet (X5_isFull S) fun q1 => if q1 = 0 then (zlet (rOpen 60 S.2.2.1 p1 p2) fun q2 => zlet (rOpen 60 S.2.2.2.1 p1 p3) fun q3 => zlet (rOpen 60 S.2.2.2.2.1 p1 p4) fun q4 => zlet (rOpen 60 S.2.2.2.2.2.1 p1 (-1)) fun q5 => zlet (rOpen 60 S.2.2.2.2.2.2.1 p1 0) fun q6 => zlet (rOpen 60 S.2.2.2.2.2.2.2.1 p1 0) fun q7 => zlet (rOpen 60 S.2.2.2.2.2.2.2.2.1 p1 0) fun q8 => zlet (rOpen 60 S.2.2.2.2.2.2.2.2.2 p1 0) fun q9 => zlet (S.1 + 1) fun u10 => (u10, S.2.1, q2, q3, q4, q5, q6, q7, q8, q9)) else (S)
def X5_takeOut (S : t_Script) (p1 : Int32) : Option t_Script := zlet (X5_has S p1) fun q1 => if q1 = 0 then (some S) else (zlet (rAt 60 S.2.2.2.2.2.1 p1) fun q2 => (X3_closeAt 60 S.2.2.1 p1).bind fun q3 => (X3_closeAt 60 S.2.2.2.1 p1).bind fun q4 => (X3_closeAt 60 S.2.2.2.2.1 p1).bind fun q5 => (X3_closeAt 60 S.2.2.2.2.2.1 p1).bind fun q6 => (X3_closeAt 60 S.2.2.2.2.2.2.1 p1).bind fun q7 => (X3_closeAt 60 S.2.2.2.2.2.2.2.1 p1).bind fun q8 => (X3_closeAt 60 S.2.2.2.2.2.2.2.2.1 p1).bind fun q9 => (X3_closeAt 60 S.2.2.2.2.2.2.2.2.2 p1).bind fun q10 => zlet (S.1 - 1) fun u11 => zlet (X5_has (u11, S.2.1, q3, q4, q5, q6, q7, q8, q9, q10) p1) fun q12 => if q12 = 0 then (some (u11, S.2.1, q3, q4, q5, q6, q7, q8, q9, q10)) else (zlet (rAt 60 q6 p1) fun q13 => if q13 = (-1) then (zlet (rPut 60 q6 p1 q2) fun q14 => some (u11, S.2.1, q3, q4, q5, q14, q7, q8, q9, q10)) else (some (u11, S.2.1, q3, q4, q5, q6, q7, q8, q9, q10))))
def X5_lock (S : t_Script) (p1 : Int32) (p2 : Int32) (p3 : Int32) (p4 : Int32) : t_Script := zlet (rPut 60 S.2.2.2.2.2.2.1 p1 1) fun q1 => zlet (rPut 60 S.2.2.2.2.2.2.2.1 p1 p2) fun q2 => zlet (rPut 60 S.2.2.2.2.2.2.2.2.1 p1 p3) fun q3 => zlet (rPut 60 S.2.2.2.2.2.2.2.2.2 p1 p4) fun q4 => (S.1, S.2.1, S.2.2.1, S.2.2.2.1, S.2.2.2.2.1, S.2.2.2.2.2.1, q1, q2, q3, q4)
def X5_markOmitted (S : t_Script) (p1 : Int32) : t_Script := zlet (rPut 60 S.2.2.2.2.2.2.1 p1 2) fun q1 => (S.1, S.2.1, S.2.2.1, S.2.2.2.1, S.2.2.2.2.1, S.2.2.2.2.2.1, q1, S.2.2.2.2.2.2.2.1, S.2.2.2.2.2.2.2.2.1, S.2.2.2.2.2.2.2.2.2)
def X5_copyFrom (S : t_Script) (S2 : t_Script) : t_Script := zlet (rCopy 60 60 S.2.2.1 S2.2.2.1) fun q1 => zlet (rCopy 60 60 S.2.2.2.1 S2.2.2.2.1) fun q2 => zlet (rCopy 60 60 S.2.2.2.2.1 S2.2.2.2.2.1) fun q3 => zlet (rCopy 60 60 S.2.2.2.2.2.1 S2.2.2.2.2.2.1) fun q4 => zlet (rCopy 60 60 S.2.2.2.2.2.2.1 S2.2.2.2.2.2.2.1) fun q5 => zlet (rCopy 60 60 S.2.2.2.2.2.2.2.1 S2.2.2.2.2.2.2.2.1) fun q6 => zlet (rCopy 60 60 S.2.2.2.2.2.2.2.2.1 S2.2.2.2.2.2.2.2.2.1) fun q7 => zlet (rCopy 60 60 S.2.2.2.2.2.2.2.2.2 S2.2.2.2.2.2.2.2.2.2) fun q8 => (S2.1, S2.2.1, q1, q2, q3, q4, q5, q6, q7, q8)

def X6_isBelow (p0 : Int32) (p1 : Int32) : Int32 := if p0 < 0 then (0) else (if p1 ≤ p0 then (0) else (1))
theorem X6_isBelow_b (p0 : Int32) (p1 : Int32) : X6_isBelow p0 p1 = 0 ∨ X6_isBelow p0 p1 = 1 := by
  unfold X6_isBelow
  repeat' (first | exact z_01a | exact z_01b | refine z_01i ?_ ?_ | refine z_01l (fun _ => ?_))
def X6_isKind (p0 : Int32) : Int32 := if p0 < 0 then (0) else (if 4 < p0 then (0) else (1))
theorem X6_isKind_b (p0 : Int32) : X6_isKind p0 = 0 ∨ X6_isKind p0 = 1 := by
  unfold X6_isKind
  repeat' (first | exact z_01a | exact z_01b | refine z_01i ?_ ?_ | refine z_01l (fun _ => ?_))
def X6_isLength (p0 : Int32) : Int32 := if p0 < 1 then (0) else (if 400 < p0 then (0) else (1))
theorem X6_isLength_b (p0 : Int32) : X6_isLength p0 = 0 ∨ X6_isLength p0 = 1 := by
  unfold X6_isLength
  repeat' (first | exact z_01a | exact z_01b | refine z_01i ?_ ?_ | refine z_01l (fun _ => ?_))
def X6_isPersonOf (p0 : Int32) (p1 : Int32) : Int32 := if p0 = 2 then (if p1 < 0 then (0) else (if 9 < p1 then (0) else (1))) else (if p1 = (-1) then (1) else (0))
theorem X6_isPersonOf_b (p0 : Int32) (p1 : Int32) : X6_isPersonOf p0 p1 = 0 ∨ X6_isPersonOf p0 p1 = 1 := by
  unfold X6_isPersonOf
  repeat' (first | exact z_01a | exact z_01b | refine z_01i ?_ ?_ | refine z_01l (fun _ => ?_))
def X6_isPageLines (p0 : Int32) : Int32 := if p0 < 20 then (0) else (if 60 < p0 then (0) else (1))
theorem X6_isPageLines_b (p0 : Int32) : X6_isPageLines p0 = 0 ∨ X6_isPageLines p0 = 1 := by
  unfold X6_isPageLines
  repeat' (first | exact z_01a | exact z_01b | refine z_01i ?_ ?_ | refine z_01l (fun _ => ?_))
def j_X1_leastPart_12 (p0 : Int32) (p1 : Int32)   : Int32 := if p1 < 4 then (p1) else (if p0 = 3 then (3) else (p1))
def X1_leastPart (p0 : Int32) (p1 : Int32) : Int32 := if p1 < 4 then (j_X1_leastPart_12 p0 p1) else (if p0 = 1 then (2) else (j_X1_leastPart_12 p0 p1))
def j_X1_firstPart_19 (p0 : Int32) (p1 : Int32) (p2 : Int32)  (z0 : Int32) : Int32 := zlet (p1 - 2) fun u1 => zlet (if u1 < z0 then u1 else z0) fun u2 => u2
def X1_firstPart (p0 : Int32) (p1 : Int32) (p2 : Int32) : Int32 := if p2 < p1 then (if p0 = 3 then (zlet (p2 - 1) fun u3 => j_X1_firstPart_19 p0 p1 p2 u3) else (j_X1_firstPart_19 p0 p1 p2 p2)) else (p1)

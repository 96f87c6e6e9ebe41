-- printed names (NAMES.whole), then one list of words for all methods, decode tables
def RX0 : String := "ScriptPages$History"
def TX0 : u_T := fun k => match k with
  | 0 => ("ScriptPages$History", "states", "[LScriptPages$Script;", true)
  | _ => ("ScriptPages$History", "count", "I", false)
def tyX0 : Nat → FieldType := fun k => match k with
  | 0 => .array (.object "ScriptPages$Script")
  | _ => .int
abbrev wsX00 : List Cond := u_ws RX0 TX0 2
theorem nmX0 : ∀ a, a < 2 → ∀ b, b < 2 → a ≠ b → (TX0 a).2.1 ≠ (TX0 b).2.1 := by decide +kernel
theorem tyX0_ok : ∀ k, k < 2 → parseFieldDescriptor (TX0 k).2.2.1 = some (tyX0 k) := by decide +kernel
abbrev cX0_init : ByteArray := prog_2_method_1_code
def yX0_init : MethodName := ⟨RX0, "<init>", "()V"⟩
abbrev cX0_store : ByteArray := prog_2_method_2_code
def yX0_store : MethodName := ⟨RX0, "store", "(LScriptPages$Script;)V"⟩
abbrev cX0_dropOldest : ByteArray := prog_2_method_3_code
def yX0_dropOldest : MethodName := ⟨RX0, "dropOldest", "()V"⟩
abbrev cX0_stateAt : ByteArray := prog_2_method_5_code
def yX0_stateAt : MethodName := ⟨RX0, "stateAt", "(I)LScriptPages$Script;"⟩
def RX1 : String := "ScriptPages$Pages"
def TX1 : u_T := fun k => match k with
  | 0 => ("ScriptPages$Pages", "count", "I", false)
  | 1 => ("ScriptPages$Pages", "markCount", "I", false)
  | 2 => ("ScriptPages$Pages", "splitCount", "I", false)
  | 3 => ("ScriptPages$Pages", "limit", "I", false)
  | 4 => ("ScriptPages$Pages", "filled", "I", false)
  | 5 => ("ScriptPages$Pages", "needs", "LScriptPages$Row;", true)
  | 6 => ("ScriptPages$Pages", "places", "LScriptPages$Row;", true)
  | 7 => ("ScriptPages$Pages", "tops", "LScriptPages$Row;", true)
  | 8 => ("ScriptPages$Pages", "parts", "LScriptPages$Row;", true)
  | 9 => ("ScriptPages$Pages", "numbers", "LScriptPages$Row;", true)
  | 10 => ("ScriptPages$Pages", "extras", "LScriptPages$Row;", true)
  | 11 => ("ScriptPages$Pages", "fills", "LScriptPages$Row;", true)
  | 12 => ("ScriptPages$Pages", "firsts", "LScriptPages$Row;", true)
  | _ => ("ScriptPages$Pages", "begins", "LScriptPages$Row;", true)
def tyX1 : Nat → FieldType := fun k => match k with
  | 0 => .int
  | 1 => .int
  | 2 => .int
  | 3 => .int
  | 4 => .int
  | 5 => .object "ScriptPages$Row"
  | 6 => .object "ScriptPages$Row"
  | 7 => .object "ScriptPages$Row"
  | 8 => .object "ScriptPages$Row"
  | 9 => .object "ScriptPages$Row"
  | 10 => .object "ScriptPages$Row"
  | 11 => .object "ScriptPages$Row"
  | 12 => .object "ScriptPages$Row"
  | _ => .object "ScriptPages$Row"
abbrev wsX10 : List Cond := u_ws RX1 TX1 14
theorem nmX1 : ∀ a, a < 14 → ∀ b, b < 14 → a ≠ b → (TX1 a).2.1 ≠ (TX1 b).2.1 := by decide +kernel
theorem tyX1_ok : ∀ k, k < 14 → parseFieldDescriptor (TX1 k).2.2.1 = some (tyX1 k) := by decide +kernel
abbrev cX1_init : ByteArray := prog_3_method_1_code
def yX1_init : MethodName := ⟨RX1, "<init>", "()V"⟩
abbrev cX1_arrange : ByteArray := prog_3_method_2_code
def yX1_arrange : MethodName := ⟨RX1, "arrange", "(LScriptPages$Script;)I"⟩
abbrev cX1_findNeeds : ByteArray := prog_3_method_3_code
def yX1_findNeeds : MethodName := ⟨RX1, "findNeeds", "(LScriptPages$Script;)V"⟩
abbrev cX1_leastPart : ByteArray := prog_3_method_4_code
def yX1_leastPart : MethodName := ⟨RX1, "leastPart", "(II)I"⟩
abbrev cX1_holdsNext : ByteArray := prog_3_method_5_code
def yX1_holdsNext : MethodName := ⟨RX1, "holdsNext", "(LScriptPages$Script;I)Z"⟩
abbrev cX1_mustTurn : ByteArray := prog_3_method_6_code
def yX1_mustTurn : MethodName := ⟨RX1, "mustTurn", "(LScriptPages$Script;I)Z"⟩
abbrev cX1_turnPage : ByteArray := prog_3_method_7_code
def yX1_turnPage : MethodName := ⟨RX1, "turnPage", "()V"⟩
abbrev cX1_fill : ByteArray := prog_3_method_8_code
def yX1_fill : MethodName := ⟨RX1, "fill", "(I)V"⟩
abbrev cX1_setElement : ByteArray := prog_3_method_9_code
def yX1_setElement : MethodName := ⟨RX1, "setElement", "(LScriptPages$Script;I)V"⟩
abbrev cX1_firstPart : ByteArray := prog_3_method_10_code
def yX1_firstPart : MethodName := ⟨RX1, "firstPart", "(III)I"⟩
abbrev cX1_noteBegin : ByteArray := prog_3_method_11_code
def yX1_noteBegin : MethodName := ⟨RX1, "noteBegin", "(II)V"⟩
abbrev cX1_carryOver : ByteArray := prog_3_method_12_code
def yX1_carryOver : MethodName := ⟨RX1, "carryOver", "(II)V"⟩
abbrev cX1_countMarks : ByteArray := prog_3_method_13_code
def yX1_countMarks : MethodName := ⟨RX1, "countMarks", "(LScriptPages$Script;)V"⟩
abbrev cX1_label : ByteArray := prog_3_method_14_code
def yX1_label : MethodName := ⟨RX1, "label", "(LScriptPages$Script;)V"⟩
def RX2 : String := "ScriptPages$Reader"
def TX2 : u_T := fun k => match k with
  | _ => ("", "", "", false)
def tyX2 : Nat → FieldType := fun k => match k with
  | _ => .int
abbrev wsX20 : List Cond := u_ws RX2 TX2 0
theorem nmX2 : ∀ a, a < 0 → ∀ b, b < 0 → a ≠ b → (TX2 a).2.1 ≠ (TX2 b).2.1 := by decide +kernel
theorem tyX2_ok : ∀ k, k < 0 → parseFieldDescriptor (TX2 k).2.2.1 = some (tyX2 k) := by decide +kernel
def RX3 : String := "ScriptPages$Row"
def TX3 : u_T := fun k => match k with
  | _ => ("ScriptPages$Row", "cells", "[I", true)
def tyX3 : Nat → FieldType := fun k => match k with
  | _ => .array .int
abbrev wsX30 : List Cond := u_ws RX3 TX3 1
theorem nmX3 : ∀ a, a < 1 → ∀ b, b < 1 → a ≠ b → (TX3 a).2.1 ≠ (TX3 b).2.1 := by decide +kernel
theorem tyX3_ok : ∀ k, k < 1 → parseFieldDescriptor (TX3 k).2.2.1 = some (tyX3 k) := by decide +kernel
abbrev cX3_init : ByteArray := prog_5_method_1_code
def yX3_init : MethodName := ⟨RX3, "<init>", "(I)V"⟩
abbrev cX3_at : ByteArray := prog_5_method_2_code
def yX3_at : MethodName := ⟨RX3, "at", "(I)I"⟩
abbrev cX3_put : ByteArray := prog_5_method_3_code
def yX3_put : MethodName := ⟨RX3, "put", "(II)V"⟩
abbrev cX3_plus : ByteArray := prog_5_method_4_code
def yX3_plus : MethodName := ⟨RX3, "plus", "(II)V"⟩
abbrev cX3_openAt : ByteArray := prog_5_method_5_code
def yX3_openAt : MethodName := ⟨RX3, "openAt", "(II)V"⟩
abbrev cX3_closeAt : ByteArray := prog_5_method_6_code
def yX3_closeAt : MethodName := ⟨RX3, "closeAt", "(I)V"⟩
abbrev cX3_copyFrom : ByteArray := prog_5_method_7_code
def yX3_copyFrom : MethodName := ⟨RX3, "copyFrom", "(LScriptPages$Row;)V"⟩
def RX4 : String := "ScriptPages$Scenes"
def TX4 : u_T := fun k => match k with
  | 0 => ("ScriptPages$Scenes", "count", "I", false)
  | 1 => ("ScriptPages$Scenes", "lockedCount", "I", false)
  | 2 => ("ScriptPages$Scenes", "carriedCount", "I", false)
  | 3 => ("ScriptPages$Scenes", "headings", "LScriptPages$Row;", true)
  | 4 => ("ScriptPages$Scenes", "sizes", "LScriptPages$Row;", true)
  | 5 => ("ScriptPages$Scenes", "sums", "LScriptPages$Row;", true)
  | 6 => ("ScriptPages$Scenes", "firsts", "LScriptPages$Row;", true)
  | 7 => ("ScriptPages$Scenes", "seconds", "LScriptPages$Row;", true)
  | 8 => ("ScriptPages$Scenes", "thirds", "LScriptPages$Row;", true)
  | 9 => ("ScriptPages$Scenes", "limits", "LScriptPages$Row;", true)
  | 10 => ("ScriptPages$Scenes", "homes", "LScriptPages$Row;", true)
  | _ => ("ScriptPages$Scenes", "carries", "LScriptPages$Row;", true)
def tyX4 : Nat → FieldType := fun k => match k with
  | 0 => .int
  | 1 => .int
  | 2 => .int
  | 3 => .object "ScriptPages$Row"
  | 4 => .object "ScriptPages$Row"
  | 5 => .object "ScriptPages$Row"
  | 6 => .object "ScriptPages$Row"
  | 7 => .object "ScriptPages$Row"
  | 8 => .object "ScriptPages$Row"
  | 9 => .object "ScriptPages$Row"
  | 10 => .object "ScriptPages$Row"
  | _ => .object "ScriptPages$Row"
abbrev wsX40 : List Cond := u_ws RX4 TX4 12
theorem nmX4 : ∀ a, a < 12 → ∀ b, b < 12 → a ≠ b → (TX4 a).2.1 ≠ (TX4 b).2.1 := by decide +kernel
theorem tyX4_ok : ∀ k, k < 12 → parseFieldDescriptor (TX4 k).2.2.1 = some (tyX4 k) := by decide +kernel
abbrev cX4_init : ByteArray := prog_6_method_1_code
def yX4_init : MethodName := ⟨RX4, "<init>", "()V"⟩
abbrev cX4_has : ByteArray := prog_6_method_2_code
def yX4_has : MethodName := ⟨RX4, "has", "(I)Z"⟩
abbrev cX4_survey : ByteArray := prog_6_method_3_code
def yX4_survey : MethodName := ⟨RX4, "survey", "(LScriptPages$Script;)V"⟩
abbrev cX4_gather : ByteArray := prog_6_method_4_code
def yX4_gather : MethodName := ⟨RX4, "gather", "(LScriptPages$Script;)V"⟩
abbrev cX4_findCarriedNames : ByteArray := prog_6_method_5_code
def yX4_findCarriedNames : MethodName := ⟨RX4, "findCarriedNames", "(LScriptPages$Script;)V"⟩
abbrev cX4_findLimits : ByteArray := prog_6_method_6_code
def yX4_findLimits : MethodName := ⟨RX4, "findLimits", "(LScriptPages$Script;)V"⟩
abbrev cX4_label : ByteArray := prog_6_method_7_code
def yX4_label : MethodName := ⟨RX4, "label", "(LScriptPages$Script;)V"⟩
abbrev cX4_labelOpen : ByteArray := prog_6_method_8_code
def yX4_labelOpen : MethodName := ⟨RX4, "labelOpen", "(IIIII)V"⟩
abbrev cX4_putLabel : ByteArray := prog_6_method_9_code
def yX4_putLabel : MethodName := ⟨RX4, "putLabel", "(IIII)V"⟩
abbrev cX4_hasTwins : ByteArray := prog_6_method_10_code
def yX4_hasTwins : MethodName := ⟨RX4, "hasTwins", "()Z"⟩
abbrev cX4_areTwins : ByteArray := prog_6_method_11_code
def yX4_areTwins : MethodName := ⟨RX4, "areTwins", "(II)Z"⟩
def RX5 : String := "ScriptPages$Script"
def TX5 : u_T := fun k => match k with
  | 0 => ("ScriptPages$Script", "size", "I", false)
  | 1 => ("ScriptPages$Script", "pageLines", "I", false)
  | 2 => ("ScriptPages$Script", "kinds", "LScriptPages$Row;", true)
  | 3 => ("ScriptPages$Script", "lengths", "LScriptPages$Row;", true)
  | 4 => ("ScriptPages$Script", "persons", "LScriptPages$Row;", true)
  | 5 => ("ScriptPages$Script", "marks", "LScriptPages$Row;", true)
  | 6 => ("ScriptPages$Script", "locks", "LScriptPages$Row;", true)
  | 7 => ("ScriptPages$Script", "firsts", "LScriptPages$Row;", true)
  | 8 => ("ScriptPages$Script", "seconds", "LScriptPages$Row;", true)
  | _ => ("ScriptPages$Script", "thirds", "LScriptPages$Row;", true)
def tyX5 : Nat → FieldType := fun k => match k with
  | 0 => .int
  | 1 => .int
  | 2 => .object "ScriptPages$Row"
  | 3 => .object "ScriptPages$Row"
  | 4 => .object "ScriptPages$Row"
  | 5 => .object "ScriptPages$Row"
  | 6 => .object "ScriptPages$Row"
  | 7 => .object "ScriptPages$Row"
  | 8 => .object "ScriptPages$Row"
  | _ => .object "ScriptPages$Row"
abbrev wsX50 : List Cond := u_ws RX5 TX5 10
theorem nmX5 : ∀ a, a < 10 → ∀ b, b < 10 → a ≠ b → (TX5 a).2.1 ≠ (TX5 b).2.1 := by decide +kernel
theorem tyX5_ok : ∀ k, k < 10 → parseFieldDescriptor (TX5 k).2.2.1 = some (tyX5 k) := by decide +kernel
abbrev cX5_init : ByteArray := prog_7_method_1_code
def yX5_init : MethodName := ⟨RX5, "<init>", "()V"⟩
abbrev cX5_has : ByteArray := prog_7_method_2_code
def yX5_has : MethodName := ⟨RX5, "has", "(I)Z"⟩
abbrev cX5_isFull : ByteArray := prog_7_method_3_code
def yX5_isFull : MethodName := ⟨RX5, "isFull", "()Z"⟩
abbrev cX5_isHeading : ByteArray := prog_7_method_4_code
def yX5_isHeading : MethodName := ⟨RX5, "isHeading", "(I)Z"⟩
abbrev cX5_isLocked : ByteArray := prog_7_method_5_code
def yX5_isLocked : MethodName := ⟨RX5, "isLocked", "(I)Z"⟩
abbrev cX5_isOmitted : ByteArray := prog_7_method_6_code
def yX5_isOmitted : MethodName := ⟨RX5, "isOmitted", "(I)Z"⟩
abbrev cX5_linesOf : ByteArray := prog_7_method_7_code
def yX5_linesOf : MethodName := ⟨RX5, "linesOf", "(I)I"⟩
abbrev cX5_blanksAhead : ByteArray := prog_7_method_8_code
def yX5_blanksAhead : MethodName := ⟨RX5, "blanksAhead", "(I)I"⟩
abbrev cX5_putIn : ByteArray := prog_7_method_10_code
def yX5_putIn : MethodName := ⟨RX5, "putIn", "(IIII)V"⟩
abbrev cX5_takeOut : ByteArray := prog_7_method_11_code
def yX5_takeOut : MethodName := ⟨RX5, "takeOut", "(I)V"⟩
abbrev cX5_lock : ByteArray := prog_7_method_12_code
def yX5_lock : MethodName := ⟨RX5, "lock", "(IIII)V"⟩
abbrev cX5_markOmitted : ByteArray := prog_7_method_13_code
def yX5_markOmitted : MethodName := ⟨RX5, "markOmitted", "(I)V"⟩
abbrev cX5_copyFrom : ByteArray := prog_7_method_14_code
def yX5_copyFrom : MethodName := ⟨RX5, "copyFrom", "(LScriptPages$Script;)V"⟩
def RX6 : String := "ScriptPages"
def TX6 : u_T := fun k => match k with
  | 0 => ("ScriptPages", "script", "LScriptPages$Script;", true)
  | 1 => ("ScriptPages", "draft", "LScriptPages$Script;", true)
  | 2 => ("ScriptPages", "scenes", "LScriptPages$Scenes;", true)
  | 3 => ("ScriptPages", "draftScenes", "LScriptPages$Scenes;", true)
  | 4 => ("ScriptPages", "pages", "LScriptPages$Pages;", true)
  | 5 => ("ScriptPages", "draftPages", "LScriptPages$Pages;", true)
  | 6 => ("ScriptPages", "history", "LScriptPages$History;", true)
  | 7 => ("ScriptPages", "text", "LScriptPages$Row;", true)
  | _ => ("ScriptPages", "textLength", "I", false)
def tyX6 : Nat → FieldType := fun k => match k with
  | 0 => .object "ScriptPages$Script"
  | 1 => .object "ScriptPages$Script"
  | 2 => .object "ScriptPages$Scenes"
  | 3 => .object "ScriptPages$Scenes"
  | 4 => .object "ScriptPages$Pages"
  | 5 => .object "ScriptPages$Pages"
  | 6 => .object "ScriptPages$History"
  | 7 => .object "ScriptPages$Row"
  | _ => .int
abbrev wsX60 : List Cond := u_ws RX6 TX6 9
theorem nmX6 : ∀ a, a < 9 → ∀ b, b < 9 → a ≠ b → (TX6 a).2.1 ≠ (TX6 b).2.1 := by decide +kernel
theorem tyX6_ok : ∀ k, k < 9 → parseFieldDescriptor (TX6 k).2.2.1 = some (tyX6 k) := by decide +kernel
abbrev cX6_init : ByteArray := prog_1_method_1_code
def yX6_init : MethodName := ⟨RX6, "<init>", "()V"⟩
abbrev cX6_insert : ByteArray := prog_1_method_2_code
def yX6_insert : MethodName := ⟨RX6, "insert", "(IIII)I"⟩
abbrev cX6_remove : ByteArray := prog_1_method_3_code
def yX6_remove : MethodName := ⟨RX6, "remove", "(I)I"⟩
abbrev cX6_setLength : ByteArray := prog_1_method_4_code
def yX6_setLength : MethodName := ⟨RX6, "setLength", "(II)I"⟩
abbrev cX6_setPage : ByteArray := prog_1_method_5_code
def yX6_setPage : MethodName := ⟨RX6, "setPage", "(I)I"⟩
abbrev cX6_lockScenes : ByteArray := prog_1_method_6_code
def yX6_lockScenes : MethodName := ⟨RX6, "lockScenes", "()I"⟩
abbrev cX6_omit : ByteArray := prog_1_method_7_code
def yX6_omit : MethodName := ⟨RX6, "omit", "(I)I"⟩
abbrev cX6_lockPages : ByteArray := prog_1_method_8_code
def yX6_lockPages : MethodName := ⟨RX6, "lockPages", "()I"⟩
abbrev cX6_value : ByteArray := prog_1_method_9_code
def yX6_value : MethodName := ⟨RX6, "value", "(I)I"⟩
abbrev cX6_element : ByteArray := prog_1_method_10_code
def yX6_element : MethodName := ⟨RX6, "element", "(II)I"⟩
abbrev cX6_scene : ByteArray := prog_1_method_11_code
def yX6_scene : MethodName := ⟨RX6, "scene", "(II)I"⟩
abbrev cX6_find : ByteArray := prog_1_method_13_code
def yX6_find : MethodName := ⟨RX6, "find", "(III)I"⟩
abbrev cX6_names : ByteArray := prog_1_method_14_code
def yX6_names : MethodName := ⟨RX6, "names", "(IZ)I"⟩
abbrev cX6_keepDraft : ByteArray := prog_1_method_25_code
def yX6_keepDraft : MethodName := ⟨RX6, "keepDraft", "()V"⟩
abbrev cX6_repeatsLabel : ByteArray := prog_1_method_26_code
def yX6_repeatsLabel : MethodName := ⟨RX6, "repeatsLabel", "()Z"⟩
abbrev cX6_valueOf : ByteArray := prog_1_method_27_code
def yX6_valueOf : MethodName := ⟨RX6, "valueOf", "(I)I"⟩
abbrev cX6_elementFact : ByteArray := prog_1_method_28_code
def yX6_elementFact : MethodName := ⟨RX6, "elementFact", "(II)I"⟩
abbrev cX6_sceneFact : ByteArray := prog_1_method_29_code
def yX6_sceneFact : MethodName := ⟨RX6, "sceneFact", "(II)I"⟩
abbrev cX6_eighths : ByteArray := prog_1_method_31_code
def yX6_eighths : MethodName := ⟨RX6, "eighths", "(I)I"⟩
abbrev cX6_isBelow : ByteArray := prog_1_method_32_code
def yX6_isBelow : MethodName := ⟨RX6, "isBelow", "(II)Z"⟩
abbrev cX6_isKind : ByteArray := prog_1_method_33_code
def yX6_isKind : MethodName := ⟨RX6, "isKind", "(I)Z"⟩
abbrev cX6_isLength : ByteArray := prog_1_method_34_code
def yX6_isLength : MethodName := ⟨RX6, "isLength", "(I)Z"⟩
abbrev cX6_isPersonOf : ByteArray := prog_1_method_35_code
def yX6_isPersonOf : MethodName := ⟨RX6, "isPersonOf", "(II)Z"⟩
abbrev cX6_isPageLines : ByteArray := prog_1_method_36_code
def yX6_isPageLines : MethodName := ⟨RX6, "isPageLines", "(I)Z"⟩
def RX7 : String := "ScriptPagesModel"
def TX7 : u_T := fun k => match k with
  | _ => ("", "", "", false)
def tyX7 : Nat → FieldType := fun k => match k with
  | _ => .int
abbrev wsX70 : List Cond := u_ws RX7 TX7 0
theorem nmX7 : ∀ a, a < 0 → ∀ b, b < 0 → a ≠ b → (TX7 a).2.1 ≠ (TX7 b).2.1 := by decide +kernel
theorem tyX7_ok : ∀ k, k < 0 → parseFieldDescriptor (TX7 k).2.2.1 = some (tyX7 k) := by decide +kernel
def RJ9 : String := "java/lang/Math"
def TJ9 : u_T := fun k => match k with
  | _ => ("", "", "", false)
def tyJ9 : Nat → FieldType := fun k => match k with
  | _ => .int
abbrev wsJ90 : List Cond := u_ws RJ9 TJ9 0
theorem nmJ9 : ∀ a, a < 0 → ∀ b, b < 0 → a ≠ b → (TJ9 a).2.1 ≠ (TJ9 b).2.1 := by decide +kernel
theorem tyJ9_ok : ∀ k, k < 0 → parseFieldDescriptor (TJ9 k).2.2.1 = some (tyJ9 k) := by decide +kernel
abbrev cJ9_min_7cf53 : ByteArray := prog_14_method_69_code
def yJ9_min_7cf53 : MethodName := ⟨RJ9, "min", "(II)I"⟩
def RJ0 : String := "java/lang/String"
def TJ0 : u_T := fun k => match k with
  | _ => ("", "", "", false)
def tyJ0 : Nat → FieldType := fun k => match k with
  | _ => .int
abbrev wsJ00 : List Cond := u_ws RJ0 TJ0 0
theorem nmJ0 : ∀ a, a < 0 → ∀ b, b < 0 → a ≠ b → (TJ0 a).2.1 ≠ (TJ0 b).2.1 := by decide +kernel
theorem tyJ0_ok : ∀ k, k < 0 → parseFieldDescriptor (TJ0 k).2.2.1 = some (tyJ0 k) := by decide +kernel
def RL : String := "ScriptPagesLaw"
abbrev cL_cell : ByteArray := method_2_code
def yL_cell : MethodName := ⟨RL, "cell", "([II)I"⟩
abbrev cL_low : ByteArray := method_3_code
def yL_low : MethodName := ⟨RL, "low", "(II)I"⟩
abbrev cL_heads : ByteArray := method_4_code
def yL_heads : MethodName := ⟨RL, "heads", "([II)Z"⟩
abbrev cL_lines : ByteArray := method_5_code
def yL_lines : MethodName := ⟨RL, "lines", "([I[II)I"⟩
abbrev cL_scenes : ByteArray := method_6_code
def yL_scenes : MethodName := ⟨RL, "scenes", "([I[I)I"⟩
abbrev cL_labels : ByteArray := method_7_code
def yL_labels : MethodName := ⟨RL, "labels", "([I[I[I[I)V"⟩
abbrev cL_hasTwo : ByteArray := method_8_code
def yL_hasTwo : MethodName := ⟨RL, "hasTwo", "([I[I[I)Z"⟩
abbrev cL_opens : ByteArray := method_9_code
def yL_opens : MethodName := ⟨RL, "opens", "([IIII)V"⟩
abbrev cL_closes : ByteArray := method_10_code
def yL_closes : MethodName := ⟨RL, "closes", "([III)V"⟩
abbrev cL_drop : ByteArray := method_11_code
def yL_drop : MethodName := ⟨RL, "drop", "([I[I[I[I[I[II)V"⟩
abbrev cL_blanks : ByteArray := method_12_code
def yL_blanks : MethodName := ⟨RL, "blanks", "([II)I"⟩
abbrev cL_splits : ByteArray := method_13_code
def yL_splits : MethodName := ⟨RL, "splits", "([I[II)Z"⟩
abbrev cL_needs : ByteArray := method_14_code
def yL_needs : MethodName := ⟨RL, "needs", "([I[I[I[I[I)V"⟩
abbrev cL_sets : ByteArray := method_15_code
def yL_sets : MethodName := ⟨RL, "sets", "([I[I[I[II[I[I)I"⟩
abbrev cL_acts : ByteArray := method_16_code
def yL_acts : MethodName := ⟨RL, "acts", "(LScriptPages;[I[I[I[I[I[II)Z"⟩
abbrev cL_omitted : ByteArray := method_17_code
def yL_omitted : MethodName := ⟨RL, "omitted", "(LScriptPages;[I[I[I[I[I[II)Z"⟩
abbrev cL_inserts : ByteArray := method_18_code
def yL_inserts : MethodName := ⟨RL, "inserts", "(LScriptPages;IIII)I"⟩
abbrev cL_drops : ByteArray := method_19_code
def yL_drops : MethodName := ⟨RL, "drops", "(LScriptPages;I)I"⟩
abbrev cL_lengths : ByteArray := method_20_code
def yL_lengths : MethodName := ⟨RL, "lengths", "(LScriptPages;II)I"⟩
abbrev cL_sizes : ByteArray := method_21_code
def yL_sizes : MethodName := ⟨RL, "sizes", "(LScriptPages;I)I"⟩
abbrev cL_omits : ByteArray := method_22_code
def yL_omits : MethodName := ⟨RL, "omits", "(LScriptPages;I)I"⟩
abbrev cL_valueOf : ByteArray := method_23_code
def yL_valueOf : MethodName := ⟨RL, "valueOf", "(LScriptPages;I)I"⟩
abbrev cL_elementOf : ByteArray := method_24_code
def yL_elementOf : MethodName := ⟨RL, "elementOf", "(LScriptPages;II)I"⟩
abbrev cL_sceneOf : ByteArray := method_25_code
def yL_sceneOf : MethodName := ⟨RL, "sceneOf", "(LScriptPages;II)I"⟩
abbrev cL_namesBy : ByteArray := method_26_code
def yL_namesBy : MethodName := ⟨RL, "namesBy", "(LScriptPages;IZ)I"⟩
abbrev cL_isSo : ByteArray := method_27_code
def yL_isSo : MethodName := ⟨RL, "isSo", "(LScriptPages;[I[I[I[I[I[I)Z"⟩
abbrev cL_law : ByteArray := code
def yL_law : MethodName := ⟨RL, "law", "([I)Z"⟩
abbrev vwCl : List vw_C := [(RX0, TX0, 2), (RX1, TX1, 14), (RX3, TX3, 1), (RX3, TX3, 1), (RX4, TX4, 12), (RX5, TX5, 10), (RX6, TX6, 9)]
def zG : List Cond := lw_tbl.filter goodWord
theorem zG_in : ∀ w ∈ zG, w ∈ lw_tbl := fun w h => (List.mem_filter.mp h).1
theorem zG_ok : GoodIn zG zG := fun w h => ⟨h, good_of_word (List.mem_filter.mp h).2⟩
theorem zG_cons {a b : Cond} (h : a ∈ zG) : GoodIn (b :: zG) (a :: zG) := by
  intro w hw
  rcases List.mem_cons.mp hw with e | e
  · subst e; exact ⟨List.mem_cons_of_mem _ h, (zG_ok _ h).2⟩
  · exact ⟨List.mem_cons_of_mem _ e, (zG_ok _ e).2⟩
theorem zG_at {a : Cond} (i : Nat) (h : lw_tbl[i]? = some a) (g : goodWord a = true) : a ∈ zG := List.mem_filter.mpr ⟨List.mem_of_getElem? h, g⟩
theorem zin_of {C : String} {T : u_T} {N : Nat} (ps : List Nat) (h : (List.range N).all (fun k => decide (lw_tbl[ps.getD k 0]? = some (u_lay C T k)) && goodWord (u_lay C T k)) = true) : ∀ w ∈ u_ws C T N, w ∈ zG := by
  intro w hw
  obtain ⟨k, hk, rfl⟩ := List.mem_map.mp hw
  have h1 := List.all_eq_true.mp h k hk
  simp only [Bool.and_eq_true, decide_eq_true_eq] at h1
  exact zG_at _ h1.1 h1.2
theorem zinX0 : ∀ w ∈ wsX00, w ∈ zG := zin_of [235, 237] (by decide +kernel)
theorem zinX1 : ∀ w ∈ wsX10, w ∈ zG := zin_of [195, 197, 199, 201, 203, 205, 207, 209, 211, 213, 215, 217, 219, 221] (by decide +kernel)
theorem zinX3 : ∀ w ∈ wsX30, w ∈ zG := zin_of [60] (by decide +kernel)
theorem zinX4 : ∀ w ∈ wsX40, w ∈ zG := zin_of [141, 143, 145, 147, 149, 151, 153, 155, 157, 159, 161, 163] (by decide +kernel)
theorem zinX5 : ∀ w ∈ wsX50, w ∈ zG := zin_of [89, 91, 93, 95, 97, 99, 101, 103, 105, 107] (by decide +kernel)
theorem zinX6 : ∀ w ∈ wsX60, w ∈ zG := zin_of [251, 253, 255, 257, 259, 261, 263, 265, 267] (by decide +kernel)

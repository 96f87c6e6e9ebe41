section
-- ===== PART A: goes FIRST, ahead of the names: the tables' words, and 'selects' of the private methods out of them =====
/-- a private method of a class that the tables say can be made, by its rows of tables_1 -/
def lw_okq (q : MethodName × Nat) : Prop := (q.1.cls ≠ "java/lang/invoke/MethodHandle" ∧ q.1.cls ≠ "java/lang/invoke/VarHandle") ∧ Cond.instantiable q.1.cls q.2 ∈ tables_1 ∧ Cond.privateMethod q.1 ∈ tables_1 ∧ Cond.instanceMethod q.1 ∈ tables_1
theorem lw_p0 : lw_okq (⟨"ScriptPages", "keepDraft", "()V"⟩, 9) := ⟨⟨by decide +kernel, by decide +kernel⟩, List.mem_of_getElem? (i := 17) (by decide +kernel), List.mem_of_getElem? (i := 283) (by decide +kernel), List.mem_of_getElem? (i := 284) (by decide +kernel)⟩
theorem lw_p1 : lw_okq (⟨"ScriptPages$History", "dropOldest", "()V"⟩, 2) := ⟨⟨by decide +kernel, by decide +kernel⟩, List.mem_of_getElem? (i := 207) (by decide +kernel), List.mem_of_getElem? (i := 291) (by decide +kernel), List.mem_of_getElem? (i := 292) (by decide +kernel)⟩
theorem lw_p2 : lw_okq (⟨"ScriptPages$History", "stateAt", "(I)LScriptPages$Script;"⟩, 2) := ⟨⟨by decide +kernel, by decide +kernel⟩, List.mem_of_getElem? (i := 207) (by decide +kernel), List.mem_of_getElem? (i := 295) (by decide +kernel), List.mem_of_getElem? (i := 296) (by decide +kernel)⟩
theorem lw_p3 : lw_okq (⟨"ScriptPages$Scenes", "gather", "(LScriptPages$Script;)V"⟩, 12) := ⟨⟨by decide +kernel, by decide +kernel⟩, List.mem_of_getElem? (i := 89) (by decide +kernel), List.mem_of_getElem? (i := 304) (by decide +kernel), List.mem_of_getElem? (i := 305) (by decide +kernel)⟩
theorem lw_p4 : lw_okq (⟨"ScriptPages$Scenes", "findCarriedNames", "(LScriptPages$Script;)V"⟩, 12) := ⟨⟨by decide +kernel, by decide +kernel⟩, List.mem_of_getElem? (i := 89) (by decide +kernel), List.mem_of_getElem? (i := 326) (by decide +kernel), List.mem_of_getElem? (i := 327) (by decide +kernel)⟩
theorem lw_p5 : lw_okq (⟨"ScriptPages$Scenes", "findLimits", "(LScriptPages$Script;)V"⟩, 12) := ⟨⟨by decide +kernel, by decide +kernel⟩, List.mem_of_getElem? (i := 89) (by decide +kernel), List.mem_of_getElem? (i := 331) (by decide +kernel), List.mem_of_getElem? (i := 332) (by decide +kernel)⟩
theorem lw_p6 : lw_okq (⟨"ScriptPages$Scenes", "label", "(LScriptPages$Script;)V"⟩, 12) := ⟨⟨by decide +kernel, by decide +kernel⟩, List.mem_of_getElem? (i := 89) (by decide +kernel), List.mem_of_getElem? (i := 335) (by decide +kernel), List.mem_of_getElem? (i := 336) (by decide +kernel)⟩
theorem lw_p7 : lw_okq (⟨"ScriptPages$Scenes", "putLabel", "(IIII)V"⟩, 12) := ⟨⟨by decide +kernel, by decide +kernel⟩, List.mem_of_getElem? (i := 89) (by decide +kernel), List.mem_of_getElem? (i := 339) (by decide +kernel), List.mem_of_getElem? (i := 340) (by decide +kernel)⟩
theorem lw_p8 : lw_okq (⟨"ScriptPages$Scenes", "labelOpen", "(IIIII)V"⟩, 12) := ⟨⟨by decide +kernel, by decide +kernel⟩, List.mem_of_getElem? (i := 89) (by decide +kernel), List.mem_of_getElem? (i := 343) (by decide +kernel), List.mem_of_getElem? (i := 344) (by decide +kernel)⟩
theorem lw_p9 : lw_okq (⟨"ScriptPages$Pages", "findNeeds", "(LScriptPages$Script;)V"⟩, 14) := ⟨⟨by decide +kernel, by decide +kernel⟩, List.mem_of_getElem? (i := 145) (by decide +kernel), List.mem_of_getElem? (i := 351) (by decide +kernel), List.mem_of_getElem? (i := 352) (by decide +kernel)⟩
theorem lw_p10 : lw_okq (⟨"ScriptPages$Pages", "mustTurn", "(LScriptPages$Script;I)Z"⟩, 14) := ⟨⟨by decide +kernel, by decide +kernel⟩, List.mem_of_getElem? (i := 145) (by decide +kernel), List.mem_of_getElem? (i := 375) (by decide +kernel), List.mem_of_getElem? (i := 376) (by decide +kernel)⟩
theorem lw_p11 : lw_okq (⟨"ScriptPages$Pages", "turnPage", "()V"⟩, 14) := ⟨⟨by decide +kernel, by decide +kernel⟩, List.mem_of_getElem? (i := 145) (by decide +kernel), List.mem_of_getElem? (i := 379) (by decide +kernel), List.mem_of_getElem? (i := 380) (by decide +kernel)⟩
theorem lw_p12 : lw_okq (⟨"ScriptPages$Pages", "setElement", "(LScriptPages$Script;I)V"⟩, 14) := ⟨⟨by decide +kernel, by decide +kernel⟩, List.mem_of_getElem? (i := 145) (by decide +kernel), List.mem_of_getElem? (i := 383) (by decide +kernel), List.mem_of_getElem? (i := 384) (by decide +kernel)⟩
theorem lw_p13 : lw_okq (⟨"ScriptPages$Pages", "fill", "(I)V"⟩, 14) := ⟨⟨by decide +kernel, by decide +kernel⟩, List.mem_of_getElem? (i := 145) (by decide +kernel), List.mem_of_getElem? (i := 387) (by decide +kernel), List.mem_of_getElem? (i := 388) (by decide +kernel)⟩
theorem lw_p14 : lw_okq (⟨"ScriptPages$Pages", "noteBegin", "(II)V"⟩, 14) := ⟨⟨by decide +kernel, by decide +kernel⟩, List.mem_of_getElem? (i := 145) (by decide +kernel), List.mem_of_getElem? (i := 397) (by decide +kernel), List.mem_of_getElem? (i := 398) (by decide +kernel)⟩
theorem lw_p15 : lw_okq (⟨"ScriptPages$Pages", "carryOver", "(II)V"⟩, 14) := ⟨⟨by decide +kernel, by decide +kernel⟩, List.mem_of_getElem? (i := 145) (by decide +kernel), List.mem_of_getElem? (i := 402) (by decide +kernel), List.mem_of_getElem? (i := 403) (by decide +kernel)⟩
def lw_privs_1 : List (MethodName × Nat) := [(⟨"ScriptPages", "keepDraft", "()V"⟩, 9), (⟨"ScriptPages$History", "dropOldest", "()V"⟩, 2), (⟨"ScriptPages$History", "stateAt", "(I)LScriptPages$Script;"⟩, 2), (⟨"ScriptPages$Scenes", "gather", "(LScriptPages$Script;)V"⟩, 12), (⟨"ScriptPages$Scenes", "findCarriedNames", "(LScriptPages$Script;)V"⟩, 12), (⟨"ScriptPages$Scenes", "findLimits", "(LScriptPages$Script;)V"⟩, 12), (⟨"ScriptPages$Scenes", "label", "(LScriptPages$Script;)V"⟩, 12), (⟨"ScriptPages$Scenes", "putLabel", "(IIII)V"⟩, 12), (⟨"ScriptPages$Scenes", "labelOpen", "(IIIII)V"⟩, 12), (⟨"ScriptPages$Pages", "findNeeds", "(LScriptPages$Script;)V"⟩, 14), (⟨"ScriptPages$Pages", "mustTurn", "(LScriptPages$Script;I)Z"⟩, 14), (⟨"ScriptPages$Pages", "turnPage", "()V"⟩, 14), (⟨"ScriptPages$Pages", "setElement", "(LScriptPages$Script;I)V"⟩, 14), (⟨"ScriptPages$Pages", "fill", "(I)V"⟩, 14), (⟨"ScriptPages$Pages", "noteBegin", "(II)V"⟩, 14), (⟨"ScriptPages$Pages", "carryOver", "(II)V"⟩, 14)]
theorem lw_r1 : ∀ q ∈ lw_privs_1, lw_okq q := List.forall_mem_cons.mpr ⟨lw_p0, List.forall_mem_cons.mpr ⟨lw_p1, List.forall_mem_cons.mpr ⟨lw_p2, List.forall_mem_cons.mpr ⟨lw_p3, List.forall_mem_cons.mpr ⟨lw_p4, List.forall_mem_cons.mpr ⟨lw_p5, List.forall_mem_cons.mpr ⟨lw_p6, List.forall_mem_cons.mpr ⟨lw_p7, List.forall_mem_cons.mpr ⟨lw_p8, List.forall_mem_cons.mpr ⟨lw_p9, List.forall_mem_cons.mpr ⟨lw_p10, List.forall_mem_cons.mpr ⟨lw_p11, List.forall_mem_cons.mpr ⟨lw_p12, List.forall_mem_cons.mpr ⟨lw_p13, List.forall_mem_cons.mpr ⟨lw_p14, List.forall_mem_cons.mpr ⟨lw_p15, fun _ h => absurd h List.not_mem_nil⟩⟩⟩⟩⟩⟩⟩⟩⟩⟩⟩⟩⟩⟩⟩⟩
theorem lw_p16 : lw_okq (⟨"ScriptPages$Pages", "countMarks", "(LScriptPages$Script;)V"⟩, 14) := ⟨⟨by decide +kernel, by decide +kernel⟩, List.mem_of_getElem? (i := 145) (by decide +kernel), List.mem_of_getElem? (i := 406) (by decide +kernel), List.mem_of_getElem? (i := 407) (by decide +kernel)⟩
theorem lw_p17 : lw_okq (⟨"ScriptPages$Pages", "label", "(LScriptPages$Script;)V"⟩, 14) := ⟨⟨by decide +kernel, by decide +kernel⟩, List.mem_of_getElem? (i := 145) (by decide +kernel), List.mem_of_getElem? (i := 410) (by decide +kernel), List.mem_of_getElem? (i := 411) (by decide +kernel)⟩
theorem lw_p18 : lw_okq (⟨"ScriptPages$Reader", "readItem", "(LScriptPages$Script;)V"⟩, 4) := ⟨⟨by decide +kernel, by decide +kernel⟩, List.mem_of_getElem? (i := 439) (by decide +kernel), List.mem_of_getElem? (i := 462) (by decide +kernel), List.mem_of_getElem? (i := 463) (by decide +kernel)⟩
theorem lw_p19 : lw_okq (⟨"ScriptPages$Reader", "next", "()I"⟩, 4) := ⟨⟨by decide +kernel, by decide +kernel⟩, List.mem_of_getElem? (i := 439) (by decide +kernel), List.mem_of_getElem? (i := 466) (by decide +kernel), List.mem_of_getElem? (i := 467) (by decide +kernel)⟩
theorem lw_p20 : lw_okq (⟨"ScriptPages$Reader", "fail", "(I)V"⟩, 4) := ⟨⟨by decide +kernel, by decide +kernel⟩, List.mem_of_getElem? (i := 439) (by decide +kernel), List.mem_of_getElem? (i := 478) (by decide +kernel), List.mem_of_getElem? (i := 479) (by decide +kernel)⟩
theorem lw_p21 : lw_okq (⟨"ScriptPages$Reader", "readPerson", "()I"⟩, 4) := ⟨⟨by decide +kernel, by decide +kernel⟩, List.mem_of_getElem? (i := 439) (by decide +kernel), List.mem_of_getElem? (i := 482) (by decide +kernel), List.mem_of_getElem? (i := 483) (by decide +kernel)⟩
theorem lw_p22 : lw_okq (⟨"ScriptPages$Reader", "readsComma", "()Z"⟩, 4) := ⟨⟨by decide +kernel, by decide +kernel⟩, List.mem_of_getElem? (i := 439) (by decide +kernel), List.mem_of_getElem? (i := 489) (by decide +kernel), List.mem_of_getElem? (i := 490) (by decide +kernel)⟩
theorem lw_p23 : lw_okq (⟨"ScriptPages$Reader", "readLength", "()I"⟩, 4) := ⟨⟨by decide +kernel, by decide +kernel⟩, List.mem_of_getElem? (i := 439) (by decide +kernel), List.mem_of_getElem? (i := 493) (by decide +kernel), List.mem_of_getElem? (i := 494) (by decide +kernel)⟩
theorem lw_p24 : lw_okq (⟨"ScriptPages", "valueOf", "(I)I"⟩, 9) := ⟨⟨by decide +kernel, by decide +kernel⟩, List.mem_of_getElem? (i := 17) (by decide +kernel), List.mem_of_getElem? (i := 516) (by decide +kernel), List.mem_of_getElem? (i := 517) (by decide +kernel)⟩
theorem lw_p25 : lw_okq (⟨"ScriptPages", "elementFact", "(II)I"⟩, 9) := ⟨⟨by decide +kernel, by decide +kernel⟩, List.mem_of_getElem? (i := 17) (by decide +kernel), List.mem_of_getElem? (i := 520) (by decide +kernel), List.mem_of_getElem? (i := 521) (by decide +kernel)⟩
theorem lw_p26 : lw_okq (⟨"ScriptPages", "sceneFact", "(II)I"⟩, 9) := ⟨⟨by decide +kernel, by decide +kernel⟩, List.mem_of_getElem? (i := 17) (by decide +kernel), List.mem_of_getElem? (i := 525) (by decide +kernel), List.mem_of_getElem? (i := 526) (by decide +kernel)⟩
theorem lw_p27 : lw_okq (⟨"ScriptPages", "eighths", "(I)I"⟩, 9) := ⟨⟨by decide +kernel, by decide +kernel⟩, List.mem_of_getElem? (i := 17) (by decide +kernel), List.mem_of_getElem? (i := 530) (by decide +kernel), List.mem_of_getElem? (i := 531) (by decide +kernel)⟩
theorem lw_p28 : lw_okq (⟨"ScriptPages", "pageFact", "(II)I"⟩, 9) := ⟨⟨by decide +kernel, by decide +kernel⟩, List.mem_of_getElem? (i := 17) (by decide +kernel), List.mem_of_getElem? (i := 534) (by decide +kernel), List.mem_of_getElem? (i := 535) (by decide +kernel)⟩
theorem lw_p29 : lw_okq (⟨"java/lang/Throwable", "fillInStackTrace", "(I)Ljava/lang/Throwable;"⟩, 6) := ⟨⟨by decide +kernel, by decide +kernel⟩, List.mem_of_getElem? (i := 586) (by decide +kernel), List.mem_of_getElem? (i := 584) (by decide +kernel), List.mem_of_getElem? (i := 585) (by decide +kernel)⟩
theorem lw_p30 : lw_okq (⟨"ScriptPages", "repeatsLabel", "()Z"⟩, 9) := ⟨⟨by decide +kernel, by decide +kernel⟩, List.mem_of_getElem? (i := 17) (by decide +kernel), List.mem_of_getElem? (i := 657) (by decide +kernel), List.mem_of_getElem? (i := 658) (by decide +kernel)⟩
theorem lw_p31 : lw_okq (⟨"ScriptPages$Scenes", "areTwins", "(II)Z"⟩, 12) := ⟨⟨by decide +kernel, by decide +kernel⟩, List.mem_of_getElem? (i := 89) (by decide +kernel), List.mem_of_getElem? (i := 665) (by decide +kernel), List.mem_of_getElem? (i := 666) (by decide +kernel)⟩
def lw_privs_2 : List (MethodName × Nat) := [(⟨"ScriptPages$Pages", "countMarks", "(LScriptPages$Script;)V"⟩, 14), (⟨"ScriptPages$Pages", "label", "(LScriptPages$Script;)V"⟩, 14), (⟨"ScriptPages$Reader", "readItem", "(LScriptPages$Script;)V"⟩, 4), (⟨"ScriptPages$Reader", "next", "()I"⟩, 4), (⟨"ScriptPages$Reader", "fail", "(I)V"⟩, 4), (⟨"ScriptPages$Reader", "readPerson", "()I"⟩, 4), (⟨"ScriptPages$Reader", "readsComma", "()Z"⟩, 4), (⟨"ScriptPages$Reader", "readLength", "()I"⟩, 4), (⟨"ScriptPages", "valueOf", "(I)I"⟩, 9), (⟨"ScriptPages", "elementFact", "(II)I"⟩, 9), (⟨"ScriptPages", "sceneFact", "(II)I"⟩, 9), (⟨"ScriptPages", "eighths", "(I)I"⟩, 9), (⟨"ScriptPages", "pageFact", "(II)I"⟩, 9), (⟨"java/lang/Throwable", "fillInStackTrace", "(I)Ljava/lang/Throwable;"⟩, 6), (⟨"ScriptPages", "repeatsLabel", "()Z"⟩, 9), (⟨"ScriptPages$Scenes", "areTwins", "(II)Z"⟩, 12)]
theorem lw_r2 : ∀ q ∈ lw_privs_2, lw_okq q := List.forall_mem_cons.mpr ⟨lw_p16, List.forall_mem_cons.mpr ⟨lw_p17, List.forall_mem_cons.mpr ⟨lw_p18, List.forall_mem_cons.mpr ⟨lw_p19, List.forall_mem_cons.mpr ⟨lw_p20, List.forall_mem_cons.mpr ⟨lw_p21, List.forall_mem_cons.mpr ⟨lw_p22, List.forall_mem_cons.mpr ⟨lw_p23, List.forall_mem_cons.mpr ⟨lw_p24, List.forall_mem_cons.mpr ⟨lw_p25, List.forall_mem_cons.mpr ⟨lw_p26, List.forall_mem_cons.mpr ⟨lw_p27, List.forall_mem_cons.mpr ⟨lw_p28, List.forall_mem_cons.mpr ⟨lw_p29, List.forall_mem_cons.mpr ⟨lw_p30, List.forall_mem_cons.mpr ⟨lw_p31, fun _ h => absurd h List.not_mem_nil⟩⟩⟩⟩⟩⟩⟩⟩⟩⟩⟩⟩⟩⟩⟩⟩
theorem lw_p32 : lw_okq (⟨"ScriptPagesModel", "fails", "(I)I"⟩, 19) := ⟨⟨by decide +kernel, by decide +kernel⟩, List.mem_of_getElem? (i := 815) (by decide +kernel), List.mem_of_getElem? (i := 890) (by decide +kernel), List.mem_of_getElem? (i := 891) (by decide +kernel)⟩
theorem lw_p33 : lw_okq (⟨"ScriptPagesModel", "hold", "()V"⟩, 19) := ⟨⟨by decide +kernel, by decide +kernel⟩, List.mem_of_getElem? (i := 815) (by decide +kernel), List.mem_of_getElem? (i := 897) (by decide +kernel), List.mem_of_getElem? (i := 898) (by decide +kernel)⟩
theorem lw_p34 : lw_okq (⟨"ScriptPagesModel", "comes", "(IIII)V"⟩, 19) := ⟨⟨by decide +kernel, by decide +kernel⟩, List.mem_of_getElem? (i := 815) (by decide +kernel), List.mem_of_getElem? (i := 904) (by decide +kernel), List.mem_of_getElem? (i := 905) (by decide +kernel)⟩
theorem lw_p35 : lw_okq (⟨"ScriptPagesModel", "puts", "(III)V"⟩, 19) := ⟨⟨by decide +kernel, by decide +kernel⟩, List.mem_of_getElem? (i := 815) (by decide +kernel), List.mem_of_getElem? (i := 908) (by decide +kernel), List.mem_of_getElem? (i := 909) (by decide +kernel)⟩
theorem lw_p36 : lw_okq (⟨"ScriptPagesModel", "hasTwo", "()Z"⟩, 19) := ⟨⟨by decide +kernel, by decide +kernel⟩, List.mem_of_getElem? (i := 815) (by decide +kernel), List.mem_of_getElem? (i := 912) (by decide +kernel), List.mem_of_getElem? (i := 913) (by decide +kernel)⟩
theorem lw_p37 : lw_okq (⟨"ScriptPagesModel", "isHeading", "(I)Z"⟩, 19) := ⟨⟨by decide +kernel, by decide +kernel⟩, List.mem_of_getElem? (i := 815) (by decide +kernel), List.mem_of_getElem? (i := 916) (by decide +kernel), List.mem_of_getElem? (i := 917) (by decide +kernel)⟩
theorem lw_p38 : lw_okq (⟨"ScriptPagesModel", "of", "(II)I"⟩, 19) := ⟨⟨by decide +kernel, by decide +kernel⟩, List.mem_of_getElem? (i := 815) (by decide +kernel), List.mem_of_getElem? (i := 920) (by decide +kernel), List.mem_of_getElem? (i := 921) (by decide +kernel)⟩
theorem lw_p39 : lw_okq (⟨"ScriptPagesModel", "areTwo", "(II)Z"⟩, 19) := ⟨⟨by decide +kernel, by decide +kernel⟩, List.mem_of_getElem? (i := 815) (by decide +kernel), List.mem_of_getElem? (i := 924) (by decide +kernel), List.mem_of_getElem? (i := 925) (by decide +kernel)⟩
theorem lw_p40 : lw_okq (⟨"ScriptPagesModel", "label", "(II)I"⟩, 19) := ⟨⟨by decide +kernel, by decide +kernel⟩, List.mem_of_getElem? (i := 815) (by decide +kernel), List.mem_of_getElem? (i := 928) (by decide +kernel), List.mem_of_getElem? (i := 929) (by decide +kernel)⟩
theorem lw_p41 : lw_okq (⟨"ScriptPagesModel", "isLocked", "(I)Z"⟩, 19) := ⟨⟨by decide +kernel, by decide +kernel⟩, List.mem_of_getElem? (i := 815) (by decide +kernel), List.mem_of_getElem? (i := 932) (by decide +kernel), List.mem_of_getElem? (i := 933) (by decide +kernel)⟩
theorem lw_p42 : lw_okq (⟨"ScriptPagesModel", "ends", "(I)I"⟩, 19) := ⟨⟨by decide +kernel, by decide +kernel⟩, List.mem_of_getElem? (i := 815) (by decide +kernel), List.mem_of_getElem? (i := 936) (by decide +kernel), List.mem_of_getElem? (i := 937) (by decide +kernel)⟩
theorem lw_p43 : lw_okq (⟨"ScriptPagesModel", "tells", "(I)I"⟩, 19) := ⟨⟨by decide +kernel, by decide +kernel⟩, List.mem_of_getElem? (i := 815) (by decide +kernel), List.mem_of_getElem? (i := 940) (by decide +kernel), List.mem_of_getElem? (i := 941) (by decide +kernel)⟩
theorem lw_p44 : lw_okq (⟨"ScriptPagesModel", "isElement", "(I)Z"⟩, 19) := ⟨⟨by decide +kernel, by decide +kernel⟩, List.mem_of_getElem? (i := 815) (by decide +kernel), List.mem_of_getElem? (i := 948) (by decide +kernel), List.mem_of_getElem? (i := 949) (by decide +kernel)⟩
theorem lw_p45 : lw_okq (⟨"ScriptPagesModel", "goes", "(I)V"⟩, 19) := ⟨⟨by decide +kernel, by decide +kernel⟩, List.mem_of_getElem? (i := 815) (by decide +kernel), List.mem_of_getElem? (i := 952) (by decide +kernel), List.mem_of_getElem? (i := 953) (by decide +kernel)⟩
theorem lw_p46 : lw_okq (⟨"ScriptPagesModel", "lines", "(I)I"⟩, 19) := ⟨⟨by decide +kernel, by decide +kernel⟩, List.mem_of_getElem? (i := 815) (by decide +kernel), List.mem_of_getElem? (i := 960) (by decide +kernel), List.mem_of_getElem? (i := 961) (by decide +kernel)⟩
theorem lw_p47 : lw_okq (⟨"ScriptPagesModel", "sceneMany", "()I"⟩, 19) := ⟨⟨by decide +kernel, by decide +kernel⟩, List.mem_of_getElem? (i := 815) (by decide +kernel), List.mem_of_getElem? (i := 982) (by decide +kernel), List.mem_of_getElem? (i := 983) (by decide +kernel)⟩
def lw_privs_3 : List (MethodName × Nat) := [(⟨"ScriptPagesModel", "fails", "(I)I"⟩, 19), (⟨"ScriptPagesModel", "hold", "()V"⟩, 19), (⟨"ScriptPagesModel", "comes", "(IIII)V"⟩, 19), (⟨"ScriptPagesModel", "puts", "(III)V"⟩, 19), (⟨"ScriptPagesModel", "hasTwo", "()Z"⟩, 19), (⟨"ScriptPagesModel", "isHeading", "(I)Z"⟩, 19), (⟨"ScriptPagesModel", "of", "(II)I"⟩, 19), (⟨"ScriptPagesModel", "areTwo", "(II)Z"⟩, 19), (⟨"ScriptPagesModel", "label", "(II)I"⟩, 19), (⟨"ScriptPagesModel", "isLocked", "(I)Z"⟩, 19), (⟨"ScriptPagesModel", "ends", "(I)I"⟩, 19), (⟨"ScriptPagesModel", "tells", "(I)I"⟩, 19), (⟨"ScriptPagesModel", "isElement", "(I)Z"⟩, 19), (⟨"ScriptPagesModel", "goes", "(I)V"⟩, 19), (⟨"ScriptPagesModel", "lines", "(I)I"⟩, 19), (⟨"ScriptPagesModel", "sceneMany", "()I"⟩, 19)]
theorem lw_r3 : ∀ q ∈ lw_privs_3, lw_okq q := List.forall_mem_cons.mpr ⟨lw_p32, List.forall_mem_cons.mpr ⟨lw_p33, List.forall_mem_cons.mpr ⟨lw_p34, List.forall_mem_cons.mpr ⟨lw_p35, List.forall_mem_cons.mpr ⟨lw_p36, List.forall_mem_cons.mpr ⟨lw_p37, List.forall_mem_cons.mpr ⟨lw_p38, List.forall_mem_cons.mpr ⟨lw_p39, List.forall_mem_cons.mpr ⟨lw_p40, List.forall_mem_cons.mpr ⟨lw_p41, List.forall_mem_cons.mpr ⟨lw_p42, List.forall_mem_cons.mpr ⟨lw_p43, List.forall_mem_cons.mpr ⟨lw_p44, List.forall_mem_cons.mpr ⟨lw_p45, List.forall_mem_cons.mpr ⟨lw_p46, List.forall_mem_cons.mpr ⟨lw_p47, fun _ h => absurd h List.not_mem_nil⟩⟩⟩⟩⟩⟩⟩⟩⟩⟩⟩⟩⟩⟩⟩⟩
theorem lw_p48 : lw_okq (⟨"ScriptPagesModel", "headingOf", "(I)I"⟩, 19) := ⟨⟨by decide +kernel, by decide +kernel⟩, List.mem_of_getElem? (i := 815) (by decide +kernel), List.mem_of_getElem? (i := 986) (by decide +kernel), List.mem_of_getElem? (i := 987) (by decide +kernel)⟩
theorem lw_p49 : lw_okq (⟨"ScriptPagesModel", "setsAll", "(I)V"⟩, 19) := ⟨⟨by decide +kernel, by decide +kernel⟩, List.mem_of_getElem? (i := 815) (by decide +kernel), List.mem_of_getElem? (i := 994) (by decide +kernel), List.mem_of_getElem? (i := 995) (by decide +kernel)⟩
theorem lw_p50 : lw_okq (⟨"ScriptPagesModel", "newPage", "()V"⟩, 19) := ⟨⟨by decide +kernel, by decide +kernel⟩, List.mem_of_getElem? (i := 815) (by decide +kernel), List.mem_of_getElem? (i := 998) (by decide +kernel), List.mem_of_getElem? (i := 999) (by decide +kernel)⟩
theorem lw_p51 : lw_okq (⟨"ScriptPagesModel", "sets", "(II)V"⟩, 19) := ⟨⟨by decide +kernel, by decide +kernel⟩, List.mem_of_getElem? (i := 815) (by decide +kernel), List.mem_of_getElem? (i := 1002) (by decide +kernel), List.mem_of_getElem? (i := 1003) (by decide +kernel)⟩
theorem lw_p52 : lw_okq (⟨"ScriptPagesModel", "blanks", "(I)I"⟩, 19) := ⟨⟨by decide +kernel, by decide +kernel⟩, List.mem_of_getElem? (i := 815) (by decide +kernel), List.mem_of_getElem? (i := 1006) (by decide +kernel), List.mem_of_getElem? (i := 1007) (by decide +kernel)⟩
theorem lw_p53 : lw_okq (⟨"ScriptPagesModel", "need", "(I)I"⟩, 19) := ⟨⟨by decide +kernel, by decide +kernel⟩, List.mem_of_getElem? (i := 815) (by decide +kernel), List.mem_of_getElem? (i := 1010) (by decide +kernel), List.mem_of_getElem? (i := 1011) (by decide +kernel)⟩
theorem lw_p54 : lw_okq (⟨"ScriptPagesModel", "wantsNext", "(I)Z"⟩, 19) := ⟨⟨by decide +kernel, by decide +kernel⟩, List.mem_of_getElem? (i := 815) (by decide +kernel), List.mem_of_getElem? (i := 1014) (by decide +kernel), List.mem_of_getElem? (i := 1015) (by decide +kernel)⟩
theorem lw_p55 : lw_okq (⟨"ScriptPagesModel", "isText", "(I)Z"⟩, 19) := ⟨⟨by decide +kernel, by decide +kernel⟩, List.mem_of_getElem? (i := 815) (by decide +kernel), List.mem_of_getElem? (i := 1018) (by decide +kernel), List.mem_of_getElem? (i := 1019) (by decide +kernel)⟩
theorem lw_p56 : lw_okq (⟨"ScriptPagesModel", "least", "(I)I"⟩, 19) := ⟨⟨by decide +kernel, by decide +kernel⟩, List.mem_of_getElem? (i := 815) (by decide +kernel), List.mem_of_getElem? (i := 1022) (by decide +kernel), List.mem_of_getElem? (i := 1023) (by decide +kernel)⟩
theorem lw_p57 : lw_okq (⟨"ScriptPagesModel", "valueOf", "(I)I"⟩, 19) := ⟨⟨by decide +kernel, by decide +kernel⟩, List.mem_of_getElem? (i := 815) (by decide +kernel), List.mem_of_getElem? (i := 1030) (by decide +kernel), List.mem_of_getElem? (i := 1031) (by decide +kernel)⟩
theorem lw_p58 : lw_okq (⟨"ScriptPagesModel", "lockedMany", "()I"⟩, 19) := ⟨⟨by decide +kernel, by decide +kernel⟩, List.mem_of_getElem? (i := 815) (by decide +kernel), List.mem_of_getElem? (i := 1034) (by decide +kernel), List.mem_of_getElem? (i := 1035) (by decide +kernel)⟩
theorem lw_p59 : lw_okq (⟨"ScriptPagesModel", "marks", "()I"⟩, 19) := ⟨⟨by decide +kernel, by decide +kernel⟩, List.mem_of_getElem? (i := 815) (by decide +kernel), List.mem_of_getElem? (i := 1038) (by decide +kernel), List.mem_of_getElem? (i := 1039) (by decide +kernel)⟩
theorem lw_p60 : lw_okq (⟨"ScriptPagesModel", "namesOf", "(IZ)I"⟩, 19) := ⟨⟨by decide +kernel, by decide +kernel⟩, List.mem_of_getElem? (i := 815) (by decide +kernel), List.mem_of_getElem? (i := 1042) (by decide +kernel), List.mem_of_getElem? (i := 1043) (by decide +kernel)⟩
theorem lw_p61 : lw_okq (⟨"ScriptPagesModel", "isCarried", "(I)Z"⟩, 19) := ⟨⟨by decide +kernel, by decide +kernel⟩, List.mem_of_getElem? (i := 815) (by decide +kernel), List.mem_of_getElem? (i := 1046) (by decide +kernel), List.mem_of_getElem? (i := 1047) (by decide +kernel)⟩
theorem lw_p62 : lw_okq (⟨"ScriptPagesModel", "sceneOf", "(I)I"⟩, 19) := ⟨⟨by decide +kernel, by decide +kernel⟩, List.mem_of_getElem? (i := 815) (by decide +kernel), List.mem_of_getElem? (i := 1050) (by decide +kernel), List.mem_of_getElem? (i := 1051) (by decide +kernel)⟩
theorem lw_p63 : lw_okq (⟨"ScriptPagesModel", "elementOf", "(II)I"⟩, 19) := ⟨⟨by decide +kernel, by decide +kernel⟩, List.mem_of_getElem? (i := 815) (by decide +kernel), List.mem_of_getElem? (i := 1058) (by decide +kernel), List.mem_of_getElem? (i := 1059) (by decide +kernel)⟩
def lw_privs_4 : List (MethodName × Nat) := [(⟨"ScriptPagesModel", "headingOf", "(I)I"⟩, 19), (⟨"ScriptPagesModel", "setsAll", "(I)V"⟩, 19), (⟨"ScriptPagesModel", "newPage", "()V"⟩, 19), (⟨"ScriptPagesModel", "sets", "(II)V"⟩, 19), (⟨"ScriptPagesModel", "blanks", "(I)I"⟩, 19), (⟨"ScriptPagesModel", "need", "(I)I"⟩, 19), (⟨"ScriptPagesModel", "wantsNext", "(I)Z"⟩, 19), (⟨"ScriptPagesModel", "isText", "(I)Z"⟩, 19), (⟨"ScriptPagesModel", "least", "(I)I"⟩, 19), (⟨"ScriptPagesModel", "valueOf", "(I)I"⟩, 19), (⟨"ScriptPagesModel", "lockedMany", "()I"⟩, 19), (⟨"ScriptPagesModel", "marks", "()I"⟩, 19), (⟨"ScriptPagesModel", "namesOf", "(IZ)I"⟩, 19), (⟨"ScriptPagesModel", "isCarried", "(I)Z"⟩, 19), (⟨"ScriptPagesModel", "sceneOf", "(I)I"⟩, 19), (⟨"ScriptPagesModel", "elementOf", "(II)I"⟩, 19)]
theorem lw_r4 : ∀ q ∈ lw_privs_4, lw_okq q := List.forall_mem_cons.mpr ⟨lw_p48, List.forall_mem_cons.mpr ⟨lw_p49, List.forall_mem_cons.mpr ⟨lw_p50, List.forall_mem_cons.mpr ⟨lw_p51, List.forall_mem_cons.mpr ⟨lw_p52, List.forall_mem_cons.mpr ⟨lw_p53, List.forall_mem_cons.mpr ⟨lw_p54, List.forall_mem_cons.mpr ⟨lw_p55, List.forall_mem_cons.mpr ⟨lw_p56, List.forall_mem_cons.mpr ⟨lw_p57, List.forall_mem_cons.mpr ⟨lw_p58, List.forall_mem_cons.mpr ⟨lw_p59, List.forall_mem_cons.mpr ⟨lw_p60, List.forall_mem_cons.mpr ⟨lw_p61, List.forall_mem_cons.mpr ⟨lw_p62, List.forall_mem_cons.mpr ⟨lw_p63, fun _ h => absurd h List.not_mem_nil⟩⟩⟩⟩⟩⟩⟩⟩⟩⟩⟩⟩⟩⟩⟩⟩
theorem lw_p64 : lw_okq (⟨"ScriptPagesModel", "sceneTold", "(II)I"⟩, 19) := ⟨⟨by decide +kernel, by decide +kernel⟩, List.mem_of_getElem? (i := 815) (by decide +kernel), List.mem_of_getElem? (i := 1066) (by decide +kernel), List.mem_of_getElem? (i := 1067) (by decide +kernel)⟩
theorem lw_p65 : lw_okq (⟨"ScriptPagesModel", "pageTold", "(II)I"⟩, 19) := ⟨⟨by decide +kernel, by decide +kernel⟩, List.mem_of_getElem? (i := 815) (by decide +kernel), List.mem_of_getElem? (i := 1074) (by decide +kernel), List.mem_of_getElem? (i := 1075) (by decide +kernel)⟩
theorem lw_p66 : lw_okq (⟨"ScriptPagesModel", "pageLabel", "(II)I"⟩, 19) := ⟨⟨by decide +kernel, by decide +kernel⟩, List.mem_of_getElem? (i := 815) (by decide +kernel), List.mem_of_getElem? (i := 1078) (by decide +kernel), List.mem_of_getElem? (i := 1079) (by decide +kernel)⟩
theorem lw_p67 : lw_okq (⟨"ScriptPagesModel", "pagesIf", "(I)I"⟩, 19) := ⟨⟨by decide +kernel, by decide +kernel⟩, List.mem_of_getElem? (i := 815) (by decide +kernel), List.mem_of_getElem? (i := 1098) (by decide +kernel), List.mem_of_getElem? (i := 1099) (by decide +kernel)⟩
theorem lw_p68 : lw_okq (⟨"ScriptPagesModel", "pagesBehind", "(II)I"⟩, 19) := ⟨⟨by decide +kernel, by decide +kernel⟩, List.mem_of_getElem? (i := 815) (by decide +kernel), List.mem_of_getElem? (i := 1110) (by decide +kernel), List.mem_of_getElem? (i := 1111) (by decide +kernel)⟩
theorem lw_p69 : lw_okq (⟨"ScriptPagesModel", "isItem", "()Z"⟩, 19) := ⟨⟨by decide +kernel, by decide +kernel⟩, List.mem_of_getElem? (i := 815) (by decide +kernel), List.mem_of_getElem? (i := 1130) (by decide +kernel), List.mem_of_getElem? (i := 1131) (by decide +kernel)⟩
theorem lw_p70 : lw_okq (⟨"ScriptPagesModel", "isAt", "(II)Z"⟩, 19) := ⟨⟨by decide +kernel, by decide +kernel⟩, List.mem_of_getElem? (i := 815) (by decide +kernel), List.mem_of_getElem? (i := 1137) (by decide +kernel), List.mem_of_getElem? (i := 1138) (by decide +kernel)⟩
theorem lw_p71 : lw_okq (⟨"ScriptPagesModel", "takes", "(I)Z"⟩, 19) := ⟨⟨by decide +kernel, by decide +kernel⟩, List.mem_of_getElem? (i := 815) (by decide +kernel), List.mem_of_getElem? (i := 1141) (by decide +kernel), List.mem_of_getElem? (i := 1142) (by decide +kernel)⟩
theorem lw_p72 : lw_okq (⟨"ScriptPagesModel", "isNumber", "()Z"⟩, 19) := ⟨⟨by decide +kernel, by decide +kernel⟩, List.mem_of_getElem? (i := 815) (by decide +kernel), List.mem_of_getElem? (i := 1145) (by decide +kernel), List.mem_of_getElem? (i := 1146) (by decide +kernel)⟩
theorem lw_p73 : lw_okq (⟨"ScriptPagesModel", "mix", "(I)V"⟩, 19) := ⟨⟨by decide +kernel, by decide +kernel⟩, List.mem_of_getElem? (i := 815) (by decide +kernel), List.mem_of_getElem? (i := 1158) (by decide +kernel), List.mem_of_getElem? (i := 1159) (by decide +kernel)⟩
def lw_privs_5 : List (MethodName × Nat) := [(⟨"ScriptPagesModel", "sceneTold", "(II)I"⟩, 19), (⟨"ScriptPagesModel", "pageTold", "(II)I"⟩, 19), (⟨"ScriptPagesModel", "pageLabel", "(II)I"⟩, 19), (⟨"ScriptPagesModel", "pagesIf", "(I)I"⟩, 19), (⟨"ScriptPagesModel", "pagesBehind", "(II)I"⟩, 19), (⟨"ScriptPagesModel", "isItem", "()Z"⟩, 19), (⟨"ScriptPagesModel", "isAt", "(II)Z"⟩, 19), (⟨"ScriptPagesModel", "takes", "(I)Z"⟩, 19), (⟨"ScriptPagesModel", "isNumber", "()Z"⟩, 19), (⟨"ScriptPagesModel", "mix", "(I)V"⟩, 19)]
theorem lw_r5 : ∀ q ∈ lw_privs_5, lw_okq q := List.forall_mem_cons.mpr ⟨lw_p64, List.forall_mem_cons.mpr ⟨lw_p65, List.forall_mem_cons.mpr ⟨lw_p66, List.forall_mem_cons.mpr ⟨lw_p67, List.forall_mem_cons.mpr ⟨lw_p68, List.forall_mem_cons.mpr ⟨lw_p69, List.forall_mem_cons.mpr ⟨lw_p70, List.forall_mem_cons.mpr ⟨lw_p71, List.forall_mem_cons.mpr ⟨lw_p72, List.forall_mem_cons.mpr ⟨lw_p73, fun _ h => absurd h List.not_mem_nil⟩⟩⟩⟩⟩⟩⟩⟩⟩⟩
def lw_privs : List (MethodName × Nat) := lw_privs_1 ++ (lw_privs_2 ++ (lw_privs_3 ++ (lw_privs_4 ++ (lw_privs_5))))
def lw_tbl : List Cond := k2_sels lw_privs ++ tables_1
theorem lw_privs_ok : ∀ q ∈ lw_privs, lw_okq q := by
  show ∀ q ∈ lw_privs_1 ++ (lw_privs_2 ++ (lw_privs_3 ++ (lw_privs_4 ++ (lw_privs_5)))), lw_okq q
  exact List.forall_mem_append.mpr ⟨lw_r1, List.forall_mem_append.mpr ⟨lw_r2, List.forall_mem_append.mpr ⟨lw_r3, List.forall_mem_append.mpr ⟨lw_r4, lw_r5⟩⟩⟩⟩
/-- the streams that the claim lets the run draw from -/
abbrev lw_cs : List Choice := [Jvm.Choice.named "NaN.bits"]
theorem lw_bits : nanBits ∈ lw_cs := by first | decide | exact List.mem_cons_self | simp [lw_cs, nanBits]
-- ===== end of PART A; then your names; then what follows =====
end
section
/-! ===== BEGIN words of one list among another's, by their places ===== -/
theorem goodIn_r {big : List Cond} (ws : List Cond) (ps : List Nat) (hp : ws = ps.filterMap (fun i => big[i]?)) (h : ws.all goodWord = true) : GoodIn big ws := by
  intro w hw
  have h1 := List.all_eq_true.mp h w hw
  rw [hp] at hw
  obtain ⟨i, -, hi⟩ := List.mem_filterMap.mp hw
  have hm : w ∈ big := by first | exact List.mem_of_getElem? hi | exact List.getElem?_mem hi
  exact ⟨hm, good_of_word h1⟩
theorem goodIn_app {big a b : List Cond} (ha : GoodIn big a) (hb : GoodIn big b) : GoodIn big (a ++ b) := fun w h => (List.mem_append.mp h).elim (ha w) (hb w)
theorem goodIn_ca {big a b : List Cond} {c : Cond} (ha : GoodIn big (c :: a)) (hb : GoodIn big b) : GoodIn big (c :: (a ++ b)) := fun w h => (List.mem_cons.mp h).elim (fun e => ha w (List.mem_cons.mpr (Or.inl e))) (fun h => (List.mem_append.mp h).elim (fun h => ha w (List.mem_cons.mpr (Or.inr h))) (hb w))
theorem goodIn_sub {big ws : List Cond} (hm : ∀ w ∈ ws, w ∈ big) (h : ws.all goodWord = true) : GoodIn big ws := fun w hw => ⟨hm w hw, good_of_word (List.all_eq_true.mp h w hw)⟩
/-! ===== END ===== -/

/-! ===== BEGIN exceptions that leave a method, and their catching by the caller (launches without stack traces) ===== -/
section VXA
/-! The laws vx_back, vx_callV, vx_callS, vx_callSW, vx_throw0, vx_throwS follow proofs of the library, with one case more: JvmDerived/Free/Laws.lean (Back.of_free), Shelf42/LK1.lean (callV, callS), Shelf/KitTraced.lean (throwNew0V, throwNewS). -/
/-- where a method has thrown q: the class by its name, the cell, what was written, the world -/
def vx_T (XC : String → State → State → Prop) (st : State) (q : Addr) (t : State) (mc ms : Nat) (free : Addr → Prop) : Prop :=
  ∃ (E : String) (ce : Cell) (L : List Loc), XC E st t ∧ t.heap[q]? = some ce ∧ ce.vm = .none ∧ st.vm.findClass E = some ce.cls ∧ st.WarmedH t.vm ∧ st.sameButNew ({ t with vm := st.vm } : State) L mc ms ∧ ∀ z ∈ L, free z.base
def vx_Q (Qc : Array Value → State → Outcome → State → Prop) (XC : String → State → State → Prop) (mc ms : Nat) (free : Addr → Prop) : Array Value → State → Outcome → State → Prop := fun a st o t =>
  (Qc a st o t ∧ ∃ L, FrameEnd st o t L mc ms ∧ ∀ q ∈ L, free q.base) ∨ ∃ q, o = .threw q ∧ vx_T XC st q t mc ms free
/-- a callee that returns or throws -/
def vx_Met (l : Launch) (y : MethodName) (ws : List Cond) (rm : Room) (Pc : Array Value → State → Prop) (Qc : Array Value → State → Outcome → State → Prop) (XC : String → State → State → Prop) (mc ms : Nat) (free : Addr → Prop) : Prop :=
  MetFree l y (headSpec ws rm) Pc (fun _ _ _ _ _ => True) (vx_Q Qc XC mc ms free)
def vx_Post (XC : String → State → State → Prop) (mc ms : Nat) (free : Addr → Prop) : Pt → Array Value → Addr → Pt → Prop := fun A a q B =>
  ∃ (g : JFrame) (mk : MethodId) (t : State) (L : List Loc) (E : String) (ce : Cell), B.U.heap = t.heap ∧ B.U.vm = t.vm ∧ XC E (A.U.calling g mk a) t ∧ t.heap[q]? = some ce ∧ ce.vm = .none ∧ A.U.vm.findClass E = some ce.cls ∧ B.locs = A.locs ++ L ∧ (∀ z ∈ L, free z.base) ∧ B.cells = A.cells + mc ∧ B.slots = A.slots + ms
def vx_Back (l : Launch) (R : Room) (p : Program) (e : Env) (below : List Frame) (s : State) (sargs : Array Value) (y : MethodName) (len W9 : Nat)
    (Pre : Pt → Array Value → Prop) (Post : Pt → Array Value → Option Value → Pt → Prop) (PostX : Pt → Array Value → Addr → Pt → Prop) : Prop :=
  ∀ (m : MethodId) (meth : Method) (c : Code) (A : Pt) (g : JFrame) (ig : Instr) (mk : MethodId) (a : Array Value),
    Stand p l e R s m sargs below meth c A.U A.locs A.cells A.slots → g.method = m → g.locals.size = c.maxLocals → decode c.code g.pc = .ok (ig, len) →
    2 * g.monitorRoom + (g.stack.map fun v => v.category).sum ≤ W9 → A.U.methodNamed? y = some mk → Pre A a →
    (∃ (v : Option Value) (B : Pt), Stand p l e R s m sargs below meth c B.U B.locs B.cells B.slots ∧ Post A a v B ∧
      Steps p.tables e below (doInvoke e (A.U.setTop g) [] mk a).1 (B.U.setTop { g with pc := g.pc + len, stack := v.toList ++ g.stack })) ∨
    (∃ (q : Addr) (B : Pt), Stand p l e R s m sargs below meth c B.U B.locs B.cells B.slots ∧ PostX A a q B ∧
      Steps p.tables e below (doInvoke e (A.U.setTop g) [] mk a).1 ((B.U.setTop g).pushFrame (.throwing q)))
section Payer
variable {l : Launch} {R : Room} {p : Program} {e : Env} {below : List Frame} {s : State} {sargs : Array Value} {y : MethodName} {len W9 : Nat}
theorem vx_back {ws : List Cond} {rm : Room} {Pc : Array Value → State → Prop} {Qc : Array Value → State → Outcome → State → Prop} {XC : String → State → State → Prop} {mc ms : Nat} {free : Addr → Prop} {bytes : ByteArray} {maxL : Nat} {ret : Option FieldType}
    (hM : vx_Met l y ws rm Pc Qc XC mc ms free) (hblind : FrameBlind Pc) (hrc : rm.cells = mc) (hrs : rm.slots = ms)
    (hframes : rm.frames + 1 ≤ R.frames) (hlocals : W9 + (maxL + 11) + rm.locals ≤ R.locals)
    (hws : ∀ w ∈ ws, ∀ a' U, s.WarmedH U.vm → w.before a' U = true) (hcode : Cond.code y bytes maxL ret ∈ ws) (hinit : ∀ a' U, s.WarmedH U.vm → (Cond.initialized y.cls).before a' U = true) :
    vx_Back l R p e below s sargs y len W9 (PreOf R mc ms Pc) (PostOf Qc mc ms free) (vx_Post XC mc ms free) := by
  intro m meth c A g ig mk a X hg hsize hdg hW hn hp
  have h1 : (headSpec ws rm).pre.before a A.U = true := atoms_intro fun w hw => hws w hw _ _ X.warmed
  have h2 : (Cond.code y bytes maxL ret).before a A.U = true := hws _ hcode _ _ X.warmed
  have h3 : (Cond.initialized y.cls).before a A.U = true := hinit _ _ X.warmed
  have h4 : A.cells + (headSpec ws rm).room.cells ≤ R.cells := by rw [show (headSpec ws rm).room.cells = mc from hrc]; exact hp.1
  have h5 : A.slots + (headSpec ws rm).room.slots ≤ R.slots := by rw [show (headSpec ws rm).room.slots = ms from hrs]; exact hp.2.1
  have hPc : Pc a (A.U.calling g mk a) := hblind _ _ _ _ hp.2.2
  obtain ⟨U, Ls, c0, s0⟩ := A
  dsimp only [Pt.U, Pt.locs, Pt.cells, Pt.slots] at h1 h2 h3 h4 h5 X hn hPc ⊢
  obtain ⟨methY, cY, hmY, hcY, -, hlY, -, -, -, -⟩ := Cond.code_spec hn h2
  obtain ⟨kY, hkY, -⟩ := className_of_methodNamed hn
  have hinitY : kY.init = .initialized := Cond.initialized_spec (findClass_of_methodNamed hn) hkY h3
  have h : At U g.method c below := by rw [hg]; exact X.here
  have hlocals9 : W9 + (maxL + 11) + (headSpec ws rm).room.locals ≤ R.locals := hlocals
  have happ : (headSpec ws rm).appliesLoose y e.platform (U.calling g mk a) = true :=
    Spec.appliesLoose_calling (g := g) h hdg hn hkY hinitY
      (X.room_calling (g := g) (R' := (headSpec ws rm).room) hsize hmY hcY hframes (by rw [hlY]; omega) h4 h5) h1
  obtain ⟨mid, hmid⟩ := h.above
  have hfr : (U.setTop g).frames = (.java g :: mid) ++ below := by rw [State.frames_setTop' g h.top, hmid]; rfl
  obtain ⟨o, s₂, hsteps, -, hend, hq⟩ := Steps.callFree hM p X.admits X.cas X.clock (acts := []) hfr happ hPc trivial
  have hq' : vx_Q Qc XC mc ms free a (U.calling g mk a) o s₂ := hq
  rw [State.frames_setTop' g h.top] at hend
  obtain ⟨g₀, hg0⟩ := Option.isSome_iff_exists.mp h.top
  obtain ⟨r, hr⟩ := State.topJava?_eq_some.mp hg0
  have hr' : (({ U with heap := s₂.heap, slotsUsed := s₂.slotsUsed } : State).setVm s₂.vm).frames = .java g₀ :: r := hr
  rcases hq' with ⟨hqc, L, hfe, hL⟩ | ⟨q, rfl, E, ce, L, hx, hce, hcv, hcl, hW₂, hsm, hL⟩
  · obtain ⟨⟨v, rfl⟩, hW₂, e2, q2, q3, q4, q5, q6⟩ := id hfe
    have e3 : s₂ = ({ (U.calling g mk a).setFrames s₂.frames with heap := s₂.heap, slotsUsed := s₂.slotsUsed } : State).setVm s₂.vm := by
      have : s₂ = ({ s₂ with vm := (U.calling g mk a).vm } : State).setVm s₂.vm := rfl
      rw [e2] at this
      exact this
    obtain ⟨c₂, i₂, len₂, hc₂, hd₂, hf₂⟩ := hend
    have hW' : U.WarmedH s₂.vm := hW₂
    have hcc : c₂ = c := by
      have h1 : s₂.code? g.method = U.code? g.method := by
        rw [State.code?_eq, State.code?_eq, hW'.alike.method?]
      exact Option.some.inj (hc₂.symm.trans (h1.trans h.code))
    subst hcc
    have hlen : len₂ = len := by rw [hdg] at hd₂; cases hd₂; rfl
    subst hlen
    have hs₂ : s₂ = (({ U with heap := s₂.heap, slotsUsed := s₂.slotsUsed } : State).setVm s₂.vm).setTop { g with pc := g.pc + len₂, stack := v.toList ++ g.stack } := by
      refine e3.trans ?_
      rw [hf₂, State.calling_eq h.top, State.setFrames_setFrames, State.setTop_of_frames _ hr', hr]
      rfl
    have hsame : U.sameButNew ({ U with heap := s₂.heap, slotsUsed := s₂.slotsUsed } : State) L mc ms := by
      refine ⟨?_, q2, q3, q4, q5, q6⟩
      obtain ⟨t, ht, -⟩ := State.frames_cons hr
      show ({ U with heap := s₂.heap, slotsUsed := s₂.slotsUsed } : State) = { U.setFrames U.frames with heap := s₂.heap, slotsUsed := s₂.slotsUsed }
      rw [State.setFrames_self ht]
    subst hg
    refine Or.inl ⟨v, ⟨(({ U with heap := s₂.heap, slotsUsed := s₂.slotsUsed } : State).setVm s₂.vm), Ls ++ L, c0 + mc, s0 + ms⟩,
      ⟨X.admits, X.cas, X.clock, X.frames, X.room, X.hears, X.method, X.code, (X.here.setHeapUsed s₂.heap s₂.slotsUsed).setVm hW'.alike, X.tail, State.WarmedH.trans X.warmed hW', X.limits, X.bytes, X.same.trans (hsame.setVm s.vm)⟩,
      ⟨g, mk, s₂, L, rfl, rfl, hqc, rfl, hL, rfl, rfl⟩, ?_⟩
    show Steps p.tables e below _ ((({ U with heap := s₂.heap, slotsUsed := s₂.slotsUsed } : State).setVm s₂.vm).setTop { g with pc := g.pc + len₂, stack := v.toList ++ g.stack })
    rw [← hs₂]
    exact hsteps
  · obtain ⟨e2, q2, q3, q4, q5, q6⟩ := id hsm
    have e3 : s₂ = ({ (U.calling g mk a).setFrames s₂.frames with heap := s₂.heap, slotsUsed := s₂.slotsUsed } : State).setVm s₂.vm := by
      have : s₂ = ({ s₂ with vm := (U.calling g mk a).vm } : State).setVm s₂.vm := rfl
      rw [e2] at this
      exact this
    have hf₂ : s₂.frames = .throwing q :: .java g :: U.frames.tail := hend
    have hW' : U.WarmedH s₂.vm := hW₂
    have hs₂ : s₂ = ((({ U with heap := s₂.heap, slotsUsed := s₂.slotsUsed } : State).setVm s₂.vm).setTop g).pushFrame (.throwing q) := by
      refine e3.trans ?_
      rw [hf₂, State.calling_eq h.top, State.setFrames_setFrames, State.pushFrame, State.frames_setTop _ hr', State.setTop_of_frames _ hr', State.setFrames_setFrames, hr]
      rfl
    have hsame : U.sameButNew ({ U with heap := s₂.heap, slotsUsed := s₂.slotsUsed } : State) L mc ms := by
      refine ⟨?_, q2, q3, q4, q5, q6⟩
      obtain ⟨t, ht, -⟩ := State.frames_cons hr
      show ({ U with heap := s₂.heap, slotsUsed := s₂.slotsUsed } : State) = { U.setFrames U.frames with heap := s₂.heap, slotsUsed := s₂.slotsUsed }
      rw [State.setFrames_self ht]
    subst hg
    refine Or.inr ⟨q, ⟨(({ U with heap := s₂.heap, slotsUsed := s₂.slotsUsed } : State).setVm s₂.vm), Ls ++ L, c0 + mc, s0 + ms⟩,
      ⟨X.admits, X.cas, X.clock, X.frames, X.room, X.hears, X.method, X.code, (X.here.setHeapUsed s₂.heap s₂.slotsUsed).setVm hW'.alike, X.tail, State.WarmedH.trans X.warmed hW', X.limits, X.bytes, X.same.trans (hsame.setVm s.vm)⟩,
      ⟨g, mk, s₂, L, E, ce, rfl, rfl, hx, hce, hcv, hcl, rfl, hL, rfl, rfl⟩, ?_⟩
    show Steps p.tables e below _ (((({ U with heap := s₂.heap, slotsUsed := s₂.slotsUsed } : State).setVm s₂.vm).setTop g).pushFrame (.throwing q))
    rw [← hs₂]
    exact hsteps
end Payer
section Calls
variable {p : Program} {l : Launch} {e : Env} {R : Room} {s : State} {m : MethodId} {args : Array Value} {below : List Frame} {meth : Method} {c : Code} {T : State} {locs : List Loc} {cells slots : Nat}
theorem vx_callV (X : Stand p l e R s m args below meth c T locs cells slots) (hexec : p.tables.exec = Jvm.exec) {own C : String} {index : Nat} {y : MethodName} {bytes : ByteArray} {maxL : Nat} {ret : Option FieldType}
    (hown : s.vm.findClass own = some m.cls) (hlink : (Cond.methodLink own index y).before args s = true) (hinst : (Cond.instanceMethod y).before args s = true) (hsel : (Cond.selects C y y).before args s = true)
    (hcode : (Cond.code y bytes maxL ret).before args s = true) (hy : y.cls ≠ "java/lang/invoke/MethodHandle" ∧ y.cls ≠ "java/lang/invoke/VarHandle")
    {W9 : Nat} {Pre : Pt → Array Value → Prop} {Post : Pt → Array Value → Option Value → Pt → Prop} {PostX : Pt → Array Value → Addr → Pt → Prop} (hK : vx_Back l R p e below s args y 3 W9 Pre Post PostX)
    {b : Addr} {cellB : Cell} (hcell : T.heap[b]? = some cellB) (hobj : cellB.vm.isStatics = false) (hcls : s.vm.findClass C = some cellB.cls)
    {g : JFrame} (hg : g.method = m) (hsize : g.locals.size = c.maxLocals) {argsL rest : List Value} (hlen : ∀ sig, parseMethodDescriptor y.desc = some sig → argsL.length = sig.parameters.length)
    (hstack : g.stack = argsL.reverse ++ .ref b :: rest) (hW : 2 * g.monitorRoom + (rest.map fun v => v.category).sum ≤ W9) (hdg : decode c.code g.pc = .ok (.invokevirtual index, 3))
    (hpre : ∀ vm₁, s.WarmedH vm₁ → Pre ⟨T.setVm vm₁, locs, cells, slots⟩ (Value.ref b :: argsL).toArray) :
    (∃ (v : Option Value) (vm₁ : Vm) (B : Pt), s.WarmedH vm₁ ∧ Stand p l e R s m args below meth c B.U B.locs B.cells B.slots ∧ Post ⟨T.setVm vm₁, locs, cells, slots⟩ (Value.ref b :: argsL).toArray v B ∧
      ∀ target, Steps p.tables e below (B.U.setTop { g with pc := g.pc + 3, stack := v.toList ++ rest }) target → Steps p.tables e below (T.setTop g) target) ∨
    (∃ (q : Addr) (vm₁ : Vm) (B : Pt), s.WarmedH vm₁ ∧ Stand p l e R s m args below meth c B.U B.locs B.cells B.slots ∧ PostX ⟨T.setVm vm₁, locs, cells, slots⟩ (Value.ref b :: argsL).toArray q B ∧
      Steps p.tables e below (T.setTop g) ((B.U.setTop { g with stack := rest }).pushFrame (.throwing q))) := by
  obtain ⟨mk, methM, hnamed, hmethM, hstM, habM⟩ := Cond.instanceMethod_spec hinst
  obtain ⟨methM', cM, hmethM', -, -, -, -, -, -, hsigM⟩ := Cond.code_spec hnamed hcode
  cases hmethM.symm.trans hmethM'
  obtain ⟨c2, r2, m2, q1, q2, q3, q4, kP, hkP, hkPi⟩ := Cond.selects_spec hsel
  cases hcls.symm.trans q1
  cases (State.methodFound?_of_named hnamed hy).symm.trans q2
  cases hnamed.symm.trans q3
  have hselP : selectMethod e.platform s.vm cellB.cls mk = .method mk := by rw [Launch.admits_selectMethod X.admits]; exact q4
  obtain ⟨vm₁, X₁, hstep₁⟩ := X.invokevirtual hexec hown hlink hnamed hmethM hstM hkP hkPi hy (a := b) (cell := cellB) hcell
    (fun z h => by rw [h] at hobj; cases hobj) hselP hmethM habM hkP hkPi (g := g) hg (argsL := argsL) (rest := rest) (hlen _ hsigM) hstack hdg
  rcases hK m meth c ⟨T.setVm vm₁, locs, cells, slots⟩ { g with stack := rest } (.invokevirtual index) mk (Value.ref b :: argsL).toArray X₁ hg hsize hdg hW (X₁.named hnamed) (hpre vm₁ X₁.warmed) with ⟨v, B, X', hpost, hsteps⟩ | ⟨q, B, X', hpost, hsteps⟩
  · exact Or.inl ⟨v, vm₁, B, X₁.warmed, X', hpost, fun target h => hstep₁ _ fun acts => by rw [doInvoke_state]; exact hsteps.trans h⟩
  · exact Or.inr ⟨q, vm₁, B, X₁.warmed, X', hpost, hstep₁ _ fun acts => by rw [doInvoke_state]; exact hsteps⟩
theorem vx_callS (X : Stand p l e R s m args below meth c T locs cells slots) (hexec : p.tables.exec = Jvm.exec) {own : String} {index : Nat} {y : MethodName} {bytes : ByteArray} {maxL : Nat} {ret : Option FieldType}
    (hown : s.vm.findClass own = some m.cls) (hlink : (Cond.methodLink own index y).before args s = true) (hstat : (Cond.static y).before args s = true) (hinit : (Cond.initialized y.cls).before args s = true)
    (hcode : (Cond.code y bytes maxL ret).before args s = true) (hy : y.cls ≠ "java/lang/invoke/MethodHandle" ∧ y.cls ≠ "java/lang/invoke/VarHandle")
    {W9 : Nat} {Pre : Pt → Array Value → Prop} {Post : Pt → Array Value → Option Value → Pt → Prop} {PostX : Pt → Array Value → Addr → Pt → Prop} (hK : vx_Back l R p e below s args y 3 W9 Pre Post PostX)
    {g : JFrame} (hg : g.method = m) (hsize : g.locals.size = c.maxLocals) {argsL rest : List Value} (hlen : ∀ sig, parseMethodDescriptor y.desc = some sig → argsL.length = sig.parameters.length)
    (hstack : g.stack = argsL.reverse ++ rest) (hW : 2 * g.monitorRoom + (rest.map fun v => v.category).sum ≤ W9) (hdg : decode c.code g.pc = .ok (.invokestatic index, 3))
    (hpre : ∀ vm₁, s.WarmedH vm₁ → Pre ⟨T.setVm vm₁, locs, cells, slots⟩ argsL.toArray) :
    (∃ (v : Option Value) (vm₁ : Vm) (B : Pt), s.WarmedH vm₁ ∧ Stand p l e R s m args below meth c B.U B.locs B.cells B.slots ∧ Post ⟨T.setVm vm₁, locs, cells, slots⟩ argsL.toArray v B ∧
      ∀ target, Steps p.tables e below (B.U.setTop { g with pc := g.pc + 3, stack := v.toList ++ rest }) target → Steps p.tables e below (T.setTop g) target) ∨
    (∃ (q : Addr) (vm₁ : Vm) (B : Pt), s.WarmedH vm₁ ∧ Stand p l e R s m args below meth c B.U B.locs B.cells B.slots ∧ PostX ⟨T.setVm vm₁, locs, cells, slots⟩ argsL.toArray q B ∧
      Steps p.tables e below (T.setTop g) ((B.U.setTop { g with stack := rest }).pushFrame (.throwing q))) := by
  obtain ⟨mk, hnamed⟩ := Cond.code_named hcode
  obtain ⟨methM, cM, hmethM, -, -, -, -, -, -, hsigM⟩ := Cond.code_spec hnamed hcode
  have hstatic : methM.isStatic = true := Cond.static_spec hnamed hmethM hstat
  obtain ⟨kP, hkP, -⟩ := className_of_methodNamed hnamed
  have hinitP : kP.init = .initialized := Cond.initialized_spec (findClass_of_methodNamed hnamed) hkP hinit
  obtain ⟨vm₁, X₁, hstep₁⟩ := X.invokestatic hexec hown hlink hnamed hmethM hstatic hkP hinitP hy (g := g) hg (argsL := argsL) (rest := rest) (hlen _ hsigM) hstack hdg
  rcases hK m meth c ⟨T.setVm vm₁, locs, cells, slots⟩ { g with stack := rest } (.invokestatic index) mk argsL.toArray X₁ hg hsize hdg hW (X₁.named hnamed) (hpre vm₁ X₁.warmed) with ⟨v, B, X', hpost, hsteps⟩ | ⟨q, B, X', hpost, hsteps⟩
  · exact Or.inl ⟨v, vm₁, B, X₁.warmed, X', hpost, fun target h => hstep₁ _ fun acts => by rw [doInvoke_state]; exact hsteps.trans h⟩
  · exact Or.inr ⟨q, vm₁, B, X₁.warmed, X', hpost, hstep₁ _ fun acts => by rw [doInvoke_state]; exact hsteps⟩
end Calls
theorem vx_cls {s : State} {T : State} {vm₁ : Vm} {E : String} {k : ClassId} (hW : s.WarmedH vm₁) (h : (T.setVm vm₁).vm.findClass E = some k) : s.vm.findClass E = some k := by
  have h1 : vm₁.findClass E = some k := h
  rw [hW.alike.findClass] at h1
  exact h1
/-- the method's frame g, with q thrown over it -/
def vx_W (p : Program) (l : Launch) (e : Env) (R : Room) (s : State) (m : MethodId) (args : Array Value) (below : List Frame) (meth : Method) (c : Code) (H : Heap) (locs : List Loc) (cells slots : Nat) (Q : State → Prop) (g : JFrame) (q : Addr) : Prop :=
  ∀ T : State, T.heap = H → Stand p l e R s m args below meth c T locs cells slots → ∃ t, Steps p.tables e below ((T.setTop g).pushFrame (.throwing q)) t ∧ Q t
def vx_Run (p : Program) (l : Launch) (e : Env) (R : Room) (s : State) (m : MethodId) (args : Array Value) (below : List Frame) (meth : Method) (c : Code) (H : Heap) (locs : List Loc) (cells slots mc ms : Nat) (g : JFrame) (rest : List Value) (Qa : State → Outcome → State → Prop) (XC : String → State → State → Prop) (free : Addr → Prop) : Prop :=
  ∀ T : State, T.heap = H → Stand p l e R s m args below meth c T locs cells slots →
    (∃ (v : Option Value) (st₀ t T' : State) (L : List Loc), st₀.heap = H ∧ Stand p l e R s m args below meth c T' (locs ++ L) (cells + mc) (slots + ms) ∧ (∀ q ∈ L, free q.base) ∧ T'.heap = t.heap ∧ T'.vm = t.vm ∧ Qa st₀ (.returned v) t ∧
      Goes p e below T g T' { g with pc := g.pc + 3, stack := v.toList ++ rest }) ∨
    (∃ (q : Addr) (st₀ t T' : State) (L : List Loc) (E : String) (ce : Cell), st₀.heap = H ∧ Stand p l e R s m args below meth c T' (locs ++ L) (cells + mc) (slots + ms) ∧ (∀ z ∈ L, free z.base) ∧ T'.heap = t.heap ∧ T'.vm = t.vm ∧ XC E st₀ t ∧ t.heap[q]? = some ce ∧ ce.vm = .none ∧ s.vm.findClass E = some ce.cls ∧
      Steps p.tables e below (T.setTop g) ((T'.setTop { g with stack := rest }).pushFrame (.throwing q)))
def vx_X {S : Type} (px : S → Prop) (B : String → S → State → Prop) (A : Nat → Prop) : String → State → State → Prop := fun E st t => ∃ u : S, px u ∧ B E u t ∧ va_F A st t
section Runs
variable {p : Program} {l : Launch} {e : Env} {R : Room} {s : State} {m : MethodId} {args : Array Value} {below : List Frame} {meth : Method} {c : Code} {H : Heap} {locs : List Loc} {cells slots : Nat}
variable {y : MethodName} {bytes cc : ByteArray} {maxL nL mc ms n index : Nat} {ret : Option FieldType} {ws : List Cond} {rm : Room} {Pc : Array Value → State → Prop} {Qc : Array Value → State → Outcome → State → Prop} {XC : String → State → State → Prop} {free : Addr → Prop} {Ts : List Cond} {own C : String} {b : Addr} {As rest : List Value} {g : JFrame}
theorem vx_callBack (cb : CallB R s args own index y bytes maxL ret ws rm mc ms n) (hM : vx_Met l y ws rm Pc Qc XC mc ms free) (hbl : FrameBlind Pc) : vx_Back l R p e below s args y 3 8 (PreOf R mc ms Pc) (PostOf Qc mc ms free) (vx_Post XC mc ms free) := by
  obtain ⟨hrc, hrs, hfr, hlo, hws, hcw, -, hini, -⟩ := cb
  exact vx_back (bytes := bytes) (maxL := maxL) (ret := ret) hM hbl hrc hrs hfr hlo hws hcw (fun a' U hW => word_at hW (Or.inl (by first | rfl | simp [Cond.onTables, Cond.keeps, Cond.steady])) hini)
theorem vx_runV (S : CallFix p m c cc nL s args Ts own) (hM : vx_Met l y ws rm Pc Qc XC mc ms free) (cw : CallW R s args own C index y bytes maxL ret ws rm mc ms n) (hp : PreV s H C b Pc As)
    (hg : g.method = m) (hn : As.length = n) (hsize : g.locals.size = nL) (hstack : g.stack = As.reverse ++ .ref b :: rest) (hW : 2 * g.monitorRoom + (rest.map fun v => v.category).sum ≤ 8) (hdg : decode cc g.pc = .ok (.invokevirtual index, 3)) (hf : cells + mc ≤ R.cells ∧ slots + ms ≤ R.slots) :
    vx_Run p l e R s m args below meth c H locs cells slots mc ms g rest (Qc (Value.ref b :: As).toArray) XC free := by
  have hK : vx_Back l R p e below s args y 3 8 (PreOf R mc ms Pc) (PostOf Qc mc ms free) (vx_Post XC mc ms free) := vx_callBack cw.1 hM hp.1
  obtain ⟨⟨-, -, -, -, -, -, hcode, -, hy, hlen, hl⟩, hin, hse⟩ := cw
  obtain ⟨hx, hb, hml, ho, -⟩ := S
  obtain ⟨-, ⟨cellB, hcB, hoB, hclB⟩, hPc⟩ := hp
  intro T hT X
  rcases vx_callV X hx (C := C) (bytes := bytes) (maxL := maxL) (ret := ret) ho hl hin hse hcode hy hK (by rw [hT]; exact hcB) hoB hclB hg (hsize.trans hml.symm) (argsL := As) (rest := rest) (fun sig h => hn.trans (hlen sig h)) hstack hW (by rw [hb]; exact hdg)
    (fun vm₁ hW₁ => ⟨hf.1, hf.2, hPc (T.setVm vm₁) hT hW₁⟩) with ⟨v, vm₁, ⟨U', l2, c2, s2⟩, hW₁, X', ⟨g', mk, t, L, e1, e2, hq, h1, hL, h2, h3⟩, st⟩ | ⟨q, vm₁, ⟨U', l2, c2, s2⟩, hW₁, X', ⟨g', mk, t, L, E, ce, e1, e2, hq, hce, hcv, hcl, h1, hL, h2, h3⟩, st⟩
  · dsimp only [Pt.U, Pt.locs, Pt.cells, Pt.slots] at X' e1 e2 h1 h2 h3 st
    subst h1; subst h2; subst h3
    exact Or.inl ⟨v, (T.setVm vm₁).calling g' mk (Value.ref b :: As).toArray, t, U', L, hT, X', hL, e1, e2, hq, st⟩
  · dsimp only [Pt.U, Pt.locs, Pt.cells, Pt.slots] at X' e1 e2 h1 h2 h3 st hcl
    subst h1; subst h2; subst h3
    exact Or.inr ⟨q, (T.setVm vm₁).calling g' mk (Value.ref b :: As).toArray, t, U', L, E, ce, hT, X', hL, e1, e2, hq, hce, hcv, vx_cls hW₁ hcl, st⟩
theorem vx_runS (S : CallFix p m c cc nL s args Ts own) (hM : vx_Met l y ws rm Pc Qc XC mc ms free) (cw : CallB R s args own index y bytes maxL ret ws rm mc ms n ∧ (Cond.static y).before args s = true) (hp : PreS s H Pc As)
    (hg : g.method = m) (hn : As.length = n) (hsize : g.locals.size = nL) (hstack : g.stack = As.reverse ++ rest) (hW : 2 * g.monitorRoom + (rest.map fun v => v.category).sum ≤ 8) (hdg : decode cc g.pc = .ok (.invokestatic index, 3)) (hf : cells + mc ≤ R.cells ∧ slots + ms ≤ R.slots) :
    vx_Run p l e R s m args below meth c H locs cells slots mc ms g rest (Qc As.toArray) XC free := by
  have hK : vx_Back l R p e below s args y 3 8 (PreOf R mc ms Pc) (PostOf Qc mc ms free) (vx_Post XC mc ms free) := vx_callBack cw.1 hM hp.1
  obtain ⟨⟨-, -, -, -, -, -, hcode, hini, hy, hlen, hl⟩, hstt⟩ := cw
  obtain ⟨hx, hb, hml, ho, -⟩ := S
  intro T hT X
  rcases vx_callS X hx (bytes := bytes) (maxL := maxL) (ret := ret) ho hl hstt hini hcode hy hK hg (hsize.trans hml.symm) (argsL := As) (rest := rest) (fun sig h => hn.trans (hlen sig h)) hstack hW (by rw [hb]; exact hdg)
    (fun vm₁ hW₁ => ⟨hf.1, hf.2, hp.2 (T.setVm vm₁) hT hW₁⟩) with ⟨v, vm₁, ⟨U', l2, c2, s2⟩, hW₁, X', ⟨g', mk, t, L, e1, e2, hq, h1, hL, h2, h3⟩, st⟩ | ⟨q, vm₁, ⟨U', l2, c2, s2⟩, hW₁, X', ⟨g', mk, t, L, E, ce, e1, e2, hq, hce, hcv, hcl, h1, hL, h2, h3⟩, st⟩
  · dsimp only [Pt.U, Pt.locs, Pt.cells, Pt.slots] at X' e1 e2 h1 h2 h3 st
    subst h1; subst h2; subst h3
    exact Or.inl ⟨v, (T.setVm vm₁).calling g' mk As.toArray, t, U', L, hT, X', hL, e1, e2, hq, st⟩
  · dsimp only [Pt.U, Pt.locs, Pt.cells, Pt.slots] at X' e1 e2 h1 h2 h3 st hcl
    subst h1; subst h2; subst h3
    exact Or.inr ⟨q, (T.setVm vm₁).calling g' mk As.toArray, t, U', L, E, ce, hT, X', hL, e1, e2, hq, hce, hcv, vx_cls hW₁ hcl, st⟩
end Runs
section Rows
variable {p : Program} {l : Launch} {e : Env} {R : Room} {s : State} {m : MethodId} {args : Array Value} {below : List Frame} {meth : Method} {c : Code} {H : Heap} {locs : List Loc} {cells slots : Nat} {Q : State → Prop}
variable {mc ms : Nat} {free : Addr → Prop} {A0 A1 : Nat → Prop} {H0 : Heap} {a : Array Value} {pc : Nat} {ls : Array Slot} {st0 rest : List Value}
theorem vx_keep {st₀ t T' : State} {L : List Loc} (h0 : st₀.heap = H) (e1 : T'.heap = t.heap) (hS : va_S A0 H0 H locs) (hA : ∀ q, q < H.size → A1 q → A0 q) (hf : ∀ q, free q → A0 q) (hL : ∀ q ∈ L, free q.base) (hF : va_F A1 st₀ t) :
    H.size ≤ T'.heap.size ∧ (∀ q : Nat, q < H.size → ¬ A1 q → T'.heap[q]? = H[q]?) ∧ va_S A0 H0 T'.heap (locs ++ L) := by
  obtain ⟨hz, hk⟩ := hF
  rw [h0] at hz hk
  exact ⟨by rw [e1]; exact hz, fun q h1 h2 => by rw [e1]; exact hk q h1 h2,
    ⟨Nat.le_trans hS.1 (by rw [e1]; exact hz), fun q h1 h2 => by rw [e1, hk q (Nat.lt_of_lt_of_le h1 hS.1) (fun z => h2 (hA q (Nat.lt_of_lt_of_le h1 hS.1) z))]; exact hS.2.1 q h1 h2, fun q hq => by
      rcases List.mem_append.mp hq with h | h
      · exact hS.2.2 q h
      · exact hf _ (hL q h)⟩⟩
theorem vx_calli {S SX : Type} {post : Int32 → S → Prop} {px : SX → Prop} {B : S → State → Prop} {BX : String → SX → State → Prop} {AX : Nat → Prop} (hr : vx_Run p l e R s m args below meth c H locs cells slots mc ms (F0 m pc ls st0) rest (va_Qi post B A1 a) (vx_X px BX AX) free) (hS : va_S A0 H0 H locs) (hA : ∀ q, q < H.size → A1 q → A0 q) (hf : ∀ q, free q → A0 q) (hAX : ∀ q, q < H.size → AX q → A0 q)
    (kx : ∀ (E : String) (ce : Cell) (q9 : Addr) (u : SX) (t : State) (H1 : Heap) (locs1 : List Loc), t.heap = H1 → s.vm.Alike t.vm → px u → BX E u t → H.size ≤ H1.size → (∀ q : Nat, q < H.size → ¬ AX q → H1[q]? = H[q]?) → va_S A0 H0 H1 locs1 → H1[q9]? = some ce → ce.vm = .none → s.vm.findClass E = some ce.cls → vx_W p l e R s m args below meth c H1 locs1 (cells + mc) (slots + ms) Q (F0 m pc ls rest) q9)
    (kk : ∀ (r : Int32) (u : S) (t : State) (H1 : Heap) (locs1 : List Loc), t.heap = H1 → s.vm.Alike t.vm → post r u → B u t → H.size ≤ H1.size → (∀ q : Nat, q < H.size → ¬ A1 q → H1[q]? = H[q]?) → va_S A0 H0 H1 locs1 → W p l e R s m args below meth c H1 locs1 (cells + mc) (slots + ms) Q (F0 m (pc + 3) ls (.int r :: rest))) : W p l e R s m args below meth c H locs cells slots Q (F0 m pc ls st0) := by
  intro T hT X
  rcases hr T hT X with ⟨v, st₀, t, T', L, h0, X', hL, e1, e2, ⟨⟨r, u, hv, hp, hb⟩, hF⟩, st⟩ | ⟨q, st₀, t, T', L, E, ce, h0, X', hL, e1, e2, ⟨u, hp, hb, hF⟩, hce, hcv, hcl, st⟩
  · cases hv
    obtain ⟨k1, k2, k3⟩ := vx_keep h0 e1 hS hA hf hL hF
    obtain ⟨t2, a1, b1⟩ := kk r u t T'.heap (locs ++ L) e1.symm (by rw [← e2]; exact X'.warmed.alike) hp hb k1 k2 k3 T' rfl X'
    exact ⟨t2, st t2 a1, b1⟩
  · obtain ⟨k1, k2, k3⟩ := vx_keep h0 e1 hS hAX hf hL hF
    obtain ⟨t2, a1, b1⟩ := kx E ce q u t T'.heap (locs ++ L) e1.symm (by rw [← e2]; exact X'.warmed.alike) hp hb k1 k2 k3 (by rw [e1]; exact hce) hcv hcl T' rfl X'
    exact ⟨t2, st.trans a1, b1⟩
theorem vx_calll {S SX : Type} {post : Int64 → S → Prop} {px : SX → Prop} {B : S → State → Prop} {BX : String → SX → State → Prop} {AX : Nat → Prop} (hr : vx_Run p l e R s m args below meth c H locs cells slots mc ms (F0 m pc ls st0) rest (va_Ql post B A1 a) (vx_X px BX AX) free) (hS : va_S A0 H0 H locs) (hA : ∀ q, q < H.size → A1 q → A0 q) (hf : ∀ q, free q → A0 q) (hAX : ∀ q, q < H.size → AX q → A0 q)
    (kx : ∀ (E : String) (ce : Cell) (q9 : Addr) (u : SX) (t : State) (H1 : Heap) (locs1 : List Loc), t.heap = H1 → s.vm.Alike t.vm → px u → BX E u t → H.size ≤ H1.size → (∀ q : Nat, q < H.size → ¬ AX q → H1[q]? = H[q]?) → va_S A0 H0 H1 locs1 → H1[q9]? = some ce → ce.vm = .none → s.vm.findClass E = some ce.cls → vx_W p l e R s m args below meth c H1 locs1 (cells + mc) (slots + ms) Q (F0 m pc ls rest) q9)
    (kk : ∀ (r : Int64) (u : S) (t : State) (H1 : Heap) (locs1 : List Loc), t.heap = H1 → s.vm.Alike t.vm → post r u → B u t → H.size ≤ H1.size → (∀ q : Nat, q < H.size → ¬ A1 q → H1[q]? = H[q]?) → va_S A0 H0 H1 locs1 → W p l e R s m args below meth c H1 locs1 (cells + mc) (slots + ms) Q (F0 m (pc + 3) ls (.long r :: rest))) : W p l e R s m args below meth c H locs cells slots Q (F0 m pc ls st0) := by
  intro T hT X
  rcases hr T hT X with ⟨v, st₀, t, T', L, h0, X', hL, e1, e2, ⟨⟨r, u, hv, hp, hb⟩, hF⟩, st⟩ | ⟨q, st₀, t, T', L, E, ce, h0, X', hL, e1, e2, ⟨u, hp, hb, hF⟩, hce, hcv, hcl, st⟩
  · cases hv
    obtain ⟨k1, k2, k3⟩ := vx_keep h0 e1 hS hA hf hL hF
    obtain ⟨t2, a1, b1⟩ := kk r u t T'.heap (locs ++ L) e1.symm (by rw [← e2]; exact X'.warmed.alike) hp hb k1 k2 k3 T' rfl X'
    exact ⟨t2, st t2 a1, b1⟩
  · obtain ⟨k1, k2, k3⟩ := vx_keep h0 e1 hS hAX hf hL hF
    obtain ⟨t2, a1, b1⟩ := kx E ce q u t T'.heap (locs ++ L) e1.symm (by rw [← e2]; exact X'.warmed.alike) hp hb k1 k2 k3 (by rw [e1]; exact hce) hcv hcl T' rfl X'
    exact ⟨t2, st.trans a1, b1⟩
theorem vx_callf {S SX : Type} {post : UInt32 → S → Prop} {px : SX → Prop} {B : S → State → Prop} {BX : String → SX → State → Prop} {AX : Nat → Prop} (hr : vx_Run p l e R s m args below meth c H locs cells slots mc ms (F0 m pc ls st0) rest (va_Qf post B A1 a) (vx_X px BX AX) free) (hS : va_S A0 H0 H locs) (hA : ∀ q, q < H.size → A1 q → A0 q) (hf : ∀ q, free q → A0 q) (hAX : ∀ q, q < H.size → AX q → A0 q)
    (kx : ∀ (E : String) (ce : Cell) (q9 : Addr) (u : SX) (t : State) (H1 : Heap) (locs1 : List Loc), t.heap = H1 → s.vm.Alike t.vm → px u → BX E u t → H.size ≤ H1.size → (∀ q : Nat, q < H.size → ¬ AX q → H1[q]? = H[q]?) → va_S A0 H0 H1 locs1 → H1[q9]? = some ce → ce.vm = .none → s.vm.findClass E = some ce.cls → vx_W p l e R s m args below meth c H1 locs1 (cells + mc) (slots + ms) Q (F0 m pc ls rest) q9)
    (kk : ∀ (r : UInt32) (u : S) (t : State) (H1 : Heap) (locs1 : List Loc), t.heap = H1 → s.vm.Alike t.vm → post r u → B u t → H.size ≤ H1.size → (∀ q : Nat, q < H.size → ¬ A1 q → H1[q]? = H[q]?) → va_S A0 H0 H1 locs1 → W p l e R s m args below meth c H1 locs1 (cells + mc) (slots + ms) Q (F0 m (pc + 3) ls (.float r :: rest))) : W p l e R s m args below meth c H locs cells slots Q (F0 m pc ls st0) := by
  intro T hT X
  rcases hr T hT X with ⟨v, st₀, t, T', L, h0, X', hL, e1, e2, ⟨⟨r, u, hv, hp, hb⟩, hF⟩, st⟩ | ⟨q, st₀, t, T', L, E, ce, h0, X', hL, e1, e2, ⟨u, hp, hb, hF⟩, hce, hcv, hcl, st⟩
  · cases hv
    obtain ⟨k1, k2, k3⟩ := vx_keep h0 e1 hS hA hf hL hF
    obtain ⟨t2, a1, b1⟩ := kk r u t T'.heap (locs ++ L) e1.symm (by rw [← e2]; exact X'.warmed.alike) hp hb k1 k2 k3 T' rfl X'
    exact ⟨t2, st t2 a1, b1⟩
  · obtain ⟨k1, k2, k3⟩ := vx_keep h0 e1 hS hAX hf hL hF
    obtain ⟨t2, a1, b1⟩ := kx E ce q u t T'.heap (locs ++ L) e1.symm (by rw [← e2]; exact X'.warmed.alike) hp hb k1 k2 k3 (by rw [e1]; exact hce) hcv hcl T' rfl X'
    exact ⟨t2, st.trans a1, b1⟩
theorem vx_calld {S SX : Type} {post : UInt64 → S → Prop} {px : SX → Prop} {B : S → State → Prop} {BX : String → SX → State → Prop} {AX : Nat → Prop} (hr : vx_Run p l e R s m args below meth c H locs cells slots mc ms (F0 m pc ls st0) rest (va_Qd post B A1 a) (vx_X px BX AX) free) (hS : va_S A0 H0 H locs) (hA : ∀ q, q < H.size → A1 q → A0 q) (hf : ∀ q, free q → A0 q) (hAX : ∀ q, q < H.size → AX q → A0 q)
    (kx : ∀ (E : String) (ce : Cell) (q9 : Addr) (u : SX) (t : State) (H1 : Heap) (locs1 : List Loc), t.heap = H1 → s.vm.Alike t.vm → px u → BX E u t → H.size ≤ H1.size → (∀ q : Nat, q < H.size → ¬ AX q → H1[q]? = H[q]?) → va_S A0 H0 H1 locs1 → H1[q9]? = some ce → ce.vm = .none → s.vm.findClass E = some ce.cls → vx_W p l e R s m args below meth c H1 locs1 (cells + mc) (slots + ms) Q (F0 m pc ls rest) q9)
    (kk : ∀ (r : UInt64) (u : S) (t : State) (H1 : Heap) (locs1 : List Loc), t.heap = H1 → s.vm.Alike t.vm → post r u → B u t → H.size ≤ H1.size → (∀ q : Nat, q < H.size → ¬ A1 q → H1[q]? = H[q]?) → va_S A0 H0 H1 locs1 → W p l e R s m args below meth c H1 locs1 (cells + mc) (slots + ms) Q (F0 m (pc + 3) ls (.double r :: rest))) : W p l e R s m args below meth c H locs cells slots Q (F0 m pc ls st0) := by
  intro T hT X
  rcases hr T hT X with ⟨v, st₀, t, T', L, h0, X', hL, e1, e2, ⟨⟨r, u, hv, hp, hb⟩, hF⟩, st⟩ | ⟨q, st₀, t, T', L, E, ce, h0, X', hL, e1, e2, ⟨u, hp, hb, hF⟩, hce, hcv, hcl, st⟩
  · cases hv
    obtain ⟨k1, k2, k3⟩ := vx_keep h0 e1 hS hA hf hL hF
    obtain ⟨t2, a1, b1⟩ := kk r u t T'.heap (locs ++ L) e1.symm (by rw [← e2]; exact X'.warmed.alike) hp hb k1 k2 k3 T' rfl X'
    exact ⟨t2, st t2 a1, b1⟩
  · obtain ⟨k1, k2, k3⟩ := vx_keep h0 e1 hS hAX hf hL hF
    obtain ⟨t2, a1, b1⟩ := kx E ce q u t T'.heap (locs ++ L) e1.symm (by rw [← e2]; exact X'.warmed.alike) hp hb k1 k2 k3 (by rw [e1]; exact hce) hcv hcl T' rfl X'
    exact ⟨t2, st.trans a1, b1⟩
theorem vx_callv {S SX : Type} {post : S → Prop} {px : SX → Prop} {B : S → State → Prop} {BX : String → SX → State → Prop} {AX : Nat → Prop} (hr : vx_Run p l e R s m args below meth c H locs cells slots mc ms (F0 m pc ls st0) rest (va_Qv post B A1 a) (vx_X px BX AX) free) (hS : va_S A0 H0 H locs) (hA : ∀ q, q < H.size → A1 q → A0 q) (hf : ∀ q, free q → A0 q) (hAX : ∀ q, q < H.size → AX q → A0 q)
    (kx : ∀ (E : String) (ce : Cell) (q9 : Addr) (u : SX) (t : State) (H1 : Heap) (locs1 : List Loc), t.heap = H1 → s.vm.Alike t.vm → px u → BX E u t → H.size ≤ H1.size → (∀ q : Nat, q < H.size → ¬ AX q → H1[q]? = H[q]?) → va_S A0 H0 H1 locs1 → H1[q9]? = some ce → ce.vm = .none → s.vm.findClass E = some ce.cls → vx_W p l e R s m args below meth c H1 locs1 (cells + mc) (slots + ms) Q (F0 m pc ls rest) q9)
    (kk : ∀ (u : S) (t : State) (H1 : Heap) (locs1 : List Loc), t.heap = H1 → s.vm.Alike t.vm → post u → B u t → H.size ≤ H1.size → (∀ q : Nat, q < H.size → ¬ A1 q → H1[q]? = H[q]?) → va_S A0 H0 H1 locs1 → W p l e R s m args below meth c H1 locs1 (cells + mc) (slots + ms) Q (F0 m (pc + 3) ls (rest))) : W p l e R s m args below meth c H locs cells slots Q (F0 m pc ls st0) := by
  intro T hT X
  rcases hr T hT X with ⟨v, st₀, t, T', L, h0, X', hL, e1, e2, ⟨⟨u, hv, hp, hb⟩, hF⟩, st⟩ | ⟨q, st₀, t, T', L, E, ce, h0, X', hL, e1, e2, ⟨u, hp, hb, hF⟩, hce, hcv, hcl, st⟩
  · cases hv
    obtain ⟨k1, k2, k3⟩ := vx_keep h0 e1 hS hA hf hL hF
    obtain ⟨t2, a1, b1⟩ := kk u t T'.heap (locs ++ L) e1.symm (by rw [← e2]; exact X'.warmed.alike) hp hb k1 k2 k3 T' rfl X'
    exact ⟨t2, st t2 a1, b1⟩
  · obtain ⟨k1, k2, k3⟩ := vx_keep h0 e1 hS hAX hf hL hF
    obtain ⟨t2, a1, b1⟩ := kx E ce q u t T'.heap (locs ++ L) e1.symm (by rw [← e2]; exact X'.warmed.alike) hp hb k1 k2 k3 (by rw [e1]; exact hce) hcv hcl T' rfl X'
    exact ⟨t2, st.trans a1, b1⟩
/-- caught by the row x of this method's table; the rows ahead don't take it -/
theorem vx_catch {own name : String} {E : String} {ce : Cell} {q : Addr} (hown : s.vm.findClass own = some m.cls) (pre : List ExceptionTableEntry) (x : ExceptionTableEntry) (suf : List ExceptionTableEntry) (hsplit : c.exceptionTable.toList = pre ++ x :: suf)
    (hpass : ∀ z ∈ pre, covers z pc = false ∨ (z.catchType ≠ 0 ∧ ∃ nm : String, (Cond.classLink own z.catchType nm).before args s = true ∧ va_Nc E nm s)) (hx : covers x pc = true) (h0 : x.catchType ≠ 0)
    (hlink : (Cond.classLink own x.catchType name).before args s = true) (hcast : (Cond.castable E name).before args s = true) (hcell : H[q]? = some ce) (hv : ce.vm = .none) (hcl : s.vm.findClass E = some ce.cls)
    (kk : W p l e R s m args below meth c H locs cells slots Q (F0 m x.handlerPc ls [.ref q])) : vx_W p l e R s m args below meth c H locs cells slots Q (F0 m pc ls rest) q := by
  intro T hT X
  have hpl : e.platform.magicAccessors = ({} : Platform).magicAccessors := by rw [X.admits.platform]
  obtain ⟨c3, c4, hc3, hc4, hasg⟩ := Cond.castable_spec hcast
  cases Option.some.inj (hc3.symm.trans hcl)
  obtain ⟨c5, hc5, hcl5⟩ := Cond.classLink_spec hown hlink e.platform hpl
  cases Option.some.inj (hc4.symm.trans hc5)
  obtain ⟨vm', X', st⟩ := X.thenCaughtThrough q (g := F0 m pc ls rest) rfl (Steps.refl _) (by rw [hT]; exact hcell) (by rw [hv]; rfl) (by obtain ⟨k9, h9, -⟩ := Vm.findClass_spec hcl; exact ⟨k9, h9⟩) pre x suf hsplit
    (fun z hz => by
      rcases hpass z hz with h | ⟨hz0, nm, hl1, hn1⟩
      · exact Or.inl h
      · obtain ⟨c6, hc6, hcl6⟩ := Cond.classLink_spec hown hl1 e.platform hpl
        obtain ⟨a8, b8, h1, h2, h3⟩ := hn1
        cases Option.some.inj (h1.symm.trans hcl)
        cases Option.some.inj (h2.symm.trans hc6)
        exact Or.inr ⟨hz0, _, hcl6, h3⟩) hx (Or.inr ⟨h0, c4, hcl5, hasg⟩)
  obtain ⟨t, a1, b1⟩ := kk (T.setVm vm') hT X'
  exact ⟨t, st.trans a1, b1⟩
end Rows
section Ends
variable {p : Program} {l : Launch} {e : Env} {R : Room} {s : State} {m : MethodId} {args : Array Value} {below : List Frame} {meth : Method} {c : Code} {H : Heap} {locs : List Loc} {cells slots : Nat} {Q : State → Prop}
variable {mc ms : Nat} {free : Addr → Prop} {A0 A1 : Nat → Prop} {H0 : Heap} {a : Array Value} {ls : Array Slot} {st0 rest : List Value}
variable {Qc : Array Value → State → Outcome → State → Prop} {XC : String → State → State → Prop}
/-- what a body that may throw owes at its end -/
def vx_MQ (below : List Frame) (Qc : Array Value → State → Outcome → State → Prop) (XC : String → State → State → Prop) (a : Array Value) (s : State) (mc ms : Nat) (free : Addr → Prop) : State → Prop := fun t =>
  ∃ o, t.status = .running ∧ Ended t below o ∧ vx_Q Qc XC mc ms free a s o t
theorem vx_ret {g : JFrame} {mc ms : Nat} (k : W p l e R s m args below meth c H locs cells slots (MQ below Qc args s mc ms free) g) : W p l e R s m args below meth c H locs cells slots (vx_MQ below Qc XC args s mc ms free) g := by
  intro T hT X
  obtain ⟨t, a1, o, b1, b2, b3, b4⟩ := k T hT X
  exact ⟨t, a1, o, b1, b2, Or.inl ⟨b3, b4⟩⟩
/-- not caught here: it goes on to the caller -/
theorem vx_widen {g : JFrame} {q : Addr} {k n : Nat} (h1 : cells ≤ k) (h2 : slots ≤ n) (kk : vx_W p l e R s m args below meth c H locs k n Q g q) : vx_W p l e R s m args below meth c H locs cells slots Q g q := fun T hT X => kk T hT (stand_widen X h1 h2)
theorem vx_out {pc : Nat} {E : String} {ce : Cell} {q : Addr} {mc ms : Nat} (hout : ∀ x ∈ c.exceptionTable.toList, covers x pc = false) (hlocks : meth.locks = false) (hcell : H[q]? = some ce) (hv : ce.vm = .none) (hcl : s.vm.findClass E = some ce.cls)
    (hx : ∀ t : State, t.heap = H → s.vm.Alike t.vm → XC E s t) (hf : ∀ z ∈ locs, free z.base) (hc : cells ≤ mc) (hs : slots ≤ ms) :
    vx_W p l e R s m args below meth c H locs cells slots (vx_MQ below Qc XC args s mc ms free) (F0 m pc ls rest) q := by
  intro T hT X
  obtain ⟨st1, hrun, hend, hW, hsm⟩ := X.leaveThrown q (g := F0 m pc ls rest) rfl rfl rfl hout hlocks
  have hcell9 : (T.setFrames (.throwing q :: below)).heap[q]? = some ce := by
    show T.heap[q]? = some ce
    rw [hT]; exact hcell
  exact ⟨_, st1, .threw q, hrun, hend, Or.inr ⟨q, rfl, E, ce, locs, hx _ hT hW.alike, hcell9, hv, hcl, hW, hsm.mono hc hs, hf⟩⟩
theorem vx_frame {U : State} {k n : Nat} (h : s.sameButNew ({ U with vm := s.vm } : State) locs k n) : s.heap.size ≤ U.heap.size ∧ ∀ q : Nat, q < s.heap.size → (∀ z ∈ locs, z.base ≠ q) → U.heap[q]? = s.heap[q]? := by
  obtain ⟨-, h2, -, -, -, h6⟩ := h
  refine ⟨h2, fun q hq hz => ?_⟩
  obtain ⟨c9, e1, e2, e3, e4⟩ := h6 q _ (Array.getElem?_eq_getElem hq)
  have hs : c9.slots = (s.heap[q]).slots := Array.ext_getElem? fun i => e4 i fun hm => hz _ hm rfl
  have h9 : c9 = s.heap[q] := by
    rw [hs] at e2
    exact e2
  have e5 : U.heap[q]? = some c9 := e1
  rw [e5, h9, Array.getElem?_eq_getElem hq]
/-- the words of a throw but the four that speak of the heap -/
def vx_no (w : Cond) : Bool := decide (w ≠ .isRef (.static Bundle.tN "UNASSIGNED_STACK" Bundle.steD)) && decide (w ≠ .isRef (.static Bundle.tN "SUPPRESSED_SENTINEL" Bundle.listD)) && decide (w ≠ .laysStatic Bundle.tN "UNASSIGNED_STACK" Bundle.steD) && decide (w ≠ .laysStatic Bundle.tN "SUPPRESSED_SENTINEL" Bundle.listD)
def vx_at0 (own : String) (ic : Nat) (X : String) (names : List String) : List Cond := (Bundle.ownAtoms0 own ic X names).filter vx_no
def vx_atS (own : String) (ic : Nat) (X : String) (names : List String) : List Cond := (Bundle.ownAtoms own ic X names).filter vx_no
/-- a word that the tables alone decide, or a good one -/
def vx_ot (w : Cond) : Bool := w.onTables || goodWord w
theorem vx_ot_at {args a' : Array Value} {s U : State} {w : Cond} (hW : s.WarmedH U.vm) (hvm : s.vm = U.vm) (hg : vx_ot w = true) (h : w.before args s = true) : w.before a' U = true := by
  simp only [vx_ot, Bool.or_eq_true] at hg
  rcases hg with hg | hg
  · exact va_tabs hg hvm h
  · exact word_at hW (good_of_word hg) h
/-- a list's words: the good ones out of the method's own list, the others by premises of their own -/
theorem vx_hat {args : Array Value} {s : State} {L B : List Cond} (h1 : ∀ w ∈ L.filter goodWord, w.before args s = true) (h2 : ∀ w ∈ L.filter (fun w => !goodWord w), w ∈ B) (h3 : ∀ w ∈ B, w.before args s = true) : ∀ w ∈ L, w.before args s = true := by
  intro w hw
  by_cases g : goodWord w = true
  · exact h1 w (List.mem_filter.mpr ⟨hw, g⟩)
  · refine h3 w (h2 w (List.mem_filter.mpr ⟨hw, ?_⟩))
    show (!goodWord w) = true
    cases hgw : goodWord w
    · rfl
    · exact absurd hgw g
theorem vx_c {args : Array Value} {s : State} {w : Cond} {B : List Cond} (h : w.before args s = true) (t : ∀ w ∈ B, w.before args s = true) : ∀ w' ∈ w :: B, w'.before args s = true := fun w' h' => (List.mem_cons.mp h').elim (fun e => by rw [e]; exact h) (t w')
theorem vx_n {args : Array Value} {s : State} : ∀ w ∈ ([] : List Cond), w.before args s = true := fun _ h => nomatch h
theorem vx_own {args : Array Value} {s : State} {L : List Cond} (h1 : ∀ w ∈ L.filter vx_no, w.before args s = true)
    (hU : (Cond.isRef (.static Bundle.tN "UNASSIGNED_STACK" Bundle.steD)).before args s = true) (hN : (Cond.isRef (.static Bundle.tN "SUPPRESSED_SENTINEL" Bundle.listD)).before args s = true)
    (lU : (Cond.laysStatic Bundle.tN "UNASSIGNED_STACK" Bundle.steD).before args s = true) (lN : (Cond.laysStatic Bundle.tN "SUPPRESSED_SENTINEL" Bundle.listD).before args s = true) : ∀ w ∈ L, w.before args s = true := by
  intro w hw
  by_cases e1 : w = .isRef (.static Bundle.tN "UNASSIGNED_STACK" Bundle.steD)
  · rw [e1]; exact hU
  · by_cases e2 : w = .isRef (.static Bundle.tN "SUPPRESSED_SENTINEL" Bundle.listD)
    · rw [e2]; exact hN
    · by_cases e3 : w = .laysStatic Bundle.tN "UNASSIGNED_STACK" Bundle.steD
      · rw [e3]; exact lU
      · by_cases e4 : w = .laysStatic Bundle.tN "SUPPRESSED_SENTINEL" Bundle.listD
        · rw [e4]; exact lN
        · exact h1 w (List.mem_filter.mpr ⟨hw, by unfold vx_no; rw [decide_eq_true e1, decide_eq_true e2, decide_eq_true e3, decide_eq_true e4]; rfl⟩)
/-- where a static field lies, its class's statics cell in H -/
def vx_L (C n d : String) (A : Nat → Prop) (U : State) (H : Heap) : Prop := ∃ (c : ClassId) (k : Class) (i : Nat) (f : Field) (a : Nat) (cell : Cell), U.vm.findClass C = some c ∧ U.fieldFound? C n d = some (c, k, i, f) ∧ f.isStatic = true ∧ k.statics = some a ∧ H[a]? = some cell ∧ cell.vm.isStatics = true ∧ cell.cls = c ∧ f.slot < cell.slots.size ∧ k.staticTypes[f.slot]? = some f.type ∧ ¬ A a
theorem vx_L.moved {C n d : String} {A : Nat → Prop} {u U : State} {H : Heap} (hvm : u.vm.Alike U.vm) (h : vx_L C n d A u H) : vx_L C n d A U H := by
  obtain ⟨c, k, i, f, a, cell, h1, h2, h3, h4, h5, h6, h7, h8, h9, h10⟩ := h
  obtain ⟨k', hi', he⟩ := State.fieldFound?_setVm hvm h2
  exact ⟨c, k', i, f, a, cell, by rw [hvm.findClass]; exact h1, hi', h3, by rw [he]; exact h4, h5, h6, h7, h8, by rw [he]; exact h9, h10⟩
theorem vx_L.kept {C n d : String} {A : Nat → Prop} {U : State} {H H1 : Heap} (h : vx_L C n d A U H) (hq : ∀ a : Nat, a < H.size → ¬ A a → H1[a]? = H[a]?) : vx_L C n d A U H1 := by
  obtain ⟨c, k, i, f, a, cell, h1, h2, h3, h4, h5, h6, h7, h8, h9, h10⟩ := h
  exact ⟨c, k, i, f, a, cell, h1, h2, h3, h4, by rw [hq a (Array.getElem?_eq_some_iff.mp h5).1 h10]; exact h5, h6, h7, h8, h9, h10⟩
theorem vx_L.narrow {C n d : String} {A B : Nat → Prop} {U : State} {H : Heap} (h : vx_L C n d A U H) (hAB : ∀ q, B q → A q) : vx_L C n d B U H := by
  obtain ⟨c, k, i, f, a, cell, h1, h2, h3, h4, h5, h6, h7, h8, h9, h10⟩ := h
  exact ⟨c, k, i, f, a, cell, h1, h2, h3, h4, h5, h6, h7, h8, h9, fun z => h10 (hAB _ z)⟩
theorem vx_L.word {C n d : String} {A : Nat → Prop} {s : State} {args : Array Value} (h : vx_L C n d A s s.heap) : (Cond.laysStatic C n d).before args s = true := by
  obtain ⟨c, k, i, f, a, cell, h1, h2, h3, h4, h5, h6, h7, h8, h9, -⟩ := h
  show (Cond.laysStatic C n d).holds args s none s [] = true
  exact Cond.laysStatic_of h1 h2 h3 h4 h5 h6 h7 h8 h9
/-- .. and what it holds: null or some reference -/
def vx_Zq (C n d : String) (A : Nat → Prop) (U : State) (H : Heap) : Prop := va_Zq C n d A U H ∧ vx_L C n d A U H
theorem vx_Zq.moved {C n d : String} {A : Nat → Prop} {u U : State} {H : Heap} (hvm : u.vm.Alike U.vm) (h : vx_Zq C n d A u H) : vx_Zq C n d A U H := ⟨va_Zq.moved hvm h.1, vx_L.moved hvm h.2⟩
theorem vx_Zq.kept {C n d : String} {A : Nat → Prop} {U : State} {H H1 : Heap} (h : vx_Zq C n d A U H) (hq : ∀ a : Nat, a < H.size → ¬ A a → H1[a]? = H[a]?) : vx_Zq C n d A U H1 := ⟨va_Zq.kept h.1 hq, vx_L.kept h.2 hq⟩
theorem vx_Zq.narrow {C n d : String} {A B : Nat → Prop} {U : State} {H : Heap} (h : vx_Zq C n d A U H) (hAB : ∀ q, B q → A q) : vx_Zq C n d B U H := ⟨va_Zq.narrow h.1 hAB, vx_L.narrow h.2 hAB⟩
theorem vx_Zqof {args : Array Value} {s : State} {C n d : String} {A : Nat → Prop} (hl : (Cond.laysStatic C n d).before args s = true) (hini : (Cond.initialized C).before args s = true) (h : (Cond.isRef (.static C n d)).before args s = true) (hA : ∀ a : Nat, a < s.heap.size → ¬ A a) : vx_Zq C n d A s s.heap := by
  refine ⟨va_Zqof hl hini h hA, ?_⟩
  obtain ⟨c, k, i, f, a, cell, h1, h2, h3, h4, h5, h6, h7, h8, h9⟩ := Cond.laysStatic_spec hl
  exact ⟨c, k, i, f, a, cell, h1, h2, h3, h4, h5, h6, h7, h8, h9, hA a (Array.getElem?_eq_some_iff.mp h5).1⟩
theorem vx_isRef {C n d : String} {v : Value} {A : Nat → Prop} {s : State} {args : Array Value} (h : va_Z C n d v A s s.heap) (hv : v.isRef = true) : (Cond.isRef (.static C n d)).before args s = true := by
  obtain ⟨cf, kf, fi, f, a, cell, h1, h2, h3, h4, h5, h6, h7, -⟩ := h
  have he : (Term.static C n d).eval args s none [] s = some v := by
    simp [Term.eval, State.fieldNamed?, h1, h2, h4, h5, h6, h7]
  simp only [Cond.before, Cond.holds, Cond.value, he]
  cases v <;> simp_all [Value.isRef]
theorem vx_isRefq {C n d : String} {A : Nat → Prop} {s : State} {args : Array Value} (h : va_Zq C n d A s s.heap) : (Cond.isRef (.static C n d)).before args s = true := by
  rcases h with h | ⟨t, h⟩
  · exact vx_isRef h rfl
  · exact vx_isRef h rfl
/-- the same frame, seen from here: as if the method were called anew in this heap -/
theorem vx_rebase {T : State} (X : Stand p l e R s m args below meth c T locs cells slots) {R' : Room} (hf : R'.frames ≤ R.frames) (hl : R'.locals ≤ R.locals) (hc : cells + R'.cells ≤ R.cells) (hs : slots + R'.slots ≤ R.slots) :
    Stand p l e R' ((T.setVm s.vm).setFrames (.invoking m args :: below)) m args below meth c T [] 0 0 := by
  have htop : (T.setVm s.vm).topJava?.isSome := X.here.top
  have hF : ((T.setVm s.vm).setFrames (.invoking m args :: below)).frames = .invoking m args :: below := State.frames_setFrames _ (State.cur_lt_of_top htop)
  obtain ⟨g₀, hg0⟩ := Option.isSome_iff_exists.mp htop
  obtain ⟨r, hr⟩ := State.topJava?_eq_some.mp hg0
  have hl9 : e.platform.stackLimits (T.setVm s.vm).me = e.platform.stackLimits s.me := X.limits
  have hb9 : (T.setVm s.vm).me.stackBytes = s.me.stackBytes := X.bytes
  refine ⟨X.admits, X.cas, X.clock, hF, ?_, X.hears, X.method, X.code, X.here, X.tail, X.warmed, ?_, ?_, ?_⟩
  · have h := X.room
    have hU : ((T.setVm s.vm).setFrames (.invoking m args :: below)).localsInUse = s.localsInUse := by
      rw [State.localsInUse_invoking hF (meth := meth) (c := c) X.method X.code, State.localsInUse_invoking X.frames X.method X.code]
    simp only [State.hasRoom, Bool.and_eq_true, decide_eq_true_eq] at h ⊢
    obtain ⟨⟨⟨⟨h1, h2, h3, h4, h5, h6⟩, h7⟩, h8⟩, h9⟩ := h
    rw [X.frames, List.length_cons] at h2 h3
    have q1 := X.heapSize
    have q2 := X.used
    simp only [hF, hU, List.length_cons, State.stackLimits_setFrames, State.stackBytes_setFrames, hl9, hb9]
    refine ⟨⟨⟨⟨by omega, by omega, by omega, by omega, by omega, h6⟩, ?_⟩, ?_⟩, X.book⟩
    · show T.heap.size + R'.cells ≤ e.platform.maxCells
      omega
    · show T.slotsUsed + R'.slots ≤ e.platform.maxSlots
      omega
  · rw [State.stackLimits_setFrames]; rfl
  · rw [State.stackBytes_setFrames]; rfl
  · refine ⟨?_, Nat.le_refl _, Nat.le_refl _, ?_, ?_, fun a c9 h9 => ⟨c9, h9, rfl, rfl, fun _ _ => rfl⟩⟩
    · obtain ⟨t, ht, -⟩ := State.frames_cons hr
      show T.setVm s.vm = { ((T.setVm s.vm).setFrames (.invoking m args :: below)).setFrames (T.setVm s.vm).frames with heap := T.heap, slotsUsed := T.slotsUsed }
      rw [State.setFrames_setFrames, State.setFrames_self ht]
      rfl
    · show T.slotsUsed = T.slotsUsed + ((T.heap.toList.drop T.heap.size).map (·.slots.size)).sum
      rw [List.drop_eq_nil_of_le (Nat.le_of_eq Array.length_toList)]
      rfl
    · show ((T.heap.toList.drop T.heap.size).map (·.slots.size)).sum ≤ 0
      rw [List.drop_eq_nil_of_le (Nat.le_of_eq Array.length_toList)]
      exact Nat.le_refl _
/-- 'throw new E()': new; dup; invokespecial; athrow -/
theorem vx_throw0 {cc : ByteArray} {pc : Nat} (hexec : p.tables.exec = Jvm.exec) (hb : c.code = cc) (hl : l.stackTraces = false) {own cls : String} {names : List String} {ik ic mc ms : Nat} {A : Nat → Prop}
    (hown : s.vm.findClass own = some m.cls) (hcls : Bundle.fit cls = true) (hnames : ∀ n ∈ names, Bundle.fit n = true)
    (hk : (Cond.classLink own ik cls).before args s = true) (hini : (Cond.initialized cls).before args s = true) (hat : ∀ w ∈ vx_at0 own ic cls names, w.before args s = true)
    (hgood : ∀ w ∈ Cond.classLink own ik cls :: Cond.initialized cls :: vx_at0 own ic cls names, vx_ot w = true)
    (hU : vx_Zq Bundle.tN "UNASSIGNED_STACK" Bundle.steD A s s.heap) (hN : vx_Zq Bundle.tN "SUPPRESSED_SENTINEL" Bundle.listD A s s.heap) (hS : va_S A s.heap H locs) (hsize : ls.size = c.maxLocals)
    (d0 : decode cc pc = .ok (.new ik, 3)) (d3 : decode cc (pc + 3) = .ok (.dup, 1)) (d4 : decode cc (pc + 4) = .ok (.invokespecial ic, 3)) (d7 : decode cc (pc + 7) = .ok (.athrow, 1))
    (hout : ∀ x ∈ c.exceptionTable.toList, covers x (pc + 7) = false)
    (hRframes : names.length + 3 < R.frames) (hRlocals : (rest.map fun v => v.category).sum + (13 * (names.length + 1) + 42) ≤ R.locals) (hRcells : cells + 1 ≤ R.cells) (hRslots : slots + 6 ≤ R.slots) (hlocks : meth.locks = false)
    (hx : ∀ t : State, s.vm.Alike t.vm → H.size ≤ t.heap.size → (∀ q : Nat, q < H.size → t.heap[q]? = H[q]?) → XC cls s t)
    (hf : ∀ z ∈ locs, free z.base) (hc : cells + 1 ≤ mc) (hs : slots + 6 ≤ ms) :
    W p l e R s m args below meth c H locs cells slots (vx_MQ below Qc XC args s mc ms free) (F0 m pc ls rest) := by
  intro T hT X
  have htr : e.platform.stackTraces = false := (show e.platform.stackTraces = l.stackTraces by rw [X.admits.platform]).trans hl
  have Y := vx_rebase X (R' := { frames := R.frames, locals := R.locals, cells := 1, slots := 6 }) (Nat.le_refl _) (Nat.le_refl _) hRcells hRslots
  obtain ⟨s', hA⟩ : ∃ z, z = (T.setVm s.vm).setFrames (.invoking m args :: below) := ⟨_, rfl⟩
  rw [← hA] at Y
  have hvm : s'.vm = s.vm := by rw [hA]; rfl
  have hhp : s'.heap = H := by rw [hA]; exact hT
  have hW0 : s.WarmedH s'.vm := by rw [hvm]; exact State.WarmedH.refl s
  have hat' : ∀ w ∈ vx_at0 own ic cls names, w.before args s' = true := fun w hw => vx_ot_at hW0 hvm.symm (hgood w (List.mem_cons_of_mem _ (List.mem_cons_of_mem _ hw))) (hat w hw)
  have hk' : (Cond.classLink own ik cls).before args s' = true := vx_ot_at hW0 hvm.symm (hgood _ List.mem_cons_self) hk
  have hini' : (Cond.initialized cls).before args s' = true := vx_ot_at hW0 hvm.symm (hgood _ (List.mem_cons_of_mem _ List.mem_cons_self)) hini
  have hU' : vx_Zq Bundle.tN "UNASSIGNED_STACK" Bundle.steD A s' s'.heap := by rw [hhp]; exact vx_Zq.moved hW0.alike (hU.kept hS.2.1)
  have hN' : vx_Zq Bundle.tN "SUPPRESSED_SENTINEL" Bundle.listD A s' s'.heap := by rw [hhp]; exact vx_Zq.moved hW0.alike (hN.kept hS.2.1)
  have h : ∀ w ∈ Bundle.ownAtoms0 own ic cls names, w.before args s' = true := vx_own hat' (vx_isRefq hU'.1) (vx_isRefq hN'.1) hU'.2.word hN'.2.word
  have hown' : s'.vm.findClass own = some m.cls := by rw [hvm]; exact hown
  have hins : (Cond.instantiable cls 6).before args s' = true := h _ (by simp [Bundle.ownAtoms0])
  obtain ⟨vm₁, cX, kX, hfX, hkX, -, -, X₁, st1⟩ := Y.newCold hexec (own := own) (C := cls) (index := ik) (n := 6) hown' hk' hins hini'
    (g := F0 m pc ls rest) rfl (by rw [hb]; exact d0) (Nat.le_refl _) (Nat.le_refl _)
  generalize hT1 : (T.setVm vm₁).pushCell { cls := cX, slots := kX.instanceTypes.map defaultValue, vm := .none } = T1 at X₁ st1
  have hcat : (Value.ref T.heap.size).category = 1 := rfl
  have hcellA : T1.heap[T.heap.size]? = some (freshCell cX kX) := by rw [← hT1]; exact State.heap_pushCell_size _ _
  have d3' : decode c.code (pc + 3) = .ok (.dup, 1) := by rw [hb]; exact d3
  obtain ⟨U, hsteps, hrun, hend, hW, hsame, ce, hce, hO⟩ := X₁.ctorThrow0 hexec htr (own := own) (cls := cls) (names := names) (ic := ic) hown' hcls hnames h (fun x hx => nomatch hx) hfX hkX hcellA (by rw [hhp, hT]; exact Nat.le_refl _)
    (g := { method := m, pc := pc + 4, locals := ls, stack := .ref T.heap.size :: .ref T.heap.size :: rest, locked := none }) rfl hsize rfl rfl (rest := rest) rfl
    (by rw [hb]; exact d4) (by rw [hb]; exact d7) hout hRframes (by simp only [List.map_cons, List.sum_cons, hcat]; omega) hlocks
  obtain ⟨f1, f2⟩ := vx_frame hsame
  rw [hhp] at f1 f2
  have hWs : s.WarmedH U.vm := State.WarmedH.trans hW0 hW
  have hcl : s.vm.findClass cls = some ce.cls := by
    have h9 := hO.cls
    rw [hvm] at h9
    exact h9
  have hall : s.sameButNew ({ U with vm := s.vm } : State) locs mc ms := by
    subst hA
    obtain ⟨e1, e2⟩ := hsame
    rw [State.setFrames_setFrames] at e1
    have h2 : (T.setVm s.vm).sameButNew ({ U with vm := s.vm } : State) [] (0 + 1) (0 + 6) := ⟨e1, e2⟩
    have h3 := X.same.trans h2
    rw [List.append_nil] at h3
    exact h3.mono hc hs
  refine ⟨U, ?_, .threw T.heap.size, hrun, hend, Or.inr ⟨T.heap.size, rfl, cls, ce, locs, hx U hWs.alike f1 (fun q hq => f2 q hq (fun z hz => nomatch hz)), hce, hO.vm, hcl, hWs, hall, hf⟩⟩
  refine st1 _ ?_
  show Steps p.tables e below (T1.setTop { method := m, pc := pc + 3, locals := ls, stack := .ref T.heap.size :: rest, locked := none }) _
  jvm_step X₁.here [X₁.here.top, hexec, d3', Value.category]
  exact hsteps
/-- 'throw new E("text")': new; dup; ldc; invokespecial; athrow -/
theorem vx_throwS {cc : ByteArray} {pc : Nat} (hexec : p.tables.exec = Jvm.exec) (hb : c.code = cc) (hl : l.stackTraces = false) {own cls text : String} {names : List String} {ik is ic mc ms sa : Nat} {A : Nat → Prop}
    (hown : s.vm.findClass own = some m.cls) (hcls : Bundle.fit cls = true) (hnames : ∀ n ∈ names, Bundle.fit n = true)
    (hk : (Cond.classLink own ik cls).before args s = true) (hini : (Cond.initialized cls).before args s = true) (hstr : vk_R own is text sa s) (hat : ∀ w ∈ vx_atS own ic cls names, w.before args s = true)
    (hgood : ∀ w ∈ Cond.classLink own ik cls :: Cond.initialized cls :: vx_atS own ic cls names, vx_ot w = true)
    (hU : vx_Zq Bundle.tN "UNASSIGNED_STACK" Bundle.steD A s s.heap) (hN : vx_Zq Bundle.tN "SUPPRESSED_SENTINEL" Bundle.listD A s s.heap) (hS : va_S A s.heap H locs) (hsize : ls.size = c.maxLocals)
    (d0 : decode cc pc = .ok (.new ik, 3)) (d3 : decode cc (pc + 3) = .ok (.dup, 1)) (d4 : decode cc (pc + 4) = .ok (.ldc is, 2)) (d6 : decode cc (pc + 6) = .ok (.invokespecial ic, 3)) (d9 : decode cc (pc + 9) = .ok (.athrow, 1))
    (hout : ∀ x ∈ c.exceptionTable.toList, covers x (pc + 9) = false)
    (hRframes : names.length + 3 < R.frames) (hRlocals : (rest.map fun v => v.category).sum + (13 * (names.length + 1) + 43) ≤ R.locals) (hRcells : cells + 1 ≤ R.cells) (hRslots : slots + 6 ≤ R.slots) (hlocks : meth.locks = false)
    (hx : ∀ t : State, s.vm.Alike t.vm → H.size ≤ t.heap.size → (∀ q : Nat, q < H.size → t.heap[q]? = H[q]?) → XC cls s t)
    (hf : ∀ z ∈ locs, free z.base) (hc : cells + 1 ≤ mc) (hs : slots + 6 ≤ ms) :
    W p l e R s m args below meth c H locs cells slots (vx_MQ below Qc XC args s mc ms free) (F0 m pc ls rest) := by
  intro T hT X
  have htr : e.platform.stackTraces = false := (show e.platform.stackTraces = l.stackTraces by rw [X.admits.platform]).trans hl
  have Y := vx_rebase X (R' := { frames := R.frames, locals := R.locals, cells := 1, slots := 6 }) (Nat.le_refl _) (Nat.le_refl _) hRcells hRslots
  obtain ⟨s', hA⟩ : ∃ z, z = (T.setVm s.vm).setFrames (.invoking m args :: below) := ⟨_, rfl⟩
  rw [← hA] at Y
  have hvm : s'.vm = s.vm := by rw [hA]; rfl
  have hhp : s'.heap = H := by rw [hA]; exact hT
  have hW0 : s.WarmedH s'.vm := by rw [hvm]; exact State.WarmedH.refl s
  have hat' : ∀ w ∈ vx_atS own ic cls names, w.before args s' = true := fun w hw => vx_ot_at hW0 hvm.symm (hgood w (List.mem_cons_of_mem _ (List.mem_cons_of_mem _ hw))) (hat w hw)
  have hk' : (Cond.classLink own ik cls).before args s' = true := vx_ot_at hW0 hvm.symm (hgood _ List.mem_cons_self) hk
  have hini' : (Cond.initialized cls).before args s' = true := vx_ot_at hW0 hvm.symm (hgood _ (List.mem_cons_of_mem _ List.mem_cons_self)) hini
  have hU' : vx_Zq Bundle.tN "UNASSIGNED_STACK" Bundle.steD A s' s'.heap := by rw [hhp]; exact vx_Zq.moved hW0.alike (hU.kept hS.2.1)
  have hN' : vx_Zq Bundle.tN "SUPPRESSED_SENTINEL" Bundle.listD A s' s'.heap := by rw [hhp]; exact vx_Zq.moved hW0.alike (hN.kept hS.2.1)
  have h : ∀ w ∈ Bundle.ownAtoms own ic cls names, w.before args s' = true := vx_own hat' (vx_isRefq hU'.1) (vx_isRefq hN'.1) hU'.2.word hN'.2.word
  have hown' : s'.vm.findClass own = some m.cls := by rw [hvm]; exact hown
  have hins : (Cond.instantiable cls 6).before args s' = true := h _ (by simp [Bundle.ownAtoms])
  obtain ⟨vm₁, cX, kX, hfX, hkX, -, -, X₁, st1⟩ := Y.newCold hexec (own := own) (C := cls) (index := ik) (n := 6) hown' hk' hins hini'
    (g := F0 m pc ls rest) rfl (by rw [hb]; exact d0) (Nat.le_refl _) (Nat.le_refl _)
  generalize hT1 : (T.setVm vm₁).pushCell { cls := cX, slots := kX.instanceTypes.map defaultValue, vm := .none } = T1 at X₁ st1
  have hcat : (Value.ref T.heap.size).category = 1 := rfl
  have hcellA : T1.heap[T.heap.size]? = some (freshCell cX kX) := by rw [← hT1]; exact State.heap_pushCell_size _ _
  have d3' : decode c.code (pc + 3) = .ok (.dup, 1) := by rw [hb]; exact d3
  have d4' : decode c.code (pc + 4) = .ok (.ldc is, 2) := by rw [hb]; exact d4
  have hstr' : vk_R own is text sa s' := vk_R.warm hW0 hstr
  obtain ⟨U, hsteps, hrun, hend, hW, hsame, ce, hce, hO⟩ := X₁.ctorThrowS hexec htr (own := own) (cls := cls) (names := names) (ic := ic) hown' hcls hnames h (fun x hx => nomatch hx) hfX hkX hcellA (by rw [hhp, hT]; exact Nat.le_refl _) (msg := .ref sa) rfl
    (g := { method := m, pc := pc + 6, locals := ls, stack := .ref sa :: .ref T.heap.size :: .ref T.heap.size :: rest, locked := none }) rfl hsize rfl rfl (rest := rest) rfl
    (by rw [hb]; exact d6) (by rw [hb]; exact d9) hout hRframes (by simp only [List.map_cons, List.sum_cons, hcat]; omega) hlocks
  obtain ⟨f1, f2⟩ := vx_frame hsame
  rw [hhp] at f1 f2
  have hWs : s.WarmedH U.vm := State.WarmedH.trans hW0 hW
  have hcl : s.vm.findClass cls = some ce.cls := by
    have h9 := hO.cls
    rw [hvm] at h9
    exact h9
  have hall : s.sameButNew ({ U with vm := s.vm } : State) locs mc ms := by
    subst hA
    obtain ⟨e1, e2⟩ := hsame
    rw [State.setFrames_setFrames] at e1
    have h2 : (T.setVm s.vm).sameButNew ({ U with vm := s.vm } : State) [] (0 + 1) (0 + 6) := ⟨e1, e2⟩
    have h3 := X.same.trans h2
    rw [List.append_nil] at h3
    exact h3.mono hc hs
  refine ⟨U, ?_, .threw T.heap.size, hrun, hend, Or.inr ⟨T.heap.size, rfl, cls, ce, locs, hx U hWs.alike f1 (fun q hq => f2 q hq (fun z hz => nomatch hz)), hce, hO.vm, hcl, hWs, hall, hf⟩⟩
  refine st1 _ ?_
  show Steps p.tables e below (T1.setTop { method := m, pc := pc + 3, locals := ls, stack := .ref T.heap.size :: rest, locked := none }) _
  jvm_step X₁.here [X₁.here.top, hexec, d3', Value.category]
  exact X₁.ldcString hexec (own := own) (text := text) (index := is) (a := sa) hown' hstr'.1 hstr'.2
    (g := { method := m, pc := pc + 4, locals := ls, stack := .ref T.heap.size :: .ref T.heap.size :: rest, locked := none }) rfl d4' _ hsteps
/-- 'throw new E("text")', the text by a wide index -/
theorem vx_throwSW {cc : ByteArray} {pc : Nat} (hexec : p.tables.exec = Jvm.exec) (hb : c.code = cc) (hl : l.stackTraces = false) {own cls text : String} {names : List String} {ik is ic mc ms sa : Nat} {A : Nat → Prop}
    (hown : s.vm.findClass own = some m.cls) (hcls : Bundle.fit cls = true) (hnames : ∀ n ∈ names, Bundle.fit n = true)
    (hk : (Cond.classLink own ik cls).before args s = true) (hini : (Cond.initialized cls).before args s = true) (hstr : vk_R own is text sa s) (hat : ∀ w ∈ vx_atS own ic cls names, w.before args s = true)
    (hgood : ∀ w ∈ Cond.classLink own ik cls :: Cond.initialized cls :: vx_atS own ic cls names, vx_ot w = true)
    (hU : vx_Zq Bundle.tN "UNASSIGNED_STACK" Bundle.steD A s s.heap) (hN : vx_Zq Bundle.tN "SUPPRESSED_SENTINEL" Bundle.listD A s s.heap) (hS : va_S A s.heap H locs) (hsize : ls.size = c.maxLocals)
    (d0 : decode cc pc = .ok (.new ik, 3)) (d3 : decode cc (pc + 3) = .ok (.dup, 1)) (d4 : decode cc (pc + 4) = .ok (.ldc_w is, 3)) (d7 : decode cc (pc + 7) = .ok (.invokespecial ic, 3)) (d10 : decode cc (pc + 10) = .ok (.athrow, 1))
    (hout : ∀ x ∈ c.exceptionTable.toList, covers x (pc + 10) = false)
    (hRframes : names.length + 3 < R.frames) (hRlocals : (rest.map fun v => v.category).sum + (13 * (names.length + 1) + 43) ≤ R.locals) (hRcells : cells + 1 ≤ R.cells) (hRslots : slots + 6 ≤ R.slots) (hlocks : meth.locks = false)
    (hx : ∀ t : State, s.vm.Alike t.vm → H.size ≤ t.heap.size → (∀ q : Nat, q < H.size → t.heap[q]? = H[q]?) → XC cls s t)
    (hf : ∀ z ∈ locs, free z.base) (hc : cells + 1 ≤ mc) (hs : slots + 6 ≤ ms) :
    W p l e R s m args below meth c H locs cells slots (vx_MQ below Qc XC args s mc ms free) (F0 m pc ls rest) := by
  intro T hT X
  have htr : e.platform.stackTraces = false := (show e.platform.stackTraces = l.stackTraces by rw [X.admits.platform]).trans hl
  have Y := vx_rebase X (R' := { frames := R.frames, locals := R.locals, cells := 1, slots := 6 }) (Nat.le_refl _) (Nat.le_refl _) hRcells hRslots
  obtain ⟨s', hA⟩ : ∃ z, z = (T.setVm s.vm).setFrames (.invoking m args :: below) := ⟨_, rfl⟩
  rw [← hA] at Y
  have hvm : s'.vm = s.vm := by rw [hA]; rfl
  have hhp : s'.heap = H := by rw [hA]; exact hT
  have hW0 : s.WarmedH s'.vm := by rw [hvm]; exact State.WarmedH.refl s
  have hat' : ∀ w ∈ vx_atS own ic cls names, w.before args s' = true := fun w hw => vx_ot_at hW0 hvm.symm (hgood w (List.mem_cons_of_mem _ (List.mem_cons_of_mem _ hw))) (hat w hw)
  have hk' : (Cond.classLink own ik cls).before args s' = true := vx_ot_at hW0 hvm.symm (hgood _ List.mem_cons_self) hk
  have hini' : (Cond.initialized cls).before args s' = true := vx_ot_at hW0 hvm.symm (hgood _ (List.mem_cons_of_mem _ List.mem_cons_self)) hini
  have hU' : vx_Zq Bundle.tN "UNASSIGNED_STACK" Bundle.steD A s' s'.heap := by rw [hhp]; exact vx_Zq.moved hW0.alike (hU.kept hS.2.1)
  have hN' : vx_Zq Bundle.tN "SUPPRESSED_SENTINEL" Bundle.listD A s' s'.heap := by rw [hhp]; exact vx_Zq.moved hW0.alike (hN.kept hS.2.1)
  have h : ∀ w ∈ Bundle.ownAtoms own ic cls names, w.before args s' = true := vx_own hat' (vx_isRefq hU'.1) (vx_isRefq hN'.1) hU'.2.word hN'.2.word
  have hown' : s'.vm.findClass own = some m.cls := by rw [hvm]; exact hown
  have hins : (Cond.instantiable cls 6).before args s' = true := h _ (by simp [Bundle.ownAtoms])
  obtain ⟨vm₁, cX, kX, hfX, hkX, -, -, X₁, st1⟩ := Y.newCold hexec (own := own) (C := cls) (index := ik) (n := 6) hown' hk' hins hini'
    (g := F0 m pc ls rest) rfl (by rw [hb]; exact d0) (Nat.le_refl _) (Nat.le_refl _)
  generalize hT1 : (T.setVm vm₁).pushCell { cls := cX, slots := kX.instanceTypes.map defaultValue, vm := .none } = T1 at X₁ st1
  have hcat : (Value.ref T.heap.size).category = 1 := rfl
  have hcellA : T1.heap[T.heap.size]? = some (freshCell cX kX) := by rw [← hT1]; exact State.heap_pushCell_size _ _
  have d3' : decode c.code (pc + 3) = .ok (.dup, 1) := by rw [hb]; exact d3
  have d4' : decode c.code (pc + 4) = .ok (.ldc_w is, 3) := by rw [hb]; exact d4
  have hstr' : vk_R own is text sa s' := vk_R.warm hW0 hstr
  obtain ⟨U, hsteps, hrun, hend, hW, hsame, ce, hce, hO⟩ := X₁.ctorThrowS hexec htr (own := own) (cls := cls) (names := names) (ic := ic) hown' hcls hnames h (fun x hx => nomatch hx) hfX hkX hcellA (by rw [hhp, hT]; exact Nat.le_refl _) (msg := .ref sa) rfl
    (g := { method := m, pc := pc + 7, locals := ls, stack := .ref sa :: .ref T.heap.size :: .ref T.heap.size :: rest, locked := none }) rfl hsize rfl rfl (rest := rest) rfl
    (by rw [hb]; exact d7) (by rw [hb]; exact d10) hout hRframes (by simp only [List.map_cons, List.sum_cons, hcat]; omega) hlocks
  obtain ⟨f1, f2⟩ := vx_frame hsame
  rw [hhp] at f1 f2
  have hWs : s.WarmedH U.vm := State.WarmedH.trans hW0 hW
  have hcl : s.vm.findClass cls = some ce.cls := by
    have h9 := hO.cls
    rw [hvm] at h9
    exact h9
  have hall : s.sameButNew ({ U with vm := s.vm } : State) locs mc ms := by
    subst hA
    obtain ⟨e1, e2⟩ := hsame
    rw [State.setFrames_setFrames] at e1
    have h2 : (T.setVm s.vm).sameButNew ({ U with vm := s.vm } : State) [] (0 + 1) (0 + 6) := ⟨e1, e2⟩
    have h3 := X.same.trans h2
    rw [List.append_nil] at h3
    exact h3.mono hc hs
  refine ⟨U, ?_, .threw T.heap.size, hrun, hend, Or.inr ⟨T.heap.size, rfl, cls, ce, locs, hx U hWs.alike f1 (fun q hq => f2 q hq (fun z hz => nomatch hz)), hce, hO.vm, hcl, hWs, hall, hf⟩⟩
  refine st1 _ ?_
  show Steps p.tables e below (T1.setTop { method := m, pc := pc + 3, locals := ls, stack := .ref T.heap.size :: rest, locked := none }) _
  jvm_step X₁.here [X₁.here.top, hexec, d3', Value.category]
  exact X₁.ldcStringW hexec (own := own) (text := text) (index := is) (a := sa) hown' hstr'.1 hstr'.2
    (g := { method := m, pc := pc + 4, locals := ls, stack := .ref T.heap.size :: .ref T.heap.size :: rest, locked := none }) rfl d4' _ hsteps
end Ends
section Bodies
variable {l : Launch}
theorem vx_ofW {y : MethodName} {ws ws' : List Cond} {rm : Room} {Pc : Array Value → State → Prop} {Qc : Array Value → State → Outcome → State → Prop} {XC : String → State → State → Prop} {mc ms : Nat} {free : Addr → Prop} {cc : ByteArray} {maxL : Nat} {ret : Option FieldType}
    (hy : plainName y.cls = true) (hw : ws = Cond.code y cc maxL ret :: ws')
    (body : ∀ p e s m args below meth c s₁, BodyLoose p l y (headSpec ws rm) cc maxL ret e s m args below meth c s₁ → c.maxLocals = maxL → (∀ x ∈ c.exceptionTable.toList, False) → Pc args s →
      W p l e (headSpec ws rm).room s m args below meth c s.heap [] 0 0 (vx_MQ below Qc XC args s mc ms free) (entryFrame m args maxL)) : vx_Met l y ws rm Pc Qc XC mc ms free := by
  refine MetFree.of_bodyS (code := cc) (maxLocals := maxL) (ret := ret) hy ?_ ?_
  · intro args s m h hn
    obtain ⟨meth, c, h1, h2, h3, h4, h5, h6, -, -⟩ := Cond.code_spec hn (atoms_spec (ws := ws) h _ (by rw [hw]; exact List.mem_cons_self))
    exact ⟨meth, c, h1, h2, h3, h4, h5, h6⟩
  · intro p e s m args below meth c s₁ B hml hP _
    have hh0 : s₁.heap = s.heap := by rw [B.state]; rfl
    have ht : ∀ x ∈ c.exceptionTable.toList, False := by
      obtain ⟨meth9, c9, h1, h2, -, -, -, -, h7, -⟩ := Cond.code_spec B.named (atoms_spec (ws := ws) B.pre _ (by rw [hw]; exact List.mem_cons_self))
      cases Option.some.inj (h1.symm.trans B.method)
      cases Option.some.inj (h2.symm.trans (Stand.of_body B).code)
      intro x hx
      rw [Array.isEmpty_iff.mp h7] at hx
      cases hx
    obtain ⟨t, a1, o, b1, b2, b3⟩ := body p e s m args below meth c s₁ B hml ht hP s₁ hh0 (Stand.of_body B)
    exact ⟨t, o, a1, b1, b2, b3⟩
/-- the table of a body with handlers -/
theorem vx_table {p : Program} {x y : MethodName} {S : Spec} {cc bytes : ByteArray} {maxL maxL' : Nat} {ret ret' : Option FieldType} {e : Env} {s s₁ : State} {m : MethodId} {args : Array Value} {below : List Frame} {meth : Method} {c : Code} {hh : List (Nat × Nat × Nat × Nat)}
    (B : BodyLoose p l y S cc maxL ret e s m args below meth c s₁) (h : (Cond.codeWith y bytes maxL' ret' hh).before args s = true) : c.exceptionTable.toList = tableOf hh := by
  obtain ⟨m9, meth9, c9, hn9, h1, h2, -, -, h6, -⟩ := Cond.codeWith_spec h
  cases Option.some.inj (hn9.symm.trans B.named)
  cases Option.some.inj (h1.symm.trans B.method)
  cases Option.some.inj (h2.symm.trans (Stand.of_body B).code)
  rw [← h6, table_eq]
end Bodies
end VXA
/-! ===== END ===== -/
/-! ===== BEGIN a static call of a method with an exception table ===== -/
section VXS
variable {p : Program} {l : Launch} {e : Env} {R : Room} {s : State} {m : MethodId} {args : Array Value} {below : List Frame} {meth : Method} {c : Code} {T : State} {H : Heap} {locs : List Loc} {cells slots : Nat}
abbrev vx_CSW (R : Room) (s : State) (args : Array Value) (own : String) (index : Nat) (y : MethodName) (bytes : ByteArray) (maxL : Nat) (ret : Option FieldType) (hh : List (Nat × Nat × Nat × Nat)) (ws : List Cond) (rm : Room) (mc ms n : Nat) : Prop :=
  (rm.cells = mc ∧ rm.slots = ms ∧ rm.frames + 1 ≤ R.frames ∧ 8 + (maxL + 11) + rm.locals ≤ R.locals ∧ (∀ w ∈ ws, ∀ (a' : Array Value) (U : State), s.WarmedH U.vm → w.before a' U = true) ∧ Cond.codeWith y bytes maxL ret hh ∈ ws) ∧
  (Cond.codeWith y bytes maxL ret hh).before args s = true ∧ (Cond.initialized y.cls).before args s = true ∧ (y.cls ≠ "java/lang/invoke/MethodHandle" ∧ y.cls ≠ "java/lang/invoke/VarHandle") ∧
  (∀ sig, parseMethodDescriptor y.desc = some sig → n = sig.parameters.length) ∧ (Cond.methodLink own index y).before args s = true ∧ (Cond.static y).before args s = true
theorem vx_cwSW {own : String} {index maxL mc ms : Nat} {y : MethodName} {bytes : ByteArray} {ret : Option FieldType} {hh : List (Nat × Nat × Nat × Nat)} {Ts ws ws' : List Cond} {rm : Room} (n : Nat) (ht : ∀ w ∈ Ts, w.before args s = true) (hT : GoodIn Ts (va_wsS own index y ws)) (hw : ws = Cond.codeWith y bytes maxL ret hh :: ws') (hrc : rm.cells = mc) (hrs : rm.slots = ms)
    (hd : y.cls ≠ "java/lang/invoke/MethodHandle" ∧ y.cls ≠ "java/lang/invoke/VarHandle" ∧ (parseMethodDescriptor y.desc).map (fun d => d.parameters.length) = some n) (hR : rm.frames + 1 ≤ R.frames ∧ 8 + (maxL + 11) + rm.locals ≤ R.locals) :
    vx_CSW R s args own index y bytes maxL ret hh ws rm mc ms n := by
  have ok : ∀ w ∈ va_wsS own index y ws, w.before args s = true := fun w h => ht w (hT w h).1
  have hG : GoodIn Ts ws := fun w h => hT w (by unfold va_wsS; exact List.mem_append_right _ h)
  have hc : Cond.codeWith y bytes maxL ret hh ∈ ws := by rw [hw]; exact List.mem_cons_self
  refine ⟨⟨hrc, hrs, hR.1, hR.2, pay_in ht hG, hc⟩, ht _ (hG _ hc).1, ok _ (by simp [va_wsS]), ⟨hd.1, hd.2.1⟩, fun sig h => ?_, ok _ (by simp [va_wsS]), ok _ (by simp [va_wsS])⟩
  have h2 := hd.2.2
  rw [h] at h2
  exact (Option.some.inj h2).symm
theorem vx_callSW (X : Stand p l e R s m args below meth c T locs cells slots) (hexec : p.tables.exec = Jvm.exec) {own : String} {index : Nat} {y : MethodName} {bytes : ByteArray} {maxL : Nat} {ret : Option FieldType} {hh : List (Nat × Nat × Nat × Nat)}
    (hown : s.vm.findClass own = some m.cls) (hlink : (Cond.methodLink own index y).before args s = true) (hstat : (Cond.static y).before args s = true) (hinit : (Cond.initialized y.cls).before args s = true)
    (hcode : (Cond.codeWith y bytes maxL ret hh).before args s = true) (hy : y.cls ≠ "java/lang/invoke/MethodHandle" ∧ y.cls ≠ "java/lang/invoke/VarHandle")
    {W9 : Nat} {Pre : Pt → Array Value → Prop} {Post : Pt → Array Value → Option Value → Pt → Prop} (hK : Back l R p e below s args y 3 W9 Pre Post)
    {g : JFrame} (hg : g.method = m) (hsize : g.locals.size = c.maxLocals) {argsL rest : List Value} (hlen : ∀ sig, parseMethodDescriptor y.desc = some sig → argsL.length = sig.parameters.length)
    (hstack : g.stack = argsL.reverse ++ rest) (hW : 2 * g.monitorRoom + (rest.map fun v => v.category).sum ≤ W9) (hdg : decode c.code g.pc = .ok (.invokestatic index, 3))
    (hpre : ∀ vm₁, s.WarmedH vm₁ → Pre ⟨T.setVm vm₁, locs, cells, slots⟩ argsL.toArray) :
    ∃ (v : Option Value) (vm₁ : Vm) (B : Pt), s.WarmedH vm₁ ∧ Stand p l e R s m args below meth c B.U B.locs B.cells B.slots ∧ Post ⟨T.setVm vm₁, locs, cells, slots⟩ argsL.toArray v B ∧
      ∀ target, Steps p.tables e below (B.U.setTop { g with pc := g.pc + 3, stack := v.toList ++ rest }) target → Steps p.tables e below (T.setTop g) target := by
  obtain ⟨mk, methM, cM, hnamed, hmethM, -, -, -, -, -, -, hsigM⟩ := Cond.codeWith_spec hcode
  have hstatic : methM.isStatic = true := Cond.static_spec hnamed hmethM hstat
  obtain ⟨kP, hkP, -⟩ := className_of_methodNamed hnamed
  have hinitP : kP.init = .initialized := Cond.initialized_spec (findClass_of_methodNamed hnamed) hkP hinit
  obtain ⟨vm₁, X₁, hstep₁⟩ := X.invokestatic hexec hown hlink hnamed hmethM hstatic hkP hinitP hy (g := g) hg (argsL := argsL) (rest := rest) (hlen _ hsigM) hstack hdg
  obtain ⟨v, B, X', hpost, hsteps⟩ := hK m meth c ⟨T.setVm vm₁, locs, cells, slots⟩ { g with stack := rest } (.invokestatic index) mk argsL.toArray X₁ hg hsize hdg hW (X₁.named hnamed) (hpre vm₁ X₁.warmed)
  exact ⟨v, vm₁, B, X₁.warmed, X', hpost, fun target h => hstep₁ _ fun acts => by rw [doInvoke_state]; exact hsteps.trans h⟩
theorem vx_runSW {y : MethodName} {bytes cc : ByteArray} {maxL nL mc ms n index : Nat} {ret : Option FieldType} {hh : List (Nat × Nat × Nat × Nat)} {ws : List Cond} {rm : Room} {Pc : Array Value → State → Prop} {Qc : Array Value → State → Outcome → State → Prop} {free : Addr → Prop} {Ts : List Cond} {own : String} {As rest : List Value} {g : JFrame}
    (S : CallFix p m c cc nL s args Ts own) (hM : Met l y ws rm Pc Qc mc ms free) (cw : vx_CSW R s args own index y bytes maxL ret hh ws rm mc ms n) (hp : PreS s H Pc As)
    (hg : g.method = m) (hn : As.length = n) (hsize : g.locals.size = nL) (hstack : g.stack = As.reverse ++ rest) (hW : 2 * g.monitorRoom + (rest.map fun v => v.category).sum ≤ 8) (hdg : decode cc g.pc = .ok (.invokestatic index, 3)) (hf : cells + mc ≤ R.cells ∧ slots + ms ≤ R.slots) :
    va_Run p l e R s m args below meth c H locs cells slots mc ms g rest (Qc As.toArray) (free) := by
  obtain ⟨⟨hrc, hrs, hfr, hlo, hws, hcw⟩, hcode, hini, hy, hlen, hl, hstt⟩ := cw
  have hK : Back l R p e below s args y 3 8 (PreOf R mc ms Pc) (PostOf Qc mc ms free) := va_backW (hh := hh) (bytes := bytes) (maxL := maxL) (ret := ret) hM hp.1 hrc hrs hfr hlo hws hcw (fun a' U hW => word_at hW (Or.inl (by first | rfl | simp [Cond.onTables, Cond.keeps, Cond.steady])) hini)
  obtain ⟨hx, hb, hml, ho, -⟩ := S
  intro T hT X
  obtain ⟨v, vm₁, ⟨U', l2, c2, s2⟩, hW₁, X', ⟨g', mk, t, L, e1, e2, hq, h1, hL, h2, h3⟩, st⟩ := vx_callSW X hx (hh := hh) (bytes := bytes) (maxL := maxL) (ret := ret) ho hl hstt hini hcode hy hK hg (hsize.trans hml.symm) (argsL := As) (rest := rest) (fun sig h => hn.trans (hlen sig h)) hstack hW (by rw [hb]; exact hdg)
    (fun vm₁ hW₁ => ⟨hf.1, hf.2, hp.2 (T.setVm vm₁) hT hW₁⟩)
  dsimp only [Pt.U, Pt.locs, Pt.cells, Pt.slots] at X' e1 e2 h1 h2 h3 st
  subst h1; subst h2; subst h3
  exact ⟨v, (T.setVm vm₁).calling g' mk As.toArray, t, U', L, hT, X', hL, e1, e2, hq, st⟩
/-- not caught here, past rows that name other classes: it goes on to the caller -/
theorem vx_outP {p : Program} {l : Launch} {e : Env} {R : Room} {s : State} {m : MethodId} {args : Array Value} {below : List Frame} {meth : Method} {c : Code} {H : Heap} {locs : List Loc} {cells slots : Nat} {free : Addr → Prop} {ls : Array Slot} {rest : List Value} {Qc : Array Value → State → Outcome → State → Prop} {XC : String → State → State → Prop}
    {pc : Nat} {own E : String} {ce : Cell} {q : Addr} {mc ms : Nat} (hown : s.vm.findClass own = some m.cls) (hlocks : meth.locks = false)
    (hpass : ∀ z ∈ c.exceptionTable.toList, covers z pc = false ∨ (z.catchType ≠ 0 ∧ ∃ nm : String, (Cond.classLink own z.catchType nm).before args s = true ∧ va_Nc E nm s)) (hcell : H[q]? = some ce) (hv : ce.vm = .none) (hcl : s.vm.findClass E = some ce.cls)
    (hx : ∀ t : State, t.heap = H → s.vm.Alike t.vm → XC E s t) (hf : ∀ z ∈ locs, free z.base) (hc : cells ≤ mc) (hs : slots ≤ ms) :
    vx_W p l e R s m args below meth c H locs cells slots (vx_MQ below Qc XC args s mc ms free) (F0 m pc ls rest) q := by
  intro T hT X
  have hpl : e.platform.magicAccessors = ({} : Platform).magicAccessors := by rw [X.admits.platform]
  obtain ⟨vm', hW', X', st⟩ := X.outThrough hlocks q (g := F0 m pc ls rest) rfl rfl rfl (cell := ce) (by rw [hT]; exact hcell) (by rw [hv]; rfl)
    (by obtain ⟨k9, h9, -⟩ := Vm.findClass_spec hcl; exact ⟨k9, h9⟩) (fun z hz => by
      rcases hpass z hz with h | ⟨hz0, nm, hl1, hn1⟩
      · exact Or.inl h
      · obtain ⟨c6, hc6, hcl6⟩ := Cond.classLink_spec hown hl1 e.platform hpl
        obtain ⟨a8, b8, h1, h2, h3⟩ := hn1
        cases Option.some.inj (h1.symm.trans hcl)
        cases Option.some.inj (h2.symm.trans hc6)
        exact Or.inr ⟨hz0, _, hcl6, h3⟩)
  obtain ⟨g₀, hfr⟩ := X'.frames_eq
  have hcell9 : ((T.setVm vm').setFrames (.throwing q :: below)).heap[q]? = some ce := by
    show T.heap[q]? = some ce
    rw [hT]; exact hcell
  have hend : Ended ((T.setVm vm').setFrames (.throwing q :: below)) below (.threw q) := State.frames_setFrames _ (State.cur_lt_of_frames hfr)
  refine ⟨(T.setVm vm').setFrames (.throwing q :: below), ?_, .threw q, X'.here.running, hend, Or.inr ⟨q, rfl, E, ce, locs, hx _ hT (X'.ends _).1.alike, hcell9, hv, hcl, (X'.ends _).1, (X'.ends _).2.mono hc hs, hf⟩⟩
  rw [X.pushThrowing_eq]
  exact st
/-- a thing of a world lies in the heap -/
theorem vx_lt {D : va_G} {cl : List vw_C} {ws : va_W} {H1 : Heap} (h : va_P D cl ws H1) {k : Nat} {q : Nat × va_E} (hk : ws[k]? = some q) : q.1 < H1.size := (h k q hk).lt
end VXS
/-! ===== END ===== -/
/-! ===== BEGIN methods with a table of their own: called by a name, returning or throwing ===== -/
section VXH
/-! vx_backW, vx_callVX, vx_callSX, vx_callVW, vx_runVW, vx_runVX, vx_runSX, vx_ofWH follow the same proofs as their sisters above (Free/Laws.lean, Shelf42/LK1.lean); vx_outP calls Shelf42/NT130.lean (outThrough). -/
section
variable {l : Launch} {R : Room} {p : Program} {e : Env} {below : List Frame} {s : State} {sargs : Array Value} {y : MethodName} {len W9 : Nat}
theorem vx_backW {ws : List Cond} {rm : Room} {Pc : Array Value → State → Prop} {Qc : Array Value → State → Outcome → State → Prop} {XC : String → State → State → Prop} {mc ms : Nat} {free : Addr → Prop} {bytes : ByteArray} {maxL : Nat} {ret : Option FieldType} {hh : List (Nat × Nat × Nat × Nat)}
    (hM : vx_Met l y ws rm Pc Qc XC mc ms free) (hblind : FrameBlind Pc) (hrc : rm.cells = mc) (hrs : rm.slots = ms)
    (hframes : rm.frames + 1 ≤ R.frames) (hlocals : W9 + (maxL + 11) + rm.locals ≤ R.locals)
    (hws : ∀ w ∈ ws, ∀ a' U, s.WarmedH U.vm → w.before a' U = true) (hcode : Cond.codeWith y bytes maxL ret hh ∈ ws) (hinit : ∀ a' U, s.WarmedH U.vm → (Cond.initialized y.cls).before a' U = true) :
    vx_Back l R p e below s sargs y len W9 (PreOf R mc ms Pc) (PostOf Qc mc ms free) (vx_Post XC mc ms free) := by
  intro m meth c A g ig mk a X hg hsize hdg hW hn hp
  have h1 : (headSpec ws rm).pre.before a A.U = true := atoms_intro fun w hw => hws w hw _ _ X.warmed
  have h2 : (Cond.codeWith y bytes maxL ret hh).before a A.U = true := hws _ hcode _ _ X.warmed
  have h3 : (Cond.initialized y.cls).before a A.U = true := hinit _ _ X.warmed
  have h4 : A.cells + (headSpec ws rm).room.cells ≤ R.cells := by rw [show (headSpec ws rm).room.cells = mc from hrc]; exact hp.1
  have h5 : A.slots + (headSpec ws rm).room.slots ≤ R.slots := by rw [show (headSpec ws rm).room.slots = ms from hrs]; exact hp.2.1
  have hPc : Pc a (A.U.calling g mk a) := hblind _ _ _ _ hp.2.2
  obtain ⟨U, Ls, c0, s0⟩ := A
  dsimp only [Pt.U, Pt.locs, Pt.cells, Pt.slots] at h1 h2 h3 h4 h5 X hn hPc ⊢
  obtain ⟨m9, methY, cY, hn9, hmY, hcY, -, hlY, -⟩ := Cond.codeWith_spec h2
  cases Option.some.inj (hn9.symm.trans hn)
  obtain ⟨kY, hkY, -⟩ := className_of_methodNamed hn
  have hinitY : kY.init = .initialized := Cond.initialized_spec (findClass_of_methodNamed hn) hkY h3
  have h : At U g.method c below := by rw [hg]; exact X.here
  have hlocals9 : W9 + (maxL + 11) + (headSpec ws rm).room.locals ≤ R.locals := hlocals
  have happ : (headSpec ws rm).appliesLoose y e.platform (U.calling g mk a) = true :=
    Spec.appliesLoose_calling (g := g) h hdg hn hkY hinitY
      (X.room_calling (g := g) (R' := (headSpec ws rm).room) hsize hmY hcY hframes (by rw [hlY]; omega) h4 h5) h1
  obtain ⟨mid, hmid⟩ := h.above
  have hfr : (U.setTop g).frames = (.java g :: mid) ++ below := by rw [State.frames_setTop' g h.top, hmid]; rfl
  obtain ⟨o, s₂, hsteps, -, hend, hq⟩ := Steps.callFree hM p X.admits X.cas X.clock (acts := []) hfr happ hPc trivial
  have hq' : vx_Q Qc XC mc ms free a (U.calling g mk a) o s₂ := hq
  rw [State.frames_setTop' g h.top] at hend
  obtain ⟨g₀, hg0⟩ := Option.isSome_iff_exists.mp h.top
  obtain ⟨r, hr⟩ := State.topJava?_eq_some.mp hg0
  have hr' : (({ U with heap := s₂.heap, slotsUsed := s₂.slotsUsed } : State).setVm s₂.vm).frames = .java g₀ :: r := hr
  rcases hq' with ⟨hqc, L, hfe, hL⟩ | ⟨q, rfl, E, ce, L, hx, hce, hcv, hcl, hW₂, hsm, hL⟩
  · obtain ⟨⟨v, rfl⟩, hW₂, e2, q2, q3, q4, q5, q6⟩ := id hfe
    have e3 : s₂ = ({ (U.calling g mk a).setFrames s₂.frames with heap := s₂.heap, slotsUsed := s₂.slotsUsed } : State).setVm s₂.vm := by
      have : s₂ = ({ s₂ with vm := (U.calling g mk a).vm } : State).setVm s₂.vm := rfl
      rw [e2] at this
      exact this
    obtain ⟨c₂, i₂, len₂, hc₂, hd₂, hf₂⟩ := hend
    have hW' : U.WarmedH s₂.vm := hW₂
    have hcc : c₂ = c := by
      have h1 : s₂.code? g.method = U.code? g.method := by
        rw [State.code?_eq, State.code?_eq, hW'.alike.method?]
      exact Option.some.inj (hc₂.symm.trans (h1.trans h.code))
    subst hcc
    have hlen : len₂ = len := by rw [hdg] at hd₂; cases hd₂; rfl
    subst hlen
    have hs₂ : s₂ = (({ U with heap := s₂.heap, slotsUsed := s₂.slotsUsed } : State).setVm s₂.vm).setTop { g with pc := g.pc + len₂, stack := v.toList ++ g.stack } := by
      refine e3.trans ?_
      rw [hf₂, State.calling_eq h.top, State.setFrames_setFrames, State.setTop_of_frames _ hr', hr]
      rfl
    have hsame : U.sameButNew ({ U with heap := s₂.heap, slotsUsed := s₂.slotsUsed } : State) L mc ms := by
      refine ⟨?_, q2, q3, q4, q5, q6⟩
      obtain ⟨t, ht, -⟩ := State.frames_cons hr
      show ({ U with heap := s₂.heap, slotsUsed := s₂.slotsUsed } : State) = { U.setFrames U.frames with heap := s₂.heap, slotsUsed := s₂.slotsUsed }
      rw [State.setFrames_self ht]
    subst hg
    refine Or.inl ⟨v, ⟨(({ U with heap := s₂.heap, slotsUsed := s₂.slotsUsed } : State).setVm s₂.vm), Ls ++ L, c0 + mc, s0 + ms⟩,
      ⟨X.admits, X.cas, X.clock, X.frames, X.room, X.hears, X.method, X.code, (X.here.setHeapUsed s₂.heap s₂.slotsUsed).setVm hW'.alike, X.tail, State.WarmedH.trans X.warmed hW', X.limits, X.bytes, X.same.trans (hsame.setVm s.vm)⟩,
      ⟨g, mk, s₂, L, rfl, rfl, hqc, rfl, hL, rfl, rfl⟩, ?_⟩
    show Steps p.tables e below _ ((({ U with heap := s₂.heap, slotsUsed := s₂.slotsUsed } : State).setVm s₂.vm).setTop { g with pc := g.pc + len₂, stack := v.toList ++ g.stack })
    rw [← hs₂]
    exact hsteps
  · obtain ⟨e2, q2, q3, q4, q5, q6⟩ := id hsm
    have e3 : s₂ = ({ (U.calling g mk a).setFrames s₂.frames with heap := s₂.heap, slotsUsed := s₂.slotsUsed } : State).setVm s₂.vm := by
      have : s₂ = ({ s₂ with vm := (U.calling g mk a).vm } : State).setVm s₂.vm := rfl
      rw [e2] at this
      exact this
    have hf₂ : s₂.frames = .throwing q :: .java g :: U.frames.tail := hend
    have hW' : U.WarmedH s₂.vm := hW₂
    have hs₂ : s₂ = ((({ U with heap := s₂.heap, slotsUsed := s₂.slotsUsed } : State).setVm s₂.vm).setTop g).pushFrame (.throwing q) := by
      refine e3.trans ?_
      rw [hf₂, State.calling_eq h.top, State.setFrames_setFrames, State.pushFrame, State.frames_setTop _ hr', State.setTop_of_frames _ hr', State.setFrames_setFrames, hr]
      rfl
    have hsame : U.sameButNew ({ U with heap := s₂.heap, slotsUsed := s₂.slotsUsed } : State) L mc ms := by
      refine ⟨?_, q2, q3, q4, q5, q6⟩
      obtain ⟨t, ht, -⟩ := State.frames_cons hr
      show ({ U with heap := s₂.heap, slotsUsed := s₂.slotsUsed } : State) = { U.setFrames U.frames with heap := s₂.heap, slotsUsed := s₂.slotsUsed }
      rw [State.setFrames_self ht]
    subst hg
    refine Or.inr ⟨q, ⟨(({ U with heap := s₂.heap, slotsUsed := s₂.slotsUsed } : State).setVm s₂.vm), Ls ++ L, c0 + mc, s0 + ms⟩,
      ⟨X.admits, X.cas, X.clock, X.frames, X.room, X.hears, X.method, X.code, (X.here.setHeapUsed s₂.heap s₂.slotsUsed).setVm hW'.alike, X.tail, State.WarmedH.trans X.warmed hW', X.limits, X.bytes, X.same.trans (hsame.setVm s.vm)⟩,
      ⟨g, mk, s₂, L, E, ce, rfl, rfl, hx, hce, hcv, hcl, rfl, hL, rfl, rfl⟩, ?_⟩
    show Steps p.tables e below _ (((({ U with heap := s₂.heap, slotsUsed := s₂.slotsUsed } : State).setVm s₂.vm).setTop g).pushFrame (.throwing q))
    rw [← hs₂]
    exact hsteps
end
variable {p : Program} {l : Launch} {e : Env} {R : Room} {s : State} {m : MethodId} {args : Array Value} {below : List Frame} {meth : Method} {c : Code} {T : State} {H : Heap} {locs : List Loc} {cells slots : Nat}
theorem vx_callVX (X : Stand p l e R s m args below meth c T locs cells slots) (hexec : p.tables.exec = Jvm.exec) {own C : String} {index : Nat} {y : MethodName} {bytes : ByteArray} {maxL : Nat} {ret : Option FieldType} {hh : List (Nat × Nat × Nat × Nat)}
    (hown : s.vm.findClass own = some m.cls) (hlink : (Cond.methodLink own index y).before args s = true) (hinst : (Cond.instanceMethod y).before args s = true) (hsel : (Cond.selects C y y).before args s = true)
    (hcode : (Cond.codeWith y bytes maxL ret hh).before args s = true) (hy : y.cls ≠ "java/lang/invoke/MethodHandle" ∧ y.cls ≠ "java/lang/invoke/VarHandle")
    {W9 : Nat} {Pre : Pt → Array Value → Prop} {Post : Pt → Array Value → Option Value → Pt → Prop} {PostX : Pt → Array Value → Addr → Pt → Prop} (hK : vx_Back l R p e below s args y 3 W9 Pre Post PostX)
    {b : Addr} {cellB : Cell} (hcell : T.heap[b]? = some cellB) (hobj : cellB.vm.isStatics = false) (hcls : s.vm.findClass C = some cellB.cls)
    {g : JFrame} (hg : g.method = m) (hsize : g.locals.size = c.maxLocals) {argsL rest : List Value} (hlen : ∀ sig, parseMethodDescriptor y.desc = some sig → argsL.length = sig.parameters.length)
    (hstack : g.stack = argsL.reverse ++ .ref b :: rest) (hW : 2 * g.monitorRoom + (rest.map fun v => v.category).sum ≤ W9) (hdg : decode c.code g.pc = .ok (.invokevirtual index, 3))
    (hpre : ∀ vm₁, s.WarmedH vm₁ → Pre ⟨T.setVm vm₁, locs, cells, slots⟩ (Value.ref b :: argsL).toArray) :
    (∃ (v : Option Value) (vm₁ : Vm) (B : Pt), s.WarmedH vm₁ ∧ Stand p l e R s m args below meth c B.U B.locs B.cells B.slots ∧ Post ⟨T.setVm vm₁, locs, cells, slots⟩ (Value.ref b :: argsL).toArray v B ∧
      ∀ target, Steps p.tables e below (B.U.setTop { g with pc := g.pc + 3, stack := v.toList ++ rest }) target → Steps p.tables e below (T.setTop g) target) ∨
    (∃ (q : Addr) (vm₁ : Vm) (B : Pt), s.WarmedH vm₁ ∧ Stand p l e R s m args below meth c B.U B.locs B.cells B.slots ∧ PostX ⟨T.setVm vm₁, locs, cells, slots⟩ (Value.ref b :: argsL).toArray q B ∧
      Steps p.tables e below (T.setTop g) ((B.U.setTop { g with stack := rest }).pushFrame (.throwing q))) := by
  obtain ⟨mk, methM, hnamed, hmethM, hstM, habM⟩ := Cond.instanceMethod_spec hinst
  obtain ⟨m8, methM', cM, hn8, hmethM', -, -, -, -, -, -, hsigM⟩ := Cond.codeWith_spec hcode
  cases Option.some.inj (hn8.symm.trans hnamed)
  cases hmethM.symm.trans hmethM'
  obtain ⟨c2, r2, m2, q1, q2, q3, q4, kP, hkP, hkPi⟩ := Cond.selects_spec hsel
  cases hcls.symm.trans q1
  cases (State.methodFound?_of_named hnamed hy).symm.trans q2
  cases hnamed.symm.trans q3
  have hselP : selectMethod e.platform s.vm cellB.cls mk = .method mk := by rw [Launch.admits_selectMethod X.admits]; exact q4
  obtain ⟨vm₁, X₁, hstep₁⟩ := X.invokevirtual hexec hown hlink hnamed hmethM hstM hkP hkPi hy (a := b) (cell := cellB) hcell
    (fun z h => by rw [h] at hobj; cases hobj) hselP hmethM habM hkP hkPi (g := g) hg (argsL := argsL) (rest := rest) (hlen _ hsigM) hstack hdg
  rcases hK m meth c ⟨T.setVm vm₁, locs, cells, slots⟩ { g with stack := rest } (.invokevirtual index) mk (Value.ref b :: argsL).toArray X₁ hg hsize hdg hW (X₁.named hnamed) (hpre vm₁ X₁.warmed) with ⟨v, B, X', hpost, hsteps⟩ | ⟨q, B, X', hpost, hsteps⟩
  · exact Or.inl ⟨v, vm₁, B, X₁.warmed, X', hpost, fun target h => hstep₁ _ fun acts => by rw [doInvoke_state]; exact hsteps.trans h⟩
  · exact Or.inr ⟨q, vm₁, B, X₁.warmed, X', hpost, hstep₁ _ fun acts => by rw [doInvoke_state]; exact hsteps⟩
theorem vx_callSX (X : Stand p l e R s m args below meth c T locs cells slots) (hexec : p.tables.exec = Jvm.exec) {own : String} {index : Nat} {y : MethodName} {bytes : ByteArray} {maxL : Nat} {ret : Option FieldType} {hh : List (Nat × Nat × Nat × Nat)}
    (hown : s.vm.findClass own = some m.cls) (hlink : (Cond.methodLink own index y).before args s = true) (hstat : (Cond.static y).before args s = true) (hinit : (Cond.initialized y.cls).before args s = true)
    (hcode : (Cond.codeWith y bytes maxL ret hh).before args s = true) (hy : y.cls ≠ "java/lang/invoke/MethodHandle" ∧ y.cls ≠ "java/lang/invoke/VarHandle")
    {W9 : Nat} {Pre : Pt → Array Value → Prop} {Post : Pt → Array Value → Option Value → Pt → Prop} {PostX : Pt → Array Value → Addr → Pt → Prop} (hK : vx_Back l R p e below s args y 3 W9 Pre Post PostX)
    {g : JFrame} (hg : g.method = m) (hsize : g.locals.size = c.maxLocals) {argsL rest : List Value} (hlen : ∀ sig, parseMethodDescriptor y.desc = some sig → argsL.length = sig.parameters.length)
    (hstack : g.stack = argsL.reverse ++ rest) (hW : 2 * g.monitorRoom + (rest.map fun v => v.category).sum ≤ W9) (hdg : decode c.code g.pc = .ok (.invokestatic index, 3))
    (hpre : ∀ vm₁, s.WarmedH vm₁ → Pre ⟨T.setVm vm₁, locs, cells, slots⟩ argsL.toArray) :
    (∃ (v : Option Value) (vm₁ : Vm) (B : Pt), s.WarmedH vm₁ ∧ Stand p l e R s m args below meth c B.U B.locs B.cells B.slots ∧ Post ⟨T.setVm vm₁, locs, cells, slots⟩ argsL.toArray v B ∧
      ∀ target, Steps p.tables e below (B.U.setTop { g with pc := g.pc + 3, stack := v.toList ++ rest }) target → Steps p.tables e below (T.setTop g) target) ∨
    (∃ (q : Addr) (vm₁ : Vm) (B : Pt), s.WarmedH vm₁ ∧ Stand p l e R s m args below meth c B.U B.locs B.cells B.slots ∧ PostX ⟨T.setVm vm₁, locs, cells, slots⟩ argsL.toArray q B ∧
      Steps p.tables e below (T.setTop g) ((B.U.setTop { g with stack := rest }).pushFrame (.throwing q))) := by
  obtain ⟨mk, methM, cM, hnamed, hmethM, -, -, -, -, -, -, hsigM⟩ := Cond.codeWith_spec hcode
  have hstatic : methM.isStatic = true := Cond.static_spec hnamed hmethM hstat
  obtain ⟨kP, hkP, -⟩ := className_of_methodNamed hnamed
  have hinitP : kP.init = .initialized := Cond.initialized_spec (findClass_of_methodNamed hnamed) hkP hinit
  obtain ⟨vm₁, X₁, hstep₁⟩ := X.invokestatic hexec hown hlink hnamed hmethM hstatic hkP hinitP hy (g := g) hg (argsL := argsL) (rest := rest) (hlen _ hsigM) hstack hdg
  rcases hK m meth c ⟨T.setVm vm₁, locs, cells, slots⟩ { g with stack := rest } (.invokestatic index) mk argsL.toArray X₁ hg hsize hdg hW (X₁.named hnamed) (hpre vm₁ X₁.warmed) with ⟨v, B, X', hpost, hsteps⟩ | ⟨q, B, X', hpost, hsteps⟩
  · exact Or.inl ⟨v, vm₁, B, X₁.warmed, X', hpost, fun target h => hstep₁ _ fun acts => by rw [doInvoke_state]; exact hsteps.trans h⟩
  · exact Or.inr ⟨q, vm₁, B, X₁.warmed, X', hpost, hstep₁ _ fun acts => by rw [doInvoke_state]; exact hsteps⟩
theorem vx_callVW (X : Stand p l e R s m args below meth c T locs cells slots) (hexec : p.tables.exec = Jvm.exec) {own C : String} {index : Nat} {y : MethodName} {bytes : ByteArray} {maxL : Nat} {ret : Option FieldType} {hh : List (Nat × Nat × Nat × Nat)}
    (hown : s.vm.findClass own = some m.cls) (hlink : (Cond.methodLink own index y).before args s = true) (hinst : (Cond.instanceMethod y).before args s = true) (hsel : (Cond.selects C y y).before args s = true)
    (hcode : (Cond.codeWith y bytes maxL ret hh).before args s = true) (hy : y.cls ≠ "java/lang/invoke/MethodHandle" ∧ y.cls ≠ "java/lang/invoke/VarHandle")
    {W9 : Nat} {Pre : Pt → Array Value → Prop} {Post : Pt → Array Value → Option Value → Pt → Prop} (hK : Back l R p e below s args y 3 W9 Pre Post)
    {b : Addr} {cellB : Cell} (hcell : T.heap[b]? = some cellB) (hobj : cellB.vm.isStatics = false) (hcls : s.vm.findClass C = some cellB.cls)
    {g : JFrame} (hg : g.method = m) (hsize : g.locals.size = c.maxLocals) {argsL rest : List Value} (hlen : ∀ sig, parseMethodDescriptor y.desc = some sig → argsL.length = sig.parameters.length)
    (hstack : g.stack = argsL.reverse ++ .ref b :: rest) (hW : 2 * g.monitorRoom + (rest.map fun v => v.category).sum ≤ W9) (hdg : decode c.code g.pc = .ok (.invokevirtual index, 3))
    (hpre : ∀ vm₁, s.WarmedH vm₁ → Pre ⟨T.setVm vm₁, locs, cells, slots⟩ (Value.ref b :: argsL).toArray) :
    ∃ (v : Option Value) (vm₁ : Vm) (B : Pt), s.WarmedH vm₁ ∧ Stand p l e R s m args below meth c B.U B.locs B.cells B.slots ∧ Post ⟨T.setVm vm₁, locs, cells, slots⟩ (Value.ref b :: argsL).toArray v B ∧
      ∀ target, Steps p.tables e below (B.U.setTop { g with pc := g.pc + 3, stack := v.toList ++ rest }) target → Steps p.tables e below (T.setTop g) target := by
  obtain ⟨mk, methM, hnamed, hmethM, hstM, habM⟩ := Cond.instanceMethod_spec hinst
  obtain ⟨m8, methM', cM, hn8, hmethM', -, -, -, -, -, -, hsigM⟩ := Cond.codeWith_spec hcode
  cases Option.some.inj (hn8.symm.trans hnamed)
  cases hmethM.symm.trans hmethM'
  obtain ⟨c2, r2, m2, q1, q2, q3, q4, kP, hkP, hkPi⟩ := Cond.selects_spec hsel
  cases hcls.symm.trans q1
  cases (State.methodFound?_of_named hnamed hy).symm.trans q2
  cases hnamed.symm.trans q3
  have hselP : selectMethod e.platform s.vm cellB.cls mk = .method mk := by rw [Launch.admits_selectMethod X.admits]; exact q4
  obtain ⟨vm₁, X₁, hstep₁⟩ := X.invokevirtual hexec hown hlink hnamed hmethM hstM hkP hkPi hy (a := b) (cell := cellB) hcell
    (fun z h => by rw [h] at hobj; cases hobj) hselP hmethM habM hkP hkPi (g := g) hg (argsL := argsL) (rest := rest) (hlen _ hsigM) hstack hdg
  obtain ⟨v, B, X', hpost, hsteps⟩ := hK m meth c ⟨T.setVm vm₁, locs, cells, slots⟩ { g with stack := rest } (.invokevirtual index) mk (Value.ref b :: argsL).toArray X₁ hg hsize hdg hW (X₁.named hnamed) (hpre vm₁ X₁.warmed)
  exact ⟨v, vm₁, B, X₁.warmed, X', hpost, fun target h => hstep₁ _ fun acts => by rw [doInvoke_state]; exact hsteps.trans h⟩
abbrev vx_CVW (R : Room) (s : State) (args : Array Value) (own C : String) (index : Nat) (y : MethodName) (bytes : ByteArray) (maxL : Nat) (ret : Option FieldType) (hh : List (Nat × Nat × Nat × Nat)) (ws : List Cond) (rm : Room) (mc ms n : Nat) : Prop :=
  (rm.cells = mc ∧ rm.slots = ms ∧ rm.frames + 1 ≤ R.frames ∧ 8 + (maxL + 11) + rm.locals ≤ R.locals ∧ (∀ w ∈ ws, ∀ (a' : Array Value) (U : State), s.WarmedH U.vm → w.before a' U = true) ∧ Cond.codeWith y bytes maxL ret hh ∈ ws) ∧
  (Cond.codeWith y bytes maxL ret hh).before args s = true ∧ (Cond.initialized y.cls).before args s = true ∧ (y.cls ≠ "java/lang/invoke/MethodHandle" ∧ y.cls ≠ "java/lang/invoke/VarHandle") ∧
  (∀ sig, parseMethodDescriptor y.desc = some sig → n = sig.parameters.length) ∧ (Cond.methodLink own index y).before args s = true ∧ (Cond.instanceMethod y).before args s = true ∧ (Cond.selects C y y).before args s = true
theorem vx_cwVW {own C : String} {index maxL mc ms : Nat} {y : MethodName} {bytes : ByteArray} {ret : Option FieldType} {hh : List (Nat × Nat × Nat × Nat)} {Ts ws ws' : List Cond} {rm : Room} (n : Nat) (ht : ∀ w ∈ Ts, w.before args s = true) (hT : GoodIn Ts (wsV own index C y ws)) (hw : ws = Cond.codeWith y bytes maxL ret hh :: ws') (hrc : rm.cells = mc) (hrs : rm.slots = ms)
    (hd : y.cls = C ∧ y.cls ≠ "java/lang/invoke/MethodHandle" ∧ y.cls ≠ "java/lang/invoke/VarHandle" ∧ (parseMethodDescriptor y.desc).map (fun d => d.parameters.length) = some n) (hR : rm.frames + 1 ≤ R.frames ∧ 8 + (maxL + 11) + rm.locals ≤ R.locals) :
    vx_CVW R s args own C index y bytes maxL ret hh ws rm mc ms n := by
  obtain ⟨hC, hd⟩ := hd
  subst hC
  have ok : ∀ w ∈ wsV own index y.cls y ws, w.before args s = true := fun w h => ht w (hT w h).1
  have hG : GoodIn Ts ws := fun w h => hT w (by unfold wsV; exact List.mem_append_right _ h)
  have hc : Cond.codeWith y bytes maxL ret hh ∈ ws := by rw [hw]; exact List.mem_cons_self
  refine ⟨⟨hrc, hrs, hR.1, hR.2, pay_in ht hG, hc⟩, ht _ (hG _ hc).1, ok _ (by simp [wsV]), ⟨hd.1, hd.2.1⟩, fun sig h => ?_, ok _ (by simp [wsV]), ok _ (by simp [wsV]), ok _ (by simp [wsV])⟩
  have h2 := hd.2.2
  rw [h] at h2
  exact (Option.some.inj h2).symm
theorem vx_runVW {y : MethodName} {bytes cc : ByteArray} {maxL nL mc ms n index : Nat} {ret : Option FieldType} {hh : List (Nat × Nat × Nat × Nat)} {ws : List Cond} {rm : Room} {Pc : Array Value → State → Prop} {Qc : Array Value → State → Outcome → State → Prop} {free : Addr → Prop} {Ts : List Cond} {own C : String} {b : Addr} {As rest : List Value} {g : JFrame}
    (S : CallFix p m c cc nL s args Ts own) (hM : Met l y ws rm Pc Qc mc ms free) (cw : vx_CVW R s args own C index y bytes maxL ret hh ws rm mc ms n) (hp : PreV s H C b Pc As)
    (hg : g.method = m) (hn : As.length = n) (hsize : g.locals.size = nL) (hstack : g.stack = As.reverse ++ .ref b :: rest) (hW : 2 * g.monitorRoom + (rest.map fun v => v.category).sum ≤ 8) (hdg : decode cc g.pc = .ok (.invokevirtual index, 3)) (hf : cells + mc ≤ R.cells ∧ slots + ms ≤ R.slots) :
    va_Run p l e R s m args below meth c H locs cells slots mc ms g rest (Qc (Value.ref b :: As).toArray) free := by
  obtain ⟨⟨hrc, hrs, hfr, hlo, hws, hcw⟩, hcode, hini, hy, hlen, hl, hin, hse⟩ := cw
  have hK : Back l R p e below s args y 3 8 (PreOf R mc ms Pc) (PostOf Qc mc ms free) := va_backW (hh := hh) (bytes := bytes) (maxL := maxL) (ret := ret) hM hp.1 hrc hrs hfr hlo hws hcw (fun a' U hW => word_at hW (Or.inl (by first | rfl | simp [Cond.onTables, Cond.keeps, Cond.steady])) hini)
  obtain ⟨hx, hb, hml, ho, -⟩ := S
  obtain ⟨-, ⟨cellB, hcB, hoB, hclB⟩, hPc⟩ := hp
  intro T hT X
  obtain ⟨v, vm₁, ⟨U', l2, c2, s2⟩, hW₁, X', ⟨g', mk, t, L, e1, e2, hq, h1, hL, h2, h3⟩, st⟩ := vx_callVW X hx (C := C) (hh := hh) (bytes := bytes) (maxL := maxL) (ret := ret) ho hl hin hse hcode hy hK (by rw [hT]; exact hcB) hoB hclB hg (hsize.trans hml.symm) (argsL := As) (rest := rest) (fun sig h => hn.trans (hlen sig h)) hstack hW (by rw [hb]; exact hdg)
    (fun vm₁ hW₁ => ⟨hf.1, hf.2, hPc (T.setVm vm₁) hT hW₁⟩)
  dsimp only [Pt.U, Pt.locs, Pt.cells, Pt.slots] at X' e1 e2 h1 h2 h3 st
  subst h1; subst h2; subst h3
  exact ⟨v, (T.setVm vm₁).calling g' mk (Value.ref b :: As).toArray, t, U', L, hT, X', hL, e1, e2, hq, st⟩
section
variable {y : MethodName} {bytes cc : ByteArray} {maxL nL mc ms n index : Nat} {ret : Option FieldType} {ws : List Cond} {rm : Room} {Pc : Array Value → State → Prop} {Qc : Array Value → State → Outcome → State → Prop} {XC : String → State → State → Prop} {free : Addr → Prop} {Ts : List Cond} {own C : String} {b : Addr} {As rest : List Value} {g : JFrame}
theorem vx_runVX {hh : List (Nat × Nat × Nat × Nat)} (S : CallFix p m c cc nL s args Ts own) (hM : vx_Met l y ws rm Pc Qc XC mc ms free) (cw : vx_CVW R s args own C index y bytes maxL ret hh ws rm mc ms n) (hp : PreV s H C b Pc As)
    (hg : g.method = m) (hn : As.length = n) (hsize : g.locals.size = nL) (hstack : g.stack = As.reverse ++ .ref b :: rest) (hW : 2 * g.monitorRoom + (rest.map fun v => v.category).sum ≤ 8) (hdg : decode cc g.pc = .ok (.invokevirtual index, 3)) (hf : cells + mc ≤ R.cells ∧ slots + ms ≤ R.slots) :
    vx_Run p l e R s m args below meth c H locs cells slots mc ms g rest (Qc (Value.ref b :: As).toArray) XC free := by
  obtain ⟨⟨hrc, hrs, hfr, hlo, hws, hcw⟩, hcode, hini, hy, hlen, hl, hin, hse⟩ := cw
  have hK : vx_Back l R p e below s args y 3 8 (PreOf R mc ms Pc) (PostOf Qc mc ms free) (vx_Post XC mc ms free) := vx_backW (hh := hh) (bytes := bytes) (maxL := maxL) (ret := ret) hM hp.1 hrc hrs hfr hlo hws hcw (fun a' U hW => word_at hW (Or.inl (by first | rfl | simp [Cond.onTables, Cond.keeps, Cond.steady])) hini)
  obtain ⟨hx, hb, hml, ho, -⟩ := S
  obtain ⟨-, ⟨cellB, hcB, hoB, hclB⟩, hPc⟩ := hp
  intro T hT X
  rcases vx_callVX X hx (C := C) (hh := hh) (bytes := bytes) (maxL := maxL) (ret := ret) ho hl hin hse hcode hy hK (by rw [hT]; exact hcB) hoB hclB hg (hsize.trans hml.symm) (argsL := As) (rest := rest) (fun sig h => hn.trans (hlen sig h)) hstack hW (by rw [hb]; exact hdg)
    (fun vm₁ hW₁ => ⟨hf.1, hf.2, hPc (T.setVm vm₁) hT hW₁⟩) with ⟨v, vm₁, ⟨U', l2, c2, s2⟩, hW₁, X', ⟨g', mk, t, L, e1, e2, hq, h1, hL, h2, h3⟩, st⟩ | ⟨q, vm₁, ⟨U', l2, c2, s2⟩, hW₁, X', ⟨g', mk, t, L, E, ce, e1, e2, hq, hce, hcv, hcl, h1, hL, h2, h3⟩, st⟩
  · dsimp only [Pt.U, Pt.locs, Pt.cells, Pt.slots] at X' e1 e2 h1 h2 h3 st
    subst h1; subst h2; subst h3
    exact Or.inl ⟨v, (T.setVm vm₁).calling g' mk (Value.ref b :: As).toArray, t, U', L, hT, X', hL, e1, e2, hq, st⟩
  · dsimp only [Pt.U, Pt.locs, Pt.cells, Pt.slots] at X' e1 e2 h1 h2 h3 st hcl
    subst h1; subst h2; subst h3
    exact Or.inr ⟨q, (T.setVm vm₁).calling g' mk (Value.ref b :: As).toArray, t, U', L, E, ce, hT, X', hL, e1, e2, hq, hce, hcv, vx_cls hW₁ hcl, st⟩
theorem vx_runSX {hh : List (Nat × Nat × Nat × Nat)} (S : CallFix p m c cc nL s args Ts own) (hM : vx_Met l y ws rm Pc Qc XC mc ms free) (cw : vx_CSW R s args own index y bytes maxL ret hh ws rm mc ms n) (hp : PreS s H Pc As)
    (hg : g.method = m) (hn : As.length = n) (hsize : g.locals.size = nL) (hstack : g.stack = As.reverse ++ rest) (hW : 2 * g.monitorRoom + (rest.map fun v => v.category).sum ≤ 8) (hdg : decode cc g.pc = .ok (.invokestatic index, 3)) (hf : cells + mc ≤ R.cells ∧ slots + ms ≤ R.slots) :
    vx_Run p l e R s m args below meth c H locs cells slots mc ms g rest (Qc As.toArray) XC free := by
  obtain ⟨⟨hrc, hrs, hfr, hlo, hws, hcw⟩, hcode, hini, hy, hlen, hl, hstt⟩ := cw
  have hK : vx_Back l R p e below s args y 3 8 (PreOf R mc ms Pc) (PostOf Qc mc ms free) (vx_Post XC mc ms free) := vx_backW (hh := hh) (bytes := bytes) (maxL := maxL) (ret := ret) hM hp.1 hrc hrs hfr hlo hws hcw (fun a' U hW => word_at hW (Or.inl (by first | rfl | simp [Cond.onTables, Cond.keeps, Cond.steady])) hini)
  obtain ⟨hx, hb, hml, ho, -⟩ := S
  intro T hT X
  rcases vx_callSX X hx (hh := hh) (bytes := bytes) (maxL := maxL) (ret := ret) ho hl hstt hini hcode hy hK hg (hsize.trans hml.symm) (argsL := As) (rest := rest) (fun sig h => hn.trans (hlen sig h)) hstack hW (by rw [hb]; exact hdg)
    (fun vm₁ hW₁ => ⟨hf.1, hf.2, hp.2 (T.setVm vm₁) hT hW₁⟩) with ⟨v, vm₁, ⟨U', l2, c2, s2⟩, hW₁, X', ⟨g', mk, t, L, e1, e2, hq, h1, hL, h2, h3⟩, st⟩ | ⟨q, vm₁, ⟨U', l2, c2, s2⟩, hW₁, X', ⟨g', mk, t, L, E, ce, e1, e2, hq, hce, hcv, hcl, h1, hL, h2, h3⟩, st⟩
  · dsimp only [Pt.U, Pt.locs, Pt.cells, Pt.slots] at X' e1 e2 h1 h2 h3 st
    subst h1; subst h2; subst h3
    exact Or.inl ⟨v, (T.setVm vm₁).calling g' mk As.toArray, t, U', L, hT, X', hL, e1, e2, hq, st⟩
  · dsimp only [Pt.U, Pt.locs, Pt.cells, Pt.slots] at X' e1 e2 h1 h2 h3 st hcl
    subst h1; subst h2; subst h3
    exact Or.inr ⟨q, (T.setVm vm₁).calling g' mk As.toArray, t, U', L, E, ce, hT, X', hL, e1, e2, hq, hce, hcv, vx_cls hW₁ hcl, st⟩
end
end VXH
theorem vx_ofWH {l : Launch} {y : MethodName} {ws ws' : List Cond} {rm : Room} {Pc : Array Value → State → Prop} {Qc : Array Value → State → Outcome → State → Prop} {XC : String → State → State → Prop} {mc ms : Nat} {free : Addr → Prop} {cc : ByteArray} {maxL : Nat} {ret : Option FieldType} {hh : List (Nat × Nat × Nat × Nat)}
    (hy : plainName y.cls = true) (hw : ws = Cond.codeWith y cc maxL ret hh :: ws')
    (body : ∀ p e s m args below meth c s₁, BodyLoose p l y (headSpec ws rm) cc maxL ret e s m args below meth c s₁ → c.maxLocals = maxL → Pc args s →
      W p l e (headSpec ws rm).room s m args below meth c s.heap [] 0 0 (vx_MQ below Qc XC args s mc ms free) (entryFrame m args maxL)) : vx_Met l y ws rm Pc Qc XC mc ms free := by
  refine MetFree.of_bodyS (code := cc) (maxLocals := maxL) (ret := ret) hy ?_ ?_
  · intro args s m h hn
    obtain ⟨m9, meth, c, hn9, h1, h2, h3, h4, -, h5, h6, -⟩ := Cond.codeWith_spec (atoms_spec (ws := ws) h _ (by rw [hw]; exact List.mem_cons_self))
    cases hn.symm.trans hn9
    exact ⟨meth, c, h1, h2, h3, h4, h5, h6⟩
  · intro p e s m args below meth c s₁ B hml hP _
    have hh0 : s₁.heap = s.heap := by rw [B.state]; rfl
    obtain ⟨t, a1, o, b1, b2, b3⟩ := body p e s m args below meth c s₁ B hml hP s₁ hh0 (Stand.of_body B)
    exact ⟨t, o, a1, b1, b2, b3⟩
/-! ===== END ===== -/
end
section
-- printed names (NAMES.whole), then one list of words for all methods, decode tables
def RX0 : String := "ScriptPages$History"
def TX0 : u_T := fun k => match k with
  | 0 => ("ScriptPages$History", "states", "[LScriptPages$Script;", true)
  | _ => ("ScriptPages$History", "count", "I", false)
def tyX0 : Nat → FieldType := fun k => match k with
  | 0 => .array (.object "ScriptPages$Script")
  | _ => .int
abbrev wsX00 : List Cond := u_ws RX0 TX0 2
theorem nmX0 : ∀ a, a < 2 → ∀ b, b < 2 → a ≠ b → (TX0 a).2.1 ≠ (TX0 b).2.1 := by decide +kernel
theorem tyX0_ok : ∀ k, k < 2 → parseFieldDescriptor (TX0 k).2.2.1 = some (tyX0 k) := by decide +kernel
abbrev cX0_init : ByteArray := prog_2_method_1_code
def yX0_init : MethodName := ⟨RX0, "<init>", "()V"⟩
abbrev cX0_store : ByteArray := prog_2_method_2_code
def yX0_store : MethodName := ⟨RX0, "store", "(LScriptPages$Script;)V"⟩
abbrev cX0_dropOldest : ByteArray := prog_2_method_3_code
def yX0_dropOldest : MethodName := ⟨RX0, "dropOldest", "()V"⟩
abbrev cX0_giveBack : ByteArray := prog_2_method_4_code
def yX0_giveBack : MethodName := ⟨RX0, "giveBack", "(LScriptPages$Script;)V"⟩
abbrev cX0_stateAt : ByteArray := prog_2_method_5_code
def yX0_stateAt : MethodName := ⟨RX0, "stateAt", "(I)LScriptPages$Script;"⟩
def RX1 : String := "ScriptPages$Pages"
def TX1 : u_T := fun k => match k with
  | 0 => ("ScriptPages$Pages", "count", "I", false)
  | 1 => ("ScriptPages$Pages", "markCount", "I", false)
  | 2 => ("ScriptPages$Pages", "splitCount", "I", false)
  | 3 => ("ScriptPages$Pages", "limit", "I", false)
  | 4 => ("ScriptPages$Pages", "filled", "I", false)
  | 5 => ("ScriptPages$Pages", "needs", "LScriptPages$Row;", true)
  | 6 => ("ScriptPages$Pages", "places", "LScriptPages$Row;", true)
  | 7 => ("ScriptPages$Pages", "tops", "LScriptPages$Row;", true)
  | 8 => ("ScriptPages$Pages", "parts", "LScriptPages$Row;", true)
  | 9 => ("ScriptPages$Pages", "numbers", "LScriptPages$Row;", true)
  | 10 => ("ScriptPages$Pages", "extras", "LScriptPages$Row;", true)
  | 11 => ("ScriptPages$Pages", "fills", "LScriptPages$Row;", true)
  | 12 => ("ScriptPages$Pages", "firsts", "LScriptPages$Row;", true)
  | _ => ("ScriptPages$Pages", "begins", "LScriptPages$Row;", true)
def tyX1 : Nat → FieldType := fun k => match k with
  | 0 => .int
  | 1 => .int
  | 2 => .int
  | 3 => .int
  | 4 => .int
  | 5 => .object "ScriptPages$Row"
  | 6 => .object "ScriptPages$Row"
  | 7 => .object "ScriptPages$Row"
  | 8 => .object "ScriptPages$Row"
  | 9 => .object "ScriptPages$Row"
  | 10 => .object "ScriptPages$Row"
  | 11 => .object "ScriptPages$Row"
  | 12 => .object "ScriptPages$Row"
  | _ => .object "ScriptPages$Row"
abbrev wsX10 : List Cond := u_ws RX1 TX1 14
theorem nmX1 : ∀ a, a < 14 → ∀ b, b < 14 → a ≠ b → (TX1 a).2.1 ≠ (TX1 b).2.1 := by decide +kernel
theorem tyX1_ok : ∀ k, k < 14 → parseFieldDescriptor (TX1 k).2.2.1 = some (tyX1 k) := by decide +kernel
abbrev cX1_init : ByteArray := prog_3_method_1_code
def yX1_init : MethodName := ⟨RX1, "<init>", "()V"⟩
abbrev cX1_arrange : ByteArray := prog_3_method_2_code
def yX1_arrange : MethodName := ⟨RX1, "arrange", "(LScriptPages$Script;)I"⟩
abbrev cX1_findNeeds : ByteArray := prog_3_method_3_code
def yX1_findNeeds : MethodName := ⟨RX1, "findNeeds", "(LScriptPages$Script;)V"⟩
abbrev cX1_leastPart : ByteArray := prog_3_method_4_code
def yX1_leastPart : MethodName := ⟨RX1, "leastPart", "(II)I"⟩
abbrev cX1_holdsNext : ByteArray := prog_3_method_5_code
def yX1_holdsNext : MethodName := ⟨RX1, "holdsNext", "(LScriptPages$Script;I)Z"⟩
abbrev cX1_mustTurn : ByteArray := prog_3_method_6_code
def yX1_mustTurn : MethodName := ⟨RX1, "mustTurn", "(LScriptPages$Script;I)Z"⟩
abbrev cX1_turnPage : ByteArray := prog_3_method_7_code
def yX1_turnPage : MethodName := ⟨RX1, "turnPage", "()V"⟩
abbrev cX1_fill : ByteArray := prog_3_method_8_code
def yX1_fill : MethodName := ⟨RX1, "fill", "(I)V"⟩
abbrev cX1_setElement : ByteArray := prog_3_method_9_code
def yX1_setElement : MethodName := ⟨RX1, "setElement", "(LScriptPages$Script;I)V"⟩
abbrev cX1_firstPart : ByteArray := prog_3_method_10_code
def yX1_firstPart : MethodName := ⟨RX1, "firstPart", "(III)I"⟩
abbrev cX1_noteBegin : ByteArray := prog_3_method_11_code
def yX1_noteBegin : MethodName := ⟨RX1, "noteBegin", "(II)V"⟩
abbrev cX1_carryOver : ByteArray := prog_3_method_12_code
def yX1_carryOver : MethodName := ⟨RX1, "carryOver", "(II)V"⟩
abbrev cX1_countMarks : ByteArray := prog_3_method_13_code
def yX1_countMarks : MethodName := ⟨RX1, "countMarks", "(LScriptPages$Script;)V"⟩
abbrev cX1_label : ByteArray := prog_3_method_14_code
def yX1_label : MethodName := ⟨RX1, "label", "(LScriptPages$Script;)V"⟩
def RX2 : String := "ScriptPages$Reader"
def TX2 : u_T := fun k => match k with
  | 0 => ("ScriptPages$Reader", "text", "LScriptPages$Row;", true)
  | 1 => ("ScriptPages$Reader", "end", "I", true)
  | 2 => ("ScriptPages$Reader", "place", "I", false)
  | _ => ("ScriptPages$Reader", "error", "I", false)
def tyX2 : Nat → FieldType := fun k => match k with
  | 0 => .object "ScriptPages$Row"
  | 1 => .int
  | 2 => .int
  | _ => .int
abbrev wsX20 : List Cond := u_ws RX2 TX2 4
theorem nmX2 : ∀ a, a < 4 → ∀ b, b < 4 → a ≠ b → (TX2 a).2.1 ≠ (TX2 b).2.1 := by decide +kernel
theorem tyX2_ok : ∀ k, k < 4 → parseFieldDescriptor (TX2 k).2.2.1 = some (tyX2 k) := by decide +kernel
abbrev cX2_init : ByteArray := prog_4_method_1_code
def yX2_init : MethodName := ⟨RX2, "<init>", "(LScriptPages$Row;I)V"⟩
abbrev cX2_readInto : ByteArray := prog_4_method_2_code
def yX2_readInto : MethodName := ⟨RX2, "readInto", "(LScriptPages$Script;)I"⟩
abbrev cX2_readItem : ByteArray := prog_4_method_3_code
def yX2_readItem : MethodName := ⟨RX2, "readItem", "(LScriptPages$Script;)V"⟩
abbrev cX2_kindOf : ByteArray := prog_4_method_4_code
def yX2_kindOf : MethodName := ⟨RX2, "kindOf", "(I)I"⟩
abbrev cX2_readPerson : ByteArray := prog_4_method_5_code
def yX2_readPerson : MethodName := ⟨RX2, "readPerson", "()I"⟩
abbrev cX2_readsComma : ByteArray := prog_4_method_6_code
def yX2_readsComma : MethodName := ⟨RX2, "readsComma", "()Z"⟩
abbrev cX2_readLength : ByteArray := prog_4_method_7_code
def yX2_readLength : MethodName := ⟨RX2, "readLength", "()I"⟩
abbrev cX2_next : ByteArray := prog_4_method_8_code
def yX2_next : MethodName := ⟨RX2, "next", "()I"⟩
abbrev cX2_isDigit : ByteArray := prog_4_method_9_code
def yX2_isDigit : MethodName := ⟨RX2, "isDigit", "(I)Z"⟩
abbrev cX2_fail : ByteArray := prog_4_method_10_code
def yX2_fail : MethodName := ⟨RX2, "fail", "(I)V"⟩
def RX3 : String := "ScriptPages$Row"
def TX3 : u_T := fun k => match k with
  | _ => ("ScriptPages$Row", "cells", "[I", true)
def tyX3 : Nat → FieldType := fun k => match k with
  | _ => .array .int
abbrev wsX30 : List Cond := u_ws RX3 TX3 1
theorem nmX3 : ∀ a, a < 1 → ∀ b, b < 1 → a ≠ b → (TX3 a).2.1 ≠ (TX3 b).2.1 := by decide +kernel
theorem tyX3_ok : ∀ k, k < 1 → parseFieldDescriptor (TX3 k).2.2.1 = some (tyX3 k) := by decide +kernel
abbrev cX3_init : ByteArray := prog_5_method_1_code
def yX3_init : MethodName := ⟨RX3, "<init>", "(I)V"⟩
abbrev cX3_at : ByteArray := prog_5_method_2_code
def yX3_at : MethodName := ⟨RX3, "at", "(I)I"⟩
abbrev cX3_put : ByteArray := prog_5_method_3_code
def yX3_put : MethodName := ⟨RX3, "put", "(II)V"⟩
abbrev cX3_plus : ByteArray := prog_5_method_4_code
def yX3_plus : MethodName := ⟨RX3, "plus", "(II)V"⟩
abbrev cX3_openAt : ByteArray := prog_5_method_5_code
def yX3_openAt : MethodName := ⟨RX3, "openAt", "(II)V"⟩
abbrev cX3_closeAt : ByteArray := prog_5_method_6_code
def yX3_closeAt : MethodName := ⟨RX3, "closeAt", "(I)V"⟩
abbrev cX3_copyFrom : ByteArray := prog_5_method_7_code
def yX3_copyFrom : MethodName := ⟨RX3, "copyFrom", "(LScriptPages$Row;)V"⟩
def RX4 : String := "ScriptPages$Scenes"
def TX4 : u_T := fun k => match k with
  | 0 => ("ScriptPages$Scenes", "count", "I", false)
  | 1 => ("ScriptPages$Scenes", "lockedCount", "I", false)
  | 2 => ("ScriptPages$Scenes", "carriedCount", "I", false)
  | 3 => ("ScriptPages$Scenes", "headings", "LScriptPages$Row;", true)
  | 4 => ("ScriptPages$Scenes", "sizes", "LScriptPages$Row;", true)
  | 5 => ("ScriptPages$Scenes", "sums", "LScriptPages$Row;", true)
  | 6 => ("ScriptPages$Scenes", "firsts", "LScriptPages$Row;", true)
  | 7 => ("ScriptPages$Scenes", "seconds", "LScriptPages$Row;", true)
  | 8 => ("ScriptPages$Scenes", "thirds", "LScriptPages$Row;", true)
  | 9 => ("ScriptPages$Scenes", "limits", "LScriptPages$Row;", true)
  | 10 => ("ScriptPages$Scenes", "homes", "LScriptPages$Row;", true)
  | _ => ("ScriptPages$Scenes", "carries", "LScriptPages$Row;", true)
def tyX4 : Nat → FieldType := fun k => match k with
  | 0 => .int
  | 1 => .int
  | 2 => .int
  | 3 => .object "ScriptPages$Row"
  | 4 => .object "ScriptPages$Row"
  | 5 => .object "ScriptPages$Row"
  | 6 => .object "ScriptPages$Row"
  | 7 => .object "ScriptPages$Row"
  | 8 => .object "ScriptPages$Row"
  | 9 => .object "ScriptPages$Row"
  | 10 => .object "ScriptPages$Row"
  | _ => .object "ScriptPages$Row"
abbrev wsX40 : List Cond := u_ws RX4 TX4 12
theorem nmX4 : ∀ a, a < 12 → ∀ b, b < 12 → a ≠ b → (TX4 a).2.1 ≠ (TX4 b).2.1 := by decide +kernel
theorem tyX4_ok : ∀ k, k < 12 → parseFieldDescriptor (TX4 k).2.2.1 = some (tyX4 k) := by decide +kernel
abbrev cX4_init : ByteArray := prog_6_method_1_code
def yX4_init : MethodName := ⟨RX4, "<init>", "()V"⟩
abbrev cX4_has : ByteArray := prog_6_method_2_code
def yX4_has : MethodName := ⟨RX4, "has", "(I)Z"⟩
abbrev cX4_survey : ByteArray := prog_6_method_3_code
def yX4_survey : MethodName := ⟨RX4, "survey", "(LScriptPages$Script;)V"⟩
abbrev cX4_gather : ByteArray := prog_6_method_4_code
def yX4_gather : MethodName := ⟨RX4, "gather", "(LScriptPages$Script;)V"⟩
abbrev cX4_findCarriedNames : ByteArray := prog_6_method_5_code
def yX4_findCarriedNames : MethodName := ⟨RX4, "findCarriedNames", "(LScriptPages$Script;)V"⟩
abbrev cX4_findLimits : ByteArray := prog_6_method_6_code
def yX4_findLimits : MethodName := ⟨RX4, "findLimits", "(LScriptPages$Script;)V"⟩
abbrev cX4_label : ByteArray := prog_6_method_7_code
def yX4_label : MethodName := ⟨RX4, "label", "(LScriptPages$Script;)V"⟩
abbrev cX4_labelOpen : ByteArray := prog_6_method_8_code
def yX4_labelOpen : MethodName := ⟨RX4, "labelOpen", "(IIIII)V"⟩
abbrev cX4_putLabel : ByteArray := prog_6_method_9_code
def yX4_putLabel : MethodName := ⟨RX4, "putLabel", "(IIII)V"⟩
abbrev cX4_hasTwins : ByteArray := prog_6_method_10_code
def yX4_hasTwins : MethodName := ⟨RX4, "hasTwins", "()Z"⟩
abbrev cX4_areTwins : ByteArray := prog_6_method_11_code
def yX4_areTwins : MethodName := ⟨RX4, "areTwins", "(II)Z"⟩
def RX5 : String := "ScriptPages$Script"
def TX5 : u_T := fun k => match k with
  | 0 => ("ScriptPages$Script", "size", "I", false)
  | 1 => ("ScriptPages$Script", "pageLines", "I", false)
  | 2 => ("ScriptPages$Script", "kinds", "LScriptPages$Row;", true)
  | 3 => ("ScriptPages$Script", "lengths", "LScriptPages$Row;", true)
  | 4 => ("ScriptPages$Script", "persons", "LScriptPages$Row;", true)
  | 5 => ("ScriptPages$Script", "marks", "LScriptPages$Row;", true)
  | 6 => ("ScriptPages$Script", "locks", "LScriptPages$Row;", true)
  | 7 => ("ScriptPages$Script", "firsts", "LScriptPages$Row;", true)
  | 8 => ("ScriptPages$Script", "seconds", "LScriptPages$Row;", true)
  | _ => ("ScriptPages$Script", "thirds", "LScriptPages$Row;", true)
def tyX5 : Nat → FieldType := fun k => match k with
  | 0 => .int
  | 1 => .int
  | 2 => .object "ScriptPages$Row"
  | 3 => .object "ScriptPages$Row"
  | 4 => .object "ScriptPages$Row"
  | 5 => .object "ScriptPages$Row"
  | 6 => .object "ScriptPages$Row"
  | 7 => .object "ScriptPages$Row"
  | 8 => .object "ScriptPages$Row"
  | _ => .object "ScriptPages$Row"
abbrev wsX50 : List Cond := u_ws RX5 TX5 10
theorem nmX5 : ∀ a, a < 10 → ∀ b, b < 10 → a ≠ b → (TX5 a).2.1 ≠ (TX5 b).2.1 := by decide +kernel
theorem tyX5_ok : ∀ k, k < 10 → parseFieldDescriptor (TX5 k).2.2.1 = some (tyX5 k) := by decide +kernel
abbrev cX5_init : ByteArray := prog_7_method_1_code
def yX5_init : MethodName := ⟨RX5, "<init>", "()V"⟩
abbrev cX5_has : ByteArray := prog_7_method_2_code
def yX5_has : MethodName := ⟨RX5, "has", "(I)Z"⟩
abbrev cX5_isFull : ByteArray := prog_7_method_3_code
def yX5_isFull : MethodName := ⟨RX5, "isFull", "()Z"⟩
abbrev cX5_isHeading : ByteArray := prog_7_method_4_code
def yX5_isHeading : MethodName := ⟨RX5, "isHeading", "(I)Z"⟩
abbrev cX5_isLocked : ByteArray := prog_7_method_5_code
def yX5_isLocked : MethodName := ⟨RX5, "isLocked", "(I)Z"⟩
abbrev cX5_isOmitted : ByteArray := prog_7_method_6_code
def yX5_isOmitted : MethodName := ⟨RX5, "isOmitted", "(I)Z"⟩
abbrev cX5_linesOf : ByteArray := prog_7_method_7_code
def yX5_linesOf : MethodName := ⟨RX5, "linesOf", "(I)I"⟩
abbrev cX5_blanksAhead : ByteArray := prog_7_method_8_code
def yX5_blanksAhead : MethodName := ⟨RX5, "blanksAhead", "(I)I"⟩
abbrev cX5_clear : ByteArray := prog_7_method_9_code
def yX5_clear : MethodName := ⟨RX5, "clear", "()V"⟩
abbrev cX5_putIn : ByteArray := prog_7_method_10_code
def yX5_putIn : MethodName := ⟨RX5, "putIn", "(IIII)V"⟩
abbrev cX5_takeOut : ByteArray := prog_7_method_11_code
def yX5_takeOut : MethodName := ⟨RX5, "takeOut", "(I)V"⟩
abbrev cX5_lock : ByteArray := prog_7_method_12_code
def yX5_lock : MethodName := ⟨RX5, "lock", "(IIII)V"⟩
abbrev cX5_markOmitted : ByteArray := prog_7_method_13_code
def yX5_markOmitted : MethodName := ⟨RX5, "markOmitted", "(I)V"⟩
abbrev cX5_copyFrom : ByteArray := prog_7_method_14_code
def yX5_copyFrom : MethodName := ⟨RX5, "copyFrom", "(LScriptPages$Script;)V"⟩
def RX6 : String := "ScriptPages"
def TX6 : u_T := fun k => match k with
  | 0 => ("ScriptPages", "script", "LScriptPages$Script;", true)
  | 1 => ("ScriptPages", "draft", "LScriptPages$Script;", true)
  | 2 => ("ScriptPages", "scenes", "LScriptPages$Scenes;", true)
  | 3 => ("ScriptPages", "draftScenes", "LScriptPages$Scenes;", true)
  | 4 => ("ScriptPages", "pages", "LScriptPages$Pages;", true)
  | 5 => ("ScriptPages", "draftPages", "LScriptPages$Pages;", true)
  | 6 => ("ScriptPages", "history", "LScriptPages$History;", true)
  | 7 => ("ScriptPages", "text", "LScriptPages$Row;", true)
  | _ => ("ScriptPages", "textLength", "I", false)
def tyX6 : Nat → FieldType := fun k => match k with
  | 0 => .object "ScriptPages$Script"
  | 1 => .object "ScriptPages$Script"
  | 2 => .object "ScriptPages$Scenes"
  | 3 => .object "ScriptPages$Scenes"
  | 4 => .object "ScriptPages$Pages"
  | 5 => .object "ScriptPages$Pages"
  | 6 => .object "ScriptPages$History"
  | 7 => .object "ScriptPages$Row"
  | _ => .int
abbrev wsX60 : List Cond := u_ws RX6 TX6 9
theorem nmX6 : ∀ a, a < 9 → ∀ b, b < 9 → a ≠ b → (TX6 a).2.1 ≠ (TX6 b).2.1 := by decide +kernel
theorem tyX6_ok : ∀ k, k < 9 → parseFieldDescriptor (TX6 k).2.2.1 = some (tyX6 k) := by decide +kernel
abbrev cX6_init : ByteArray := prog_1_method_1_code
def yX6_init : MethodName := ⟨RX6, "<init>", "()V"⟩
abbrev cX6_insert : ByteArray := prog_1_method_2_code
def yX6_insert : MethodName := ⟨RX6, "insert", "(IIII)I"⟩
abbrev cX6_remove : ByteArray := prog_1_method_3_code
def yX6_remove : MethodName := ⟨RX6, "remove", "(I)I"⟩
abbrev cX6_setLength : ByteArray := prog_1_method_4_code
def yX6_setLength : MethodName := ⟨RX6, "setLength", "(II)I"⟩
abbrev cX6_setPage : ByteArray := prog_1_method_5_code
def yX6_setPage : MethodName := ⟨RX6, "setPage", "(I)I"⟩
abbrev cX6_lockScenes : ByteArray := prog_1_method_6_code
def yX6_lockScenes : MethodName := ⟨RX6, "lockScenes", "()I"⟩
abbrev cX6_omit : ByteArray := prog_1_method_7_code
def yX6_omit : MethodName := ⟨RX6, "omit", "(I)I"⟩
abbrev cX6_lockPages : ByteArray := prog_1_method_8_code
def yX6_lockPages : MethodName := ⟨RX6, "lockPages", "()I"⟩
abbrev cX6_value : ByteArray := prog_1_method_9_code
def yX6_value : MethodName := ⟨RX6, "value", "(I)I"⟩
abbrev cX6_element : ByteArray := prog_1_method_10_code
def yX6_element : MethodName := ⟨RX6, "element", "(II)I"⟩
abbrev cX6_scene : ByteArray := prog_1_method_11_code
def yX6_scene : MethodName := ⟨RX6, "scene", "(II)I"⟩
abbrev cX6_page : ByteArray := prog_1_method_12_code
def yX6_page : MethodName := ⟨RX6, "page", "(II)I"⟩
abbrev cX6_find : ByteArray := prog_1_method_13_code
def yX6_find : MethodName := ⟨RX6, "find", "(III)I"⟩
abbrev cX6_names : ByteArray := prog_1_method_14_code
def yX6_names : MethodName := ⟨RX6, "names", "(IZ)I"⟩
abbrev cX6_used : ByteArray := prog_1_method_15_code
def yX6_used : MethodName := ⟨RX6, "used", "()D"⟩
abbrev cX6_pagesWith : ByteArray := prog_1_method_16_code
def yX6_pagesWith : MethodName := ⟨RX6, "pagesWith", "(I)I"⟩
abbrev cX6_smallestPage : ByteArray := prog_1_method_17_code
def yX6_smallestPage : MethodName := ⟨RX6, "smallestPage", "(I)I"⟩
abbrev cX6_pagesBy : ByteArray := prog_1_method_18_code
def yX6_pagesBy : MethodName := ⟨RX6, "pagesBy", "(II)I"⟩
abbrev cX6_greatestLength : ByteArray := prog_1_method_19_code
def yX6_greatestLength : MethodName := ⟨RX6, "greatestLength", "(I)I"⟩
abbrev cX6_append : ByteArray := prog_1_method_20_code
def yX6_append : MethodName := ⟨RX6, "append", "(I)I"⟩
abbrev cX6_clearText : ByteArray := prog_1_method_21_code
def yX6_clearText : MethodName := ⟨RX6, "clearText", "()I"⟩
abbrev cX6_parse : ByteArray := prog_1_method_22_code
def yX6_parse : MethodName := ⟨RX6, "parse", "()I"⟩
abbrev cX6_undo : ByteArray := prog_1_method_23_code
def yX6_undo : MethodName := ⟨RX6, "undo", "()I"⟩
abbrev cX6_digest : ByteArray := prog_1_method_24_code
def yX6_digest : MethodName := ⟨RX6, "digest", "()J"⟩
abbrev cX6_keepDraft : ByteArray := prog_1_method_25_code
def yX6_keepDraft : MethodName := ⟨RX6, "keepDraft", "()V"⟩
abbrev cX6_repeatsLabel : ByteArray := prog_1_method_26_code
def yX6_repeatsLabel : MethodName := ⟨RX6, "repeatsLabel", "()Z"⟩
abbrev cX6_valueOf : ByteArray := prog_1_method_27_code
def yX6_valueOf : MethodName := ⟨RX6, "valueOf", "(I)I"⟩
abbrev cX6_elementFact : ByteArray := prog_1_method_28_code
def yX6_elementFact : MethodName := ⟨RX6, "elementFact", "(II)I"⟩
abbrev cX6_sceneFact : ByteArray := prog_1_method_29_code
def yX6_sceneFact : MethodName := ⟨RX6, "sceneFact", "(II)I"⟩
abbrev cX6_pageFact : ByteArray := prog_1_method_30_code
def yX6_pageFact : MethodName := ⟨RX6, "pageFact", "(II)I"⟩
abbrev cX6_eighths : ByteArray := prog_1_method_31_code
def yX6_eighths : MethodName := ⟨RX6, "eighths", "(I)I"⟩
abbrev cX6_isBelow : ByteArray := prog_1_method_32_code
def yX6_isBelow : MethodName := ⟨RX6, "isBelow", "(II)Z"⟩
abbrev cX6_isKind : ByteArray := prog_1_method_33_code
def yX6_isKind : MethodName := ⟨RX6, "isKind", "(I)Z"⟩
abbrev cX6_isLength : ByteArray := prog_1_method_34_code
def yX6_isLength : MethodName := ⟨RX6, "isLength", "(I)Z"⟩
abbrev cX6_isPersonOf : ByteArray := prog_1_method_35_code
def yX6_isPersonOf : MethodName := ⟨RX6, "isPersonOf", "(II)Z"⟩
abbrev cX6_isPageLines : ByteArray := prog_1_method_36_code
def yX6_isPageLines : MethodName := ⟨RX6, "isPageLines", "(I)Z"⟩
def RX7 : String := "ScriptPagesModel"
def TX7 : u_T := fun k => match k with
  | 0 => ("ScriptPagesModel", "s", "[I", true)
  | 1 => ("ScriptPagesModel", "past", "[I", true)
  | 2 => ("ScriptPagesModel", "aside", "[I", true)
  | 3 => ("ScriptPagesModel", "pasts", "I", false)
  | 4 => ("ScriptPagesModel", "text", "[I", true)
  | 5 => ("ScriptPagesModel", "typed", "I", false)
  | 6 => ("ScriptPagesModel", "thrown", "I", false)
  | 7 => ("ScriptPagesModel", "pageMany", "I", false)
  | 8 => ("ScriptPagesModel", "splits", "I", false)
  | 9 => ("ScriptPagesModel", "onPage", "[I", true)
  | 10 => ("ScriptPagesModel", "onLine", "[I", true)
  | 11 => ("ScriptPagesModel", "setHere", "[I", true)
  | 12 => ("ScriptPagesModel", "filled", "[I", true)
  | 13 => ("ScriptPagesModel", "firstOn", "[I", true)
  | 14 => ("ScriptPagesModel", "begun", "[I", true)
  | 15 => ("ScriptPagesModel", "labels", "[I", true)
  | 16 => ("ScriptPagesModel", "at", "I", false)
  | 17 => ("ScriptPagesModel", "number", "I", false)
  | _ => ("ScriptPagesModel", "h", "J", false)
def tyX7 : Nat → FieldType := fun k => match k with
  | 0 => .array .int
  | 1 => .array .int
  | 2 => .array .int
  | 3 => .int
  | 4 => .array .int
  | 5 => .int
  | 6 => .int
  | 7 => .int
  | 8 => .int
  | 9 => .array .int
  | 10 => .array .int
  | 11 => .array .int
  | 12 => .array .int
  | 13 => .array .int
  | 14 => .array .int
  | 15 => .array .int
  | 16 => .int
  | 17 => .int
  | _ => .long
abbrev wsX70 : List Cond := u_ws RX7 TX7 19
theorem nmX7 : ∀ a, a < 19 → ∀ b, b < 19 → a ≠ b → (TX7 a).2.1 ≠ (TX7 b).2.1 := by decide +kernel
theorem tyX7_ok : ∀ k, k < 19 → parseFieldDescriptor (TX7 k).2.2.1 = some (tyX7 k) := by decide +kernel
abbrev cX7_init : ByteArray := prog_9_method_1_code
def yX7_init : MethodName := ⟨RX7, "<init>", "()V"⟩
abbrev cX7_thrown : ByteArray := prog_9_method_2_code
def yX7_thrown : MethodName := ⟨RX7, "thrown", "()I"⟩
abbrev cX7_in : ByteArray := prog_9_method_3_code
def yX7_in : MethodName := ⟨RX7, "in", "(III)Z"⟩
abbrev cX7_fails : ByteArray := prog_9_method_4_code
def yX7_fails : MethodName := ⟨RX7, "fails", "(I)I"⟩
abbrev cX7_tells : ByteArray := prog_9_method_5_code
def yX7_tells : MethodName := ⟨RX7, "tells", "(I)I"⟩
abbrev cX7_copies : ByteArray := prog_9_method_6_code
def yX7_copies : MethodName := ⟨RX7, "copies", "([I[I)V"⟩
abbrev cX7_hold : ByteArray := prog_9_method_7_code
def yX7_hold : MethodName := ⟨RX7, "hold", "()V"⟩
abbrev cX7_ends : ByteArray := prog_9_method_8_code
def yX7_ends : MethodName := ⟨RX7, "ends", "(I)I"⟩
abbrev cX7_of : ByteArray := prog_9_method_9_code
def yX7_of : MethodName := ⟨RX7, "of", "(II)I"⟩
abbrev cX7_puts : ByteArray := prog_9_method_10_code
def yX7_puts : MethodName := ⟨RX7, "puts", "(III)V"⟩
abbrev cX7_isElement : ByteArray := prog_9_method_11_code
def yX7_isElement : MethodName := ⟨RX7, "isElement", "(I)Z"⟩
abbrev cX7_isHeading : ByteArray := prog_9_method_12_code
def yX7_isHeading : MethodName := ⟨RX7, "isHeading", "(I)Z"⟩
abbrev cX7_wide : ByteArray := prog_9_method_13_code
def yX7_wide : MethodName := ⟨RX7, "wide", "(I)I"⟩
abbrev cX7_lines : ByteArray := prog_9_method_14_code
def yX7_lines : MethodName := ⟨RX7, "lines", "(I)I"⟩
abbrev cX7_blanks : ByteArray := prog_9_method_15_code
def yX7_blanks : MethodName := ⟨RX7, "blanks", "(I)I"⟩
abbrev cX7_least : ByteArray := prog_9_method_16_code
def yX7_least : MethodName := ⟨RX7, "least", "(I)I"⟩
abbrev cX7_isText : ByteArray := prog_9_method_17_code
def yX7_isText : MethodName := ⟨RX7, "isText", "(I)Z"⟩
abbrev cX7_wantsNext : ByteArray := prog_9_method_18_code
def yX7_wantsNext : MethodName := ⟨RX7, "wantsNext", "(I)Z"⟩
abbrev cX7_need : ByteArray := prog_9_method_19_code
def yX7_need : MethodName := ⟨RX7, "need", "(I)I"⟩
abbrev cX7_sceneMany : ByteArray := prog_9_method_20_code
def yX7_sceneMany : MethodName := ⟨RX7, "sceneMany", "()I"⟩
abbrev cX7_headingOf : ByteArray := prog_9_method_21_code
def yX7_headingOf : MethodName := ⟨RX7, "headingOf", "(I)I"⟩
abbrev cX7_sceneOf : ByteArray := prog_9_method_22_code
def yX7_sceneOf : MethodName := ⟨RX7, "sceneOf", "(I)I"⟩
abbrev cX7_isLocked : ByteArray := prog_9_method_23_code
def yX7_isLocked : MethodName := ⟨RX7, "isLocked", "(I)Z"⟩
abbrev cX7_label : ByteArray := prog_9_method_24_code
def yX7_label : MethodName := ⟨RX7, "label", "(II)I"⟩
abbrev cX7_areTwo : ByteArray := prog_9_method_25_code
def yX7_areTwo : MethodName := ⟨RX7, "areTwo", "(II)Z"⟩
abbrev cX7_hasTwo : ByteArray := prog_9_method_26_code
def yX7_hasTwo : MethodName := ⟨RX7, "hasTwo", "()Z"⟩
abbrev cX7_isCarried : ByteArray := prog_9_method_27_code
def yX7_isCarried : MethodName := ⟨RX7, "isCarried", "(I)Z"⟩
abbrev cX7_newPage : ByteArray := prog_9_method_28_code
def yX7_newPage : MethodName := ⟨RX7, "newPage", "()V"⟩
abbrev cX7_sets : ByteArray := prog_9_method_29_code
def yX7_sets : MethodName := ⟨RX7, "sets", "(II)V"⟩
abbrev cX7_setsAll : ByteArray := prog_9_method_30_code
def yX7_setsAll : MethodName := ⟨RX7, "setsAll", "(I)V"⟩
abbrev cX7_pagesIf : ByteArray := prog_9_method_31_code
def yX7_pagesIf : MethodName := ⟨RX7, "pagesIf", "(I)I"⟩
abbrev cX7_marks : ByteArray := prog_9_method_32_code
def yX7_marks : MethodName := ⟨RX7, "marks", "()I"⟩
abbrev cX7_pageLabel : ByteArray := prog_9_method_33_code
def yX7_pageLabel : MethodName := ⟨RX7, "pageLabel", "(II)I"⟩
abbrev cX7_comes : ByteArray := prog_9_method_34_code
def yX7_comes : MethodName := ⟨RX7, "comes", "(IIII)V"⟩
abbrev cX7_goes : ByteArray := prog_9_method_35_code
def yX7_goes : MethodName := ⟨RX7, "goes", "(I)V"⟩
abbrev cX7_isLength : ByteArray := prog_9_method_36_code
def yX7_isLength : MethodName := ⟨RX7, "isLength", "(I)Z"⟩
abbrev cX7_insert : ByteArray := prog_9_method_37_code
def yX7_insert : MethodName := ⟨RX7, "insert", "(IIII)I"⟩
abbrev cX7_remove : ByteArray := prog_9_method_38_code
def yX7_remove : MethodName := ⟨RX7, "remove", "(I)I"⟩
abbrev cX7_setLength : ByteArray := prog_9_method_39_code
def yX7_setLength : MethodName := ⟨RX7, "setLength", "(II)I"⟩
abbrev cX7_isPage : ByteArray := prog_9_method_40_code
def yX7_isPage : MethodName := ⟨RX7, "isPage", "(I)Z"⟩
abbrev cX7_setPage : ByteArray := prog_9_method_41_code
def yX7_setPage : MethodName := ⟨RX7, "setPage", "(I)I"⟩
abbrev cX7_lockScenes : ByteArray := prog_9_method_42_code
def yX7_lockScenes : MethodName := ⟨RX7, "lockScenes", "()I"⟩
abbrev cX7_omit : ByteArray := prog_9_method_43_code
def yX7_omit : MethodName := ⟨RX7, "omit", "(I)I"⟩
abbrev cX7_lockPages : ByteArray := prog_9_method_44_code
def yX7_lockPages : MethodName := ⟨RX7, "lockPages", "()I"⟩
abbrev cX7_lockedMany : ByteArray := prog_9_method_45_code
def yX7_lockedMany : MethodName := ⟨RX7, "lockedMany", "()I"⟩
abbrev cX7_namesOf : ByteArray := prog_9_method_46_code
def yX7_namesOf : MethodName := ⟨RX7, "namesOf", "(IZ)I"⟩
abbrev cX7_valueOf : ByteArray := prog_9_method_47_code
def yX7_valueOf : MethodName := ⟨RX7, "valueOf", "(I)I"⟩
abbrev cX7_value : ByteArray := prog_9_method_48_code
def yX7_value : MethodName := ⟨RX7, "value", "(I)I"⟩
abbrev cX7_elementOf : ByteArray := prog_9_method_49_code
def yX7_elementOf : MethodName := ⟨RX7, "elementOf", "(II)I"⟩
abbrev cX7_element : ByteArray := prog_9_method_50_code
def yX7_element : MethodName := ⟨RX7, "element", "(II)I"⟩
abbrev cX7_sceneTold : ByteArray := prog_9_method_51_code
def yX7_sceneTold : MethodName := ⟨RX7, "sceneTold", "(II)I"⟩
abbrev cX7_scene : ByteArray := prog_9_method_52_code
def yX7_scene : MethodName := ⟨RX7, "scene", "(II)I"⟩
abbrev cX7_pageTold : ByteArray := prog_9_method_53_code
def yX7_pageTold : MethodName := ⟨RX7, "pageTold", "(II)I"⟩
abbrev cX7_page : ByteArray := prog_9_method_54_code
def yX7_page : MethodName := ⟨RX7, "page", "(II)I"⟩
abbrev cX7_find : ByteArray := prog_9_method_55_code
def yX7_find : MethodName := ⟨RX7, "find", "(III)I"⟩
abbrev cX7_names : ByteArray := prog_9_method_56_code
def yX7_names : MethodName := ⟨RX7, "names", "(IZ)I"⟩
abbrev cX7_used : ByteArray := prog_9_method_57_code
def yX7_used : MethodName := ⟨RX7, "used", "()D"⟩
abbrev cX7_pagesWith : ByteArray := prog_9_method_58_code
def yX7_pagesWith : MethodName := ⟨RX7, "pagesWith", "(I)I"⟩
abbrev cX7_smallestPage : ByteArray := prog_9_method_59_code
def yX7_smallestPage : MethodName := ⟨RX7, "smallestPage", "(I)I"⟩
abbrev cX7_pagesBehind : ByteArray := prog_9_method_60_code
def yX7_pagesBehind : MethodName := ⟨RX7, "pagesBehind", "(II)I"⟩
abbrev cX7_pagesBy : ByteArray := prog_9_method_61_code
def yX7_pagesBy : MethodName := ⟨RX7, "pagesBy", "(II)I"⟩
abbrev cX7_greatestLength : ByteArray := prog_9_method_62_code
def yX7_greatestLength : MethodName := ⟨RX7, "greatestLength", "(I)I"⟩
abbrev cX7_append : ByteArray := prog_9_method_63_code
def yX7_append : MethodName := ⟨RX7, "append", "(I)I"⟩
abbrev cX7_clearText : ByteArray := prog_9_method_64_code
def yX7_clearText : MethodName := ⟨RX7, "clearText", "()I"⟩
abbrev cX7_isAt : ByteArray := prog_9_method_65_code
def yX7_isAt : MethodName := ⟨RX7, "isAt", "(II)Z"⟩
abbrev cX7_takes : ByteArray := prog_9_method_66_code
def yX7_takes : MethodName := ⟨RX7, "takes", "(I)Z"⟩
abbrev cX7_isNumber : ByteArray := prog_9_method_67_code
def yX7_isNumber : MethodName := ⟨RX7, "isNumber", "()Z"⟩
abbrev cX7_kindOf : ByteArray := prog_9_method_68_code
def yX7_kindOf : MethodName := ⟨RX7, "kindOf", "(I)I"⟩
abbrev cX7_isItem : ByteArray := prog_9_method_69_code
def yX7_isItem : MethodName := ⟨RX7, "isItem", "()Z"⟩
abbrev cX7_parse : ByteArray := prog_9_method_70_code
def yX7_parse : MethodName := ⟨RX7, "parse", "()I"⟩
abbrev cX7_undo : ByteArray := prog_9_method_71_code
def yX7_undo : MethodName := ⟨RX7, "undo", "()I"⟩
abbrev cX7_mix : ByteArray := prog_9_method_72_code
def yX7_mix : MethodName := ⟨RX7, "mix", "(I)V"⟩
abbrev cX7_digest : ByteArray := prog_9_method_73_code
def yX7_digest : MethodName := ⟨RX7, "digest", "()J"⟩
def RJ9 : String := "java/lang/Math"
def TJ9 : u_T := fun k => match k with
  | _ => ("", "", "", false)
def tyJ9 : Nat → FieldType := fun k => match k with
  | _ => .int
abbrev wsJ90 : List Cond := u_ws RJ9 TJ9 0
theorem nmJ9 : ∀ a, a < 0 → ∀ b, b < 0 → a ≠ b → (TJ9 a).2.1 ≠ (TJ9 b).2.1 := by decide +kernel
theorem tyJ9_ok : ∀ k, k < 0 → parseFieldDescriptor (TJ9 k).2.2.1 = some (tyJ9 k) := by decide +kernel
abbrev cJ9_min_7cf53 : ByteArray := prog_14_method_69_code
def yJ9_min_7cf53 : MethodName := ⟨RJ9, "min", "(II)I"⟩
def RJ0 : String := "java/lang/String"
def TJ0 : u_T := fun k => match k with
  | _ => ("", "", "", false)
def tyJ0 : Nat → FieldType := fun k => match k with
  | _ => .int
abbrev wsJ00 : List Cond := u_ws RJ0 TJ0 0
theorem nmJ0 : ∀ a, a < 0 → ∀ b, b < 0 → a ≠ b → (TJ0 a).2.1 ≠ (TJ0 b).2.1 := by decide +kernel
theorem tyJ0_ok : ∀ k, k < 0 → parseFieldDescriptor (TJ0 k).2.2.1 = some (tyJ0 k) := by decide +kernel
def RL : String := "ScriptPagesLaw"
abbrev cL_insert : ByteArray := method_3_code
def yL_insert : MethodName := ⟨RL, "insert", "(LScriptPages;IIII[J)I"⟩
abbrev cL_remove : ByteArray := method_4_code
def yL_remove : MethodName := ⟨RL, "remove", "(LScriptPages;I[J)I"⟩
abbrev cL_setLength : ByteArray := method_5_code
def yL_setLength : MethodName := ⟨RL, "setLength", "(LScriptPages;II[J)I"⟩
abbrev cL_setPage : ByteArray := method_6_code
def yL_setPage : MethodName := ⟨RL, "setPage", "(LScriptPages;I[J)I"⟩
abbrev cL_omit : ByteArray := method_7_code
def yL_omit : MethodName := ⟨RL, "omit", "(LScriptPages;I[J)I"⟩
abbrev cL_value : ByteArray := method_8_code
def yL_value : MethodName := ⟨RL, "value", "(LScriptPages;I[J)I"⟩
abbrev cL_element : ByteArray := method_9_code
def yL_element : MethodName := ⟨RL, "element", "(LScriptPages;II[J)I"⟩
abbrev cL_scene : ByteArray := method_10_code
def yL_scene : MethodName := ⟨RL, "scene", "(LScriptPages;II[J)I"⟩
abbrev cL_page : ByteArray := method_11_code
def yL_page : MethodName := ⟨RL, "page", "(LScriptPages;II[J)I"⟩
abbrev cL_names : ByteArray := method_12_code
def yL_names : MethodName := ⟨RL, "names", "(LScriptPages;IZ[J)I"⟩
abbrev cL_pagesWith : ByteArray := method_13_code
def yL_pagesWith : MethodName := ⟨RL, "pagesWith", "(LScriptPages;I[J)I"⟩
abbrev cL_smallestPage : ByteArray := method_14_code
def yL_smallestPage : MethodName := ⟨RL, "smallestPage", "(LScriptPages;I[J)I"⟩
abbrev cL_pagesBy : ByteArray := method_15_code
def yL_pagesBy : MethodName := ⟨RL, "pagesBy", "(LScriptPages;II[J)I"⟩
abbrev cL_greatestLength : ByteArray := method_16_code
def yL_greatestLength : MethodName := ⟨RL, "greatestLength", "(LScriptPages;I[J)I"⟩
abbrev cL_append : ByteArray := method_17_code
def yL_append : MethodName := ⟨RL, "append", "(LScriptPages;I[J)I"⟩
abbrev cL_undo : ByteArray := method_18_code
def yL_undo : MethodName := ⟨RL, "undo", "(LScriptPages;[J)I"⟩
abbrev cL_law : ByteArray := code
def yL_law : MethodName := ⟨RL, "law", "([I)Z"⟩
abbrev vwCl : List vw_C := [(RX0, TX0, 2), (RX1, TX1, 14), (RX2, TX2, 4), (RX3, TX3, 1), (RX4, TX4, 12), (RX5, TX5, 10), (RX6, TX6, 9), (RX7, TX7, 19)]
def zG : List Cond := lw_tbl.filter goodWord
theorem zG_in : ∀ w ∈ zG, w ∈ lw_tbl := fun w h => (List.mem_filter.mp h).1
theorem zG_ok : GoodIn zG zG := fun w h => ⟨h, good_of_word (List.mem_filter.mp h).2⟩
theorem zG_cons {a b : Cond} (h : a ∈ zG) : GoodIn (b :: zG) (a :: zG) := by
  intro w hw
  rcases List.mem_cons.mp hw with e | e
  · subst e; exact ⟨List.mem_cons_of_mem _ h, (zG_ok _ h).2⟩
  · exact ⟨List.mem_cons_of_mem _ e, (zG_ok _ e).2⟩
theorem zG_at {a : Cond} (i : Nat) (h : lw_tbl[i]? = some a) (g : goodWord a = true) : a ∈ zG := List.mem_filter.mpr ⟨List.mem_of_getElem? h, g⟩
theorem zin_of {C : String} {T : u_T} {N : Nat} (ps : List Nat) (h : (List.range N).all (fun k => decide (lw_tbl[ps.getD k 0]? = some (u_lay C T k)) && goodWord (u_lay C T k)) = true) : ∀ w ∈ u_ws C T N, w ∈ zG := by
  intro w hw
  obtain ⟨k, hk, rfl⟩ := List.mem_map.mp hw
  have h1 := List.all_eq_true.mp h k hk
  simp only [Bool.and_eq_true, decide_eq_true_eq] at h1
  exact zG_at _ h1.1 h1.2
theorem zinX0 : ∀ w ∈ wsX00, w ∈ zG := zin_of [292, 294] (by decide +kernel)
theorem zinX1 : ∀ w ∈ wsX10, w ∈ zG := zin_of [251, 253, 255, 257, 259, 261, 263, 265, 267, 269, 271, 273, 275, 277] (by decide +kernel)
theorem zinX2 : ∀ w ∈ wsX20, w ∈ zG := zin_of [522, 524, 526, 528] (by decide +kernel)
theorem zinX3 : ∀ w ∈ wsX30, w ∈ zG := zin_of [111] (by decide +kernel)
theorem zinX4 : ∀ w ∈ wsX40, w ∈ zG := zin_of [193, 195, 197, 199, 201, 203, 205, 207, 209, 211, 213, 215] (by decide +kernel)
theorem zinX5 : ∀ w ∈ wsX50, w ∈ zG := zin_of [141, 143, 145, 147, 149, 151, 153, 155, 157, 159] (by decide +kernel)
theorem zinX6 : ∀ w ∈ wsX60, w ∈ zG := zin_of [308, 310, 312, 314, 316, 318, 320, 322, 324] (by decide +kernel)
theorem zinX7 : ∀ w ∈ wsX70, w ∈ zG := zin_of [913, 915, 917, 919, 921, 923, 925, 927, 929, 931, 933, 935, 937, 939, 941, 943, 945, 947, 949] (by decide +kernel)
end
section
-- wrappers of my own over the kit's rows: contracts in one form, worlds as lists of regions
def zw (y : MethodName) (cc : ByteArray) (maxL : Nat) (ret : Option FieldType) : List Cond := Cond.code y cc maxL ret :: zG
abbrev zZ : Type := va_G × ClassId × ClassId × ClassId
def z_nf : List (String × Nat × String × String × String × String) := [("ScriptPages", 59, "ScriptPages$Script", "size", "I", "ScriptPages"), ("ScriptPages$Pages", 69, "ScriptPages$Script", "size", "I", "ScriptPages"), ("ScriptPages$Reader", 56, "ScriptPages$Script", "size", "I", "ScriptPages"), ("ScriptPages$Scenes", 71, "ScriptPages$Script", "size", "I", "ScriptPages"), ("ScriptPages$Pages", 60, "ScriptPages$Script", "pageLines", "I", "ScriptPages"), ("ScriptPages", 141, "ScriptPages$Script", "pageLines", "I", "ScriptPages"), ("ScriptPages$Pages", 89, "ScriptPages$Script", "kinds", "LScriptPages$Row;", "ScriptPages"), ("ScriptPages", 267, "ScriptPages$Script", "kinds", "LScriptPages$Row;", "ScriptPages"), ("ScriptPages", 125, "ScriptPages$Script", "lengths", "LScriptPages$Row;", "ScriptPages"), ("ScriptPages$Scenes", 94, "ScriptPages$Script", "persons", "LScriptPages$Row;", "ScriptPages"), ("ScriptPages", 206, "ScriptPages$Script", "persons", "LScriptPages$Row;", "ScriptPages"), ("ScriptPages$Pages", 117, "ScriptPages$Script", "marks", "LScriptPages$Row;", "ScriptPages"), ("ScriptPages", 179, "ScriptPages$Script", "marks", "LScriptPages$Row;", "ScriptPages"), ("ScriptPages$Scenes", 100, "ScriptPages$Script", "firsts", "LScriptPages$Row;", "ScriptPages"), ("ScriptPages$Scenes", 101, "ScriptPages$Script", "seconds", "LScriptPages$Row;", "ScriptPages"), ("ScriptPages$Scenes", 102, "ScriptPages$Script", "thirds", "LScriptPages$Row;", "ScriptPages"), ("ScriptPages", 144, "ScriptPages$Scenes", "count", "I", "ScriptPages"), ("ScriptPages", 255, "ScriptPages$Scenes", "lockedCount", "I", "ScriptPages"), ("ScriptPages", 261, "ScriptPages$Scenes", "carriedCount", "I", "ScriptPages"), ("ScriptPages", 147, "ScriptPages$Scenes", "headings", "LScriptPages$Row;", "ScriptPages"), ("ScriptPages", 173, "ScriptPages$Scenes", "sizes", "LScriptPages$Row;", "ScriptPages"), ("ScriptPages", 282, "ScriptPages$Scenes", "sums", "LScriptPages$Row;", "ScriptPages"), ("ScriptPages", 153, "ScriptPages$Scenes", "firsts", "LScriptPages$Row;", "ScriptPages"), ("ScriptPages", 156, "ScriptPages$Scenes", "seconds", "LScriptPages$Row;", "ScriptPages"), ("ScriptPages", 159, "ScriptPages$Scenes", "thirds", "LScriptPages$Row;", "ScriptPages"), ("ScriptPages", 270, "ScriptPages$Scenes", "homes", "LScriptPages$Row;", "ScriptPages"), ("ScriptPages", 209, "ScriptPages$Scenes", "carries", "LScriptPages$Row;", "ScriptPages"), ("ScriptPages", 182, "ScriptPages$Pages", "count", "I", "ScriptPages"), ("ScriptPages", 258, "ScriptPages$Pages", "markCount", "I", "ScriptPages"), ("ScriptPages", 264, "ScriptPages$Pages", "splitCount", "I", "ScriptPages"), ("ScriptPages", 273, "ScriptPages$Pages", "places", "LScriptPages$Row;", "ScriptPages"), ("ScriptPages", 276, "ScriptPages$Pages", "tops", "LScriptPages$Row;", "ScriptPages"), ("ScriptPages", 279, "ScriptPages$Pages", "parts", "LScriptPages$Row;", "ScriptPages"), ("ScriptPages", 288, "ScriptPages$Pages", "numbers", "LScriptPages$Row;", "ScriptPages"), ("ScriptPages", 291, "ScriptPages$Pages", "extras", "LScriptPages$Row;", "ScriptPages"), ("ScriptPages", 212, "ScriptPages$Pages", "fills", "LScriptPages$Row;", "ScriptPages"), ("ScriptPages", 183, "ScriptPages$Pages", "firsts", "LScriptPages$Row;", "ScriptPages"), ("ScriptPages", 294, "ScriptPages$Pages", "begins", "LScriptPages$Row;", "ScriptPages"), ("ScriptPages", 236, "ScriptPages$History", "count", "I", "ScriptPages")]
def z_nm : List (String × Nat × MethodName × String) := [("ScriptPages", 11, ⟨"ScriptPages$Script", "<init>", "()V"⟩, "ScriptPages"), ("ScriptPages", 21, ⟨"ScriptPages$Scenes", "<init>", "()V"⟩, "ScriptPages"), ("ScriptPages", 31, ⟨"ScriptPages$Pages", "<init>", "()V"⟩, "ScriptPages"), ("ScriptPages$History", 21, ⟨"ScriptPages$Script", "<init>", "()V"⟩, "ScriptPages"), ("ScriptPages$Script", 48, ⟨"ScriptPages", "isBelow", "(II)Z"⟩, "ScriptPages"), ("ScriptPages$Reader", 67, ⟨"ScriptPages", "isLength", "(I)Z"⟩, "ScriptPages"), ("ScriptPages$Scenes", 54, ⟨"ScriptPages", "isBelow", "(II)Z"⟩, "ScriptPages")]
def zNW (U : State) : Prop := (∀ q ∈ z_nf, va_Nw (.fieldLinkNest q.1 q.2.1 q.2.2.1 q.2.2.2.1 q.2.2.2.2.1 q.2.2.2.2.2) U) ∧ ∀ q ∈ z_nm, va_Nw (.methodLinkNest q.1 q.2.1 q.2.2.1 q.2.2.2) U
def zK (Z : zZ) (U : State) : Prop := va_K Z.1 vwCl [(Z.2.1, .int), (Z.2.2.1, .object "ScriptPages$Script"), (Z.2.2.2, .long)] U ∧ zNW U
theorem zNW.warm {s U : State} (hW : s.WarmedH U.vm) (h : zNW s) : zNW U := ⟨fun q hq => va_Nw.warmF hW (h.1 q hq), fun q hq => va_Nw.warmM hW (h.2 q hq)⟩
theorem zNW.same {u U : State} (hv : u.vm = U.vm) (h : zNW u) : zNW U := ⟨fun q hq => va_Nw.same rfl hv (h.1 q hq), fun q hq => va_Nw.same rfl hv (h.2 q hq)⟩
theorem zNW.fld {U : State} (h : zNW U) {args : Array Value} {a c d f g : String} {b : Nat} (i : Nat) (e : z_nf[i]? = some (a, b, c, d, f, g)) : (Cond.fieldLinkNest a b c d f g).before args U = true := va_Nw.use rfl (h.1 _ (List.mem_of_getElem? e))
theorem zNW.mth {U : State} (h : zNW U) {a g : String} {b : Nat} {y : MethodName} (i : Nat) (e : z_nm[i]? = some (a, b, y, g)) : va_Nw (.methodLinkNest a b y g) U := h.2 _ (List.mem_of_getElem? e)
theorem zK.warm {Z : zZ} {s U : State} (hW : s.WarmedH U.vm) (h : zK Z s) : zK Z U := ⟨va_K.moved hW.alike h.1, h.2.warm hW⟩
theorem zK.same {Z : zZ} {u U : State} (hv : u.vm = U.vm) (h : zK Z u) : zK Z U := ⟨va_K.moved (by rw [hv]; exact Vm.Alike.refl _) h.1, h.2.same hv⟩
/-! the residual function term of a walk is taken apart by these -/
def zlet {α β : Type} (x : α) (f : α → β) : β := f x
def zix {α : Type} (i : Int32) (n : Nat) (x : Option α) : Option α := if (i < 0 ∨ n ≤ i.toNatClampNeg) then none else x
def zdv {α : Type} (y : Int32) (x : Option α) : Option α := if y = 0 then none else x
theorem z_pos {α : Type} {c : Prop} {_ : Decidable c} {A B R : α} (h : c) (e : (if c then A else B) = R) : A = R := by rw [if_pos h] at e; exact e
theorem z_neg {α : Type} {c : Prop} {_ : Decidable c} {A B R : α} (h : ¬ c) (e : (if c then A else B) = R) : B = R := by rw [if_neg h] at e; exact e
theorem z_let {α β : Type} {x : α} {f : α → β} {R : β} {G : Prop} (e : zlet x f = R) (k : ∀ q, x = q → f q = R → G) : G := k x rfl e
theorem z_bnd {α β : Type} {x : Option α} {f : α → Option β} {R : β} {G : Prop} (e : x.bind f = some R) (k : ∀ q, x = some q → f q = some R → G) : G := by
  cases x with
  | none => cases e
  | some q => exact k q rfl e
theorem z_ix {α : Type} {i : Int32} {n : Nat} {x : Option α} {R : α} {G : Prop} (e : zix i n x = some R) (k : vp_in i n → x = some R → G) : G := by
  unfold zix at e
  by_cases h : (i < 0 ∨ n ≤ i.toNatClampNeg)
  · rw [if_pos h] at e; cases e
  · rw [if_neg h] at e; exact k h e
theorem z_dv {α : Type} {y : Int32} {x : Option α} {R : α} {G : Prop} (e : zdv y x = some R) (k : ¬ y = 0 → x = some R → G) : G := by
  unfold zdv at e
  by_cases h : y = 0
  · rw [if_pos h] at e; cases e
  · rw [if_neg h] at e; exact k h e
/-! worlds -/
def zA (w : va_W) : Nat → Prop := fun q => q ∈ w.map (·.1)
theorem zP_mem {D : va_G} {cl : List vw_C} {ws : va_W} {H : Heap} : va_P D cl ws H ↔ ∀ q ∈ ws, va_at D cl q H :=
  ⟨fun h q hq => by obtain ⟨k, hk⟩ := List.getElem?_of_mem hq; exact h k q hk, fun h k q hk => h q (List.mem_of_getElem? hk)⟩
theorem zD_self {A : Nat → Prop} {w : va_W} (h : va_D A w) : va_D (zA w) w := ⟨h.1, fun _ q hk => List.mem_map.mpr ⟨q, List.mem_of_getElem? hk, rfl⟩⟩
theorem zD_adr {A : Nat → Prop} {w w' : va_W} (h : va_D A w) (e : w'.map (·.1) = w.map (·.1)) : va_D A w' := by
  have key : ∀ (k : Nat) (q : Nat × va_E), w'[k]? = some q → ∃ q0, w[k]? = some q0 ∧ q0.1 = q.1 := by
    intro k q hk
    have h1 : (w'.map (·.1))[k]? = some q.1 := by rw [List.getElem?_map, hk]; rfl
    rw [e, List.getElem?_map] at h1
    cases h2 : w[k]? with
    | none => rw [h2] at h1; cases h1
    | some q0 => rw [h2] at h1; exact ⟨q0, rfl, Option.some.inj h1⟩
  refine ⟨fun i j p q hi hj hpq => ?_, fun k q hk => ?_⟩
  · obtain ⟨p0, h1, h2⟩ := key i p hi
    obtain ⟨q0, h3, h4⟩ := key j q hj
    exact h.1 i j p0 q0 h1 h3 (by rw [h2, h4]; exact hpq)
  · obtain ⟨q0, h1, h2⟩ := key k q hk
    rw [← h2]; exact h.2 k q0 h1
theorem zD_ne {A : Nat → Prop} {w1 w2 : va_W} (h : va_D A (w1 ++ w2)) {q r : Nat × va_E} (hq : q ∈ w1) (hr : r ∈ w2) : q.1 ≠ r.1 := by
  obtain ⟨i, hi⟩ := List.getElem?_of_mem hq
  obtain ⟨j, hj⟩ := List.getElem?_of_mem hr
  have hl := (List.getElem?_eq_some_iff.mp hi).1
  intro e
  have h1 := h.1 i (w1.length + j) q r (by rw [List.getElem?_append_left hl]; exact hi) (by rw [List.getElem?_append_right (by omega), Nat.add_sub_cancel_left]; exact hj) e
  omega
theorem zD_left {A : Nat → Prop} {w1 w2 : va_W} (h : va_D A (w1 ++ w2)) : va_D A w1 :=
  ⟨fun i j p q hi hj => h.1 i j p q (by rw [List.getElem?_append_left (List.getElem?_eq_some_iff.mp hi).1]; exact hi) (by rw [List.getElem?_append_left (List.getElem?_eq_some_iff.mp hj).1]; exact hj),
   fun k q hk => h.2 k q (by rw [List.getElem?_append_left (List.getElem?_eq_some_iff.mp hk).1]; exact hk)⟩
theorem zD_right {A : Nat → Prop} {w1 w2 : va_W} (h : va_D A (w1 ++ w2)) : va_D A w2 :=
  ⟨fun i j p q hi hj e => by
      have := h.1 (w1.length + i) (w1.length + j) p q (by rw [List.getElem?_append_right (by omega), Nat.add_sub_cancel_left]; exact hi) (by rw [List.getElem?_append_right (by omega), Nat.add_sub_cancel_left]; exact hj) e
      omega,
   fun k q hk => h.2 (w1.length + k) q (by rw [List.getElem?_append_right (by omega), Nat.add_sub_cancel_left]; exact hk)⟩
theorem zD_two {A : Nat → Prop} {w1 w2 : va_W} (h1 : va_D A w1) (h2 : va_D A w2) (hn : ∀ q ∈ w1, ∀ r ∈ w2, q.1 ≠ r.1) : va_D A (w1 ++ w2) :=
  h1.app h2 (fun _ _ p q hp hq => hn p (List.mem_of_getElem? hp) q (List.mem_of_getElem? hq))
/-- two regions of a world are apart -/
theorem zD_reg {A : Nat → Prop} : ∀ {L : List va_W}, va_D A L.flatten → ∀ (i j : Nat) (a b : va_W), L[i]? = some a → L[j]? = some b → i ≠ j → ∀ q ∈ a, ∀ r ∈ b, q.1 ≠ r.1
  | [], _, i, _, a, _, hi, _, _ => by simp at hi
  | x :: L, h, i, j, a, b, hi, hj, hn => by
    rw [List.flatten_cons] at h
    cases i with
    | zero =>
      cases j with
      | zero => exact absurd rfl hn
      | succ j =>
        simp only [List.getElem?_cons_zero, Option.some.injEq, List.getElem?_cons_succ] at hi hj
        subst hi
        intro q hq r hr
        exact zD_ne h hq (List.mem_flatten.mpr ⟨b, List.mem_of_getElem? hj, hr⟩)
    | succ i =>
      cases j with
      | zero =>
        simp only [List.getElem?_cons_zero, Option.some.injEq, List.getElem?_cons_succ] at hi hj
        subst hj
        intro q hq r hr e
        exact zD_ne h hr (List.mem_flatten.mpr ⟨a, List.mem_of_getElem? hi, hq⟩) e.symm
      | succ j =>
        simp only [List.getElem?_cons_succ] at hi hj
        exact zD_reg (zD_right h) i j a b hi hj (fun e => hn (by rw [e]))
theorem zD_one {A : Nat → Prop} : ∀ {L : List va_W}, va_D A L.flatten → ∀ (i : Nat) (a : va_W), L[i]? = some a → va_D A a
  | [], _, i, a, hi => by simp at hi
  | x :: L, h, i, a, hi => by
    rw [List.flatten_cons] at h
    cases i with
    | zero => simp only [List.getElem?_cons_zero, Option.some.injEq] at hi; subst hi; exact zD_left h
    | succ i => simp only [List.getElem?_cons_succ] at hi; exact zD_one (zD_right h) i a hi
theorem zP_reg {D : va_G} {cl : List vw_C} {L : List va_W} {H : Heap} (h : va_P D cl L.flatten H) (i : Nat) {a : va_W} (hi : L[i]? = some a) : va_P D cl a H :=
  zP_mem.mpr fun q hq => zP_mem.mp h q (List.mem_flatten.mpr ⟨a, List.mem_of_getElem? hi, hq⟩)
theorem zP_reg2 {D : va_G} {cl : List vw_C} {L : List va_W} {H : Heap} (h : va_P D cl L.flatten H) (i j : Nat) {a b : va_W} (hi : L[i]? = some a) (hj : L[j]? = some b) : va_P D cl (a ++ b) H := (zP_reg h i hi).app (zP_reg h j hj)
theorem zP_reg3 {D : va_G} {cl : List vw_C} {L : List va_W} {H : Heap} (h : va_P D cl L.flatten H) (i j k : Nat) {a b c : va_W} (hi : L[i]? = some a) (hj : L[j]? = some b) (hk : L[k]? = some c) : va_P D cl (a ++ (b ++ c)) H := (zP_reg h i hi).app (zP_reg2 h j k hj hk)
theorem zD_reg2 {A : Nat → Prop} {L : List va_W} (h : va_D A L.flatten) (i j : Nat) {a b : va_W} (hi : L[i]? = some a) (hj : L[j]? = some b) (hn : i ≠ j) : va_D A (a ++ b) :=
  zD_two (zD_one h i a hi) (zD_one h j b hj) (zD_reg h i j a b hi hj hn)
theorem zD_reg3 {A : Nat → Prop} {L : List va_W} (h : va_D A L.flatten) (i j k : Nat) {a b c : va_W} (hi : L[i]? = some a) (hj : L[j]? = some b) (hk : L[k]? = some c) (h1 : i ≠ j) (h2 : i ≠ k) (h3 : j ≠ k) : va_D A (a ++ (b ++ c)) :=
  zD_two (zD_one h i a hi) (zD_reg2 h j k hj hk h3) (fun q hq r hr => by
    rcases List.mem_append.mp hr with e | e
    · exact zD_reg h i j a b hi hj h1 q hq r e
    · exact zD_reg h i k a c hi hk h2 q hq r e)
theorem z_setadr : ∀ (L : List va_W) (i : Nat) (a a' : va_W), L[i]? = some a → a'.map (·.1) = a.map (·.1) → (L.set i a').flatten.map (·.1) = L.flatten.map (·.1)
  | [], i, a, a', hi, _ => by simp at hi
  | x :: L, 0, a, a', hi, e => by
    simp only [List.getElem?_cons_zero, Option.some.injEq] at hi
    subst hi
    simp only [List.set_cons_zero, List.flatten_cons, List.map_append, e]
  | x :: L, i + 1, a, a', hi, e => by
    simp only [List.getElem?_cons_succ] at hi
    simp only [List.set_cons_succ, List.flatten_cons, List.map_append, z_setadr L i a a' hi e]
/-- the world behind a call that may have changed the cells wc -/
theorem z_back {D : va_G} {cl : List vw_C} {A0 : Nat → Prop} {L L' : List va_W} {wc w1 : va_W} {H H1 : Heap} (hP : va_P D cl L.flatten H) (hD : va_D A0 L.flatten) (hk : ∀ q : Nat, q < H.size → ¬ zA wc q → H1[q]? = H[q]?) (hP1 : va_P D cl w1 H1)
    (ha : L'.flatten.map (·.1) = L.flatten.map (·.1)) (hin : ∀ (k : Nat) (a : va_W), L'[k]? = some a → (∀ q ∈ a, q ∈ w1) ∨ (L[k]? = some a ∧ ∀ q ∈ a, ¬ zA wc q.1)) : va_P D cl L'.flatten H1 ∧ va_D A0 L'.flatten := by
  refine ⟨zP_mem.mpr fun q hq => ?_, zD_adr hD ha⟩
  obtain ⟨a, h1, h2⟩ := List.mem_flatten.mp hq
  obtain ⟨k, hk1⟩ := List.getElem?_of_mem h1
  rcases hin k a hk1 with h | ⟨h, h3⟩
  · exact zP_mem.mp hP1 q (h q h2)
  · have h4 : va_at D cl q H := zP_mem.mp hP q (List.mem_flatten.mpr ⟨a, List.mem_of_getElem? h, h2⟩)
    exact h4.kept (hk q.1 h4.lt (h3 q h2))
theorem z_set1 {D : va_G} {cl : List vw_C} {A0 : Nat → Prop} {L L' : List va_W} {wc w1 : va_W} {H H1 : Heap} (hP : va_P D cl L.flatten H) (hD : va_D A0 L.flatten) (i : Nat) (hi : L[i]? = some wc) (hL : L.set i w1 = L') (e : w1.map (·.1) = wc.map (·.1)) (hk : ∀ q : Nat, q < H.size → ¬ zA wc q → H1[q]? = H[q]?) (hP1 : va_P D cl w1 H1) : va_P D cl L'.flatten H1 ∧ va_D A0 L'.flatten := by
  subst hL
  refine z_back hP hD hk hP1 (z_setadr L i wc w1 hi e) (fun k a hka => ?_)
  by_cases h : k = i
  · subst h
    rw [List.getElem?_set_self (List.getElem?_eq_some_iff.mp hi).1] at hka
    cases hka
    exact Or.inl fun q h => h
  · rw [List.getElem?_set_ne (Ne.symm h)] at hka
    refine Or.inr ⟨hka, fun q hq hz => ?_⟩
    obtain ⟨r, hr, e1⟩ := List.mem_map.mp hz
    exact zD_reg hD k i a wc hka hi h q hq r hr e1.symm
theorem z_set2 {D : va_G} {cl : List vw_C} {A0 : Nat → Prop} {L L' : List va_W} {wa wb a1 b1 : va_W} {H H1 : Heap} (hP : va_P D cl L.flatten H) (hD : va_D A0 L.flatten) (i j : Nat) (hi : L[i]? = some wa) (hj : L[j]? = some wb) (hn : i ≠ j) (hL : (L.set i a1).set j b1 = L') (ea : a1.map (·.1) = wa.map (·.1)) (eb : b1.map (·.1) = wb.map (·.1)) (hk : ∀ q : Nat, q < H.size → ¬ zA (wa ++ wb) q → H1[q]? = H[q]?) (hP1 : va_P D cl (a1 ++ b1) H1) : va_P D cl L'.flatten H1 ∧ va_D A0 L'.flatten := by
  subst hL
  have hj2 : (L.set i a1)[j]? = some wb := by rw [List.getElem?_set_ne hn]; exact hj
  refine z_back hP hD hk hP1 ((z_setadr _ j wb b1 hj2 eb).trans (z_setadr L i wa a1 hi ea)) (fun k a hka => ?_)
  by_cases h : k = j
  · subst h
    rw [List.getElem?_set_self (List.getElem?_eq_some_iff.mp hj2).1] at hka
    cases hka
    exact Or.inl fun q h => List.mem_append_right _ h
  · rw [List.getElem?_set_ne (Ne.symm h)] at hka
    by_cases h2 : k = i
    · subst h2
      rw [List.getElem?_set_self (List.getElem?_eq_some_iff.mp hi).1] at hka
      cases hka
      exact Or.inl fun q h => List.mem_append_left _ h
    · rw [List.getElem?_set_ne (Ne.symm h2)] at hka
      refine Or.inr ⟨hka, fun q hq hz => ?_⟩
      obtain ⟨r, hr, e1⟩ := List.mem_map.mp hz
      rcases List.mem_append.mp hr with hr | hr
      · exact zD_reg hD k i a wa hka hi h2 q hq r hr e1.symm
      · exact zD_reg hD k j a wb hka hj h q hq r hr e1.symm
theorem z_set3 {D : va_G} {cl : List vw_C} {A0 : Nat → Prop} {L L' : List va_W} {wa wb wd a1 b1 d1 : va_W} {H H1 : Heap} (hP : va_P D cl L.flatten H) (hD : va_D A0 L.flatten) (i j k : Nat) (hi : L[i]? = some wa) (hj : L[j]? = some wb) (hd : L[k]? = some wd) (hn : i ≠ j) (hn2 : i ≠ k) (hn3 : j ≠ k) (hL : ((L.set i a1).set j b1).set k d1 = L') (ea : a1.map (·.1) = wa.map (·.1)) (eb : b1.map (·.1) = wb.map (·.1)) (ed : d1.map (·.1) = wd.map (·.1)) (hk : ∀ q : Nat, q < H.size → ¬ zA (wa ++ (wb ++ wd)) q → H1[q]? = H[q]?) (hP1 : va_P D cl (a1 ++ (b1 ++ d1)) H1) : va_P D cl L'.flatten H1 ∧ va_D A0 L'.flatten := by
  subst hL
  have hj2 : (L.set i a1)[j]? = some wb := by rw [List.getElem?_set_ne hn]; exact hj
  have hd2 : ((L.set i a1).set j b1)[k]? = some wd := by rw [List.getElem?_set_ne hn3, List.getElem?_set_ne hn2]; exact hd
  refine z_back hP hD hk hP1 ((z_setadr _ k wd d1 hd2 ed).trans ((z_setadr _ j wb b1 hj2 eb).trans (z_setadr L i wa a1 hi ea))) (fun x a hka => ?_)
  by_cases h : x = k
  · subst h
    rw [List.getElem?_set_self (List.getElem?_eq_some_iff.mp hd2).1] at hka
    cases hka
    exact Or.inl fun q h => List.mem_append_right _ (List.mem_append_right _ h)
  · rw [List.getElem?_set_ne (Ne.symm h)] at hka
    by_cases h2 : x = j
    · subst h2
      rw [List.getElem?_set_self (List.getElem?_eq_some_iff.mp hj2).1] at hka
      cases hka
      exact Or.inl fun q h => List.mem_append_right _ (List.mem_append_left _ h)
    · rw [List.getElem?_set_ne (Ne.symm h2)] at hka
      by_cases h3 : x = i
      · subst h3
        rw [List.getElem?_set_self (List.getElem?_eq_some_iff.mp hi).1] at hka
        cases hka
        exact Or.inl fun q h => List.mem_append_left _ h
      · rw [List.getElem?_set_ne (Ne.symm h3)] at hka
        refine Or.inr ⟨hka, fun q hq hz => ?_⟩
        obtain ⟨r, hr, e1⟩ := List.mem_map.mp hz
        rcases List.mem_append.mp hr with hr | hr
        · exact zD_reg hD x i a wa hka hi h3 q hq r hr e1.symm
        · rcases List.mem_append.mp hr with hr | hr
          · exact zD_reg hD x j a wb hka hj h2 q hq r hr e1.symm
          · exact zD_reg hD x k a wd hka hd h q hq r hr e1.symm
/-! contracts -/
def zQro (v : Option Value) : Array Value → State → Outcome → State → Prop := fun _ st oc t => oc = .returned v ∧ va_F (fun _ => False) st t
def zQmu (Z : zZ) (w w' : va_W) (v : Option Value) : Array Value → State → Outcome → State → Prop := fun _ st oc t => oc = .returned v ∧ va_P Z.1 vwCl w' t.heap ∧ va_F (zA w) st t
def zPro (Z : zZ) (w : va_W) (av : List Value) : Array Value → State → Prop := va_Pc av (fun U => va_P Z.1 vwCl w U.heap ∧ zK Z U)
def zPmu (Z : zZ) (w : va_W) (av : List Value) : Array Value → State → Prop := va_Pc av (fun U => va_P Z.1 vwCl w U.heap ∧ zK Z U ∧ va_D (fun _ => True) w)
/-- a method that writes nothing and makes nothing -/
def zRO (l : Launch) (y : MethodName) (ws : List Cond) (rm : Room) (Z : zZ) (av : List Value) (w : va_W) (v : Option Value) : Prop := Met l y ws rm (zPro Z w av) (zQro v) 0 0 (fun _ => False)
/-- a method that makes nothing, and writes in its world alone -/
def zMU (l : Launch) (y : MethodName) (ws : List Cond) (rm : Room) (Z : zZ) (av : List Value) (w w' : va_W) (v : Option Value) : Prop := Met l y ws rm (zPmu Z w av) (zQmu Z w w' v) 0 0 (zA w)
theorem zPro_blind {Z : zZ} {w : va_W} {av : List Value} : FrameBlind (zPro Z w av) := fun a U g mk h => ⟨h.1, h.2.1, h.2.2.same rfl⟩
theorem zPmu_blind {Z : zZ} {w : va_W} {av : List Value} : FrameBlind (zPmu Z w av) := fun a U g mk h => ⟨h.1, h.2.1, h.2.2.1.same rfl, h.2.2.2⟩
theorem zRO_of {l : Launch} {y : MethodName} {cc : ByteArray} {maxL : Nat} {ret : Option FieldType} {rm : Room} {Z : zZ} {av : List Value} {w : va_W} {v : Option Value} (hy : plainName y.cls = true) (hn : (lg_sl av).length ≤ maxL)
    (body : ∀ (p : Program) (e : Env) (s : State) (m : MethodId) (below : List Frame) (meth : Method) (c : Code), p.tables.exec = Jvm.exec → c.code = cc → meth.sig.returnType = ret → c.maxLocals = maxL → s.vm.findClass y.cls = some m.cls → (∀ w ∈ zG, w.before av.toArray s = true) → meth.locks = false → zK Z s →
      ∀ Q, Q = MQ below (zQro v) av.toArray s 0 0 (fun _ => False) → ∀ ls, lv_has ls maxL (lv_args 0 av) → va_P Z.1 vwCl w s.heap → va_S (fun _ => False) s.heap s.heap [] → W p l e rm s m av.toArray below meth c s.heap [] 0 0 Q (F0 m 0 ls [])) : zRO l y (zw y cc maxL ret) rm Z av w v := by
  refine Met.ofW (cc := cc) (maxL := maxL) (ret := ret) hy rfl ?_
  intro p e s m args below meth c s₁ B hml hv
  obtain ⟨rfl, hP, hK⟩ := hv
  have hts := atoms_spec (ws := zw y cc maxL ret) B.pre
  have hl := lv_entry av (n := maxL) hn
  rw [lg_entry_eq]
  exact body p e s m below meth c B.exec B.bytes B.returns hml (findClass_of_methodNamed B.named) (fun w h => hts w (List.mem_cons_of_mem _ h)) B.notSynchronized hK _ rfl _ hl hP va_S.rf
theorem zMU_of {l : Launch} {y : MethodName} {cc : ByteArray} {maxL : Nat} {ret : Option FieldType} {rm : Room} {Z : zZ} {av : List Value} {w w' : va_W} {v : Option Value} (hy : plainName y.cls = true) (hn : (lg_sl av).length ≤ maxL)
    (body : ∀ (p : Program) (e : Env) (s : State) (m : MethodId) (below : List Frame) (meth : Method) (c : Code), p.tables.exec = Jvm.exec → c.code = cc → meth.sig.returnType = ret → c.maxLocals = maxL → s.vm.findClass y.cls = some m.cls → (∀ w ∈ zG, w.before av.toArray s = true) → meth.locks = false → zK Z s →
      ∀ A, A = zA w → ∀ Q, Q = MQ below (zQmu Z w w' v) av.toArray s 0 0 A → ∀ ls, lv_has ls maxL (lv_args 0 av) → va_P Z.1 vwCl w s.heap → va_D A w → va_S A s.heap s.heap [] → W p l e rm s m av.toArray below meth c s.heap [] 0 0 Q (F0 m 0 ls [])) : zMU l y (zw y cc maxL ret) rm Z av w w' v := by
  refine Met.ofW (cc := cc) (maxL := maxL) (ret := ret) hy rfl ?_
  intro p e s m args below meth c s₁ B hml hv
  obtain ⟨rfl, hP, hK, hD⟩ := hv
  have hts := atoms_spec (ws := zw y cc maxL ret) B.pre
  have hl := lv_entry av (n := maxL) hn
  rw [lg_entry_eq]
  exact body p e s m below meth c B.exec B.bytes B.returns hml (findClass_of_methodNamed B.named) (fun w h => hts w (List.mem_cons_of_mem _ h)) B.notSynchronized hK _ rfl _ rfl _ hl hP (zD_self hD) va_S.rf
section ZC
variable {p : Program} {l : Launch} {e : Env} {R : Room} {s : State} {m : MethodId} {args : Array Value} {below : List Frame} {meth : Method} {c : Code} {H : Heap} {locs : List Loc} {cells slots : Nat} {Q : State → Prop}
variable {pc : Nat} {ls : Array Slot} {rest st0 : List Value} {a : Array Value} {A0 : Nat → Prop} {H0 : Heap} {Z : zZ} {ws : va_W} {v : Option Value}
/-- behind a call of a method that writes nothing -/
theorem z_ro (hr : va_Run p l e R s m args below meth c H locs cells slots 0 0 (F0 m pc ls st0) rest (zQro v a) (fun _ => False)) (hS : va_S A0 H0 H locs) (hP : va_P Z.1 vwCl ws H)
    (kk : ∀ (H1 : Heap) (locs1 : List Loc), va_P Z.1 vwCl ws H1 → va_S A0 H0 H1 locs1 → W p l e R s m args below meth c H1 locs1 cells slots Q (F0 m (pc + 3) ls (v.toList ++ rest))) : W p l e R s m args below meth c H locs cells slots Q (F0 m pc ls st0) := by
  intro T hT X
  obtain ⟨v', st₀, t, T', L, h0, X', hL, e1, e2, ⟨hv, hz, hk⟩, st⟩ := hr T hT X
  cases hv
  rw [h0] at hz hk
  have hk' : ∀ q : Nat, q < H.size → T'.heap[q]? = H[q]? := fun q h => by rw [e1]; exact hk q h (fun z => z)
  obtain ⟨t2, a1, b1⟩ := kk T'.heap (locs ++ L) (hP.kept fun k q hq => hk' q.1 (hP k q hq).lt)
    ⟨Nat.le_trans hS.1 (by rw [e1]; exact hz), fun q h1 h2 => by rw [hk' q (Nat.lt_of_lt_of_le h1 hS.1)]; exact hS.2.1 q h1 h2, fun q hq => by
      rcases List.mem_append.mp hq with h | h
      · exact hS.2.2 q h
      · exact (hL q h).elim⟩ T' rfl X'
  exact ⟨t2, st t2 a1, b1⟩
theorem z_ro_i {x : Int32} (hr : va_Run p l e R s m args below meth c H locs cells slots 0 0 (F0 m pc ls st0) rest (zQro (some (.int x)) a) (fun _ => False)) (hS : va_S A0 H0 H locs) (hP : va_P Z.1 vwCl ws H)
    (kk : ∀ (H1 : Heap) (locs1 : List Loc), va_P Z.1 vwCl ws H1 → va_S A0 H0 H1 locs1 → W p l e R s m args below meth c H1 locs1 cells slots Q (F0 m (pc + 3) ls (.int x :: rest))) : W p l e R s m args below meth c H locs cells slots Q (F0 m pc ls st0) := z_ro hr hS hP kk
theorem z_ro_l {x : Int64} (hr : va_Run p l e R s m args below meth c H locs cells slots 0 0 (F0 m pc ls st0) rest (zQro (some (.long x)) a) (fun _ => False)) (hS : va_S A0 H0 H locs) (hP : va_P Z.1 vwCl ws H)
    (kk : ∀ (H1 : Heap) (locs1 : List Loc), va_P Z.1 vwCl ws H1 → va_S A0 H0 H1 locs1 → W p l e R s m args below meth c H1 locs1 cells slots Q (F0 m (pc + 3) ls (.long x :: rest))) : W p l e R s m args below meth c H locs cells slots Q (F0 m pc ls st0) := z_ro hr hS hP kk
/-- behind a call of a method that writes in the cells wc -/
theorem z_mu {wc w1 : va_W} {L : List va_W} (hr : va_Run p l e R s m args below meth c H locs cells slots 0 0 (F0 m pc ls st0) rest (zQmu Z wc w1 v a) (zA wc)) (hS : va_S A0 H0 H locs) (hP : va_P Z.1 vwCl L.flatten H) (hD : va_D A0 L.flatten) (hc : ∀ q, zA wc q → A0 q)
    {L' : List va_W} (hj : ∀ H1 : Heap, (∀ q : Nat, q < H.size → ¬ zA wc q → H1[q]? = H[q]?) → va_P Z.1 vwCl w1 H1 → va_P Z.1 vwCl L'.flatten H1 ∧ va_D A0 L'.flatten)
    (kk : ∀ (H1 : Heap) (locs1 : List Loc), va_P Z.1 vwCl L'.flatten H1 → va_D A0 L'.flatten → va_S A0 H0 H1 locs1 → W p l e R s m args below meth c H1 locs1 cells slots Q (F0 m (pc + 3) ls (v.toList ++ rest))) : W p l e R s m args below meth c H locs cells slots Q (F0 m pc ls st0) := by
  intro T hT X
  obtain ⟨v', st₀, t, T', Lc, h0, X', hL, e1, e2, ⟨hv, hp, hz, hk⟩, st⟩ := hr T hT X
  cases hv
  rw [h0] at hz hk
  have hk' : ∀ q : Nat, q < H.size → ¬ zA wc q → T'.heap[q]? = H[q]? := fun q h h2 => by rw [e1]; exact hk q h h2
  obtain ⟨hP1, hD1⟩ := hj T'.heap hk' (by rw [e1]; exact hp)
  obtain ⟨t2, a1, b1⟩ := kk T'.heap (locs ++ Lc) hP1 hD1
    ⟨Nat.le_trans hS.1 (by rw [e1]; exact hz), fun q h1 h2 => by rw [hk' q (Nat.lt_of_lt_of_le h1 hS.1) (fun z => h2 (hc q z))]; exact hS.2.1 q h1 h2, fun q hq => by
      rcases List.mem_append.mp hq with h | h
      · exact hS.2.2 q h
      · exact hc _ (hL q h)⟩ T' rfl X'
  exact ⟨t2, st t2 a1, b1⟩
theorem z_zA {wc : va_W} (hD : va_D A0 wc) : ∀ q, zA wc q → A0 q := fun q h => by
  obtain ⟨r, hr, e⟩ := List.mem_map.mp h
  obtain ⟨k, hk⟩ := List.getElem?_of_mem hr
  rw [← e]; exact hD.2 k r hk
theorem z_mu0 {wc w1 : va_W} (hr : va_Run p l e R s m args below meth c H locs cells slots 0 0 (F0 m pc ls st0) rest (zQmu Z wc w1 v a) (zA wc)) (hS : va_S A0 H0 H locs) (hD : va_D A0 wc) (ha : w1.map (·.1) = wc.map (·.1))
    (kk : ∀ (H1 : Heap) (locs1 : List Loc), va_P Z.1 vwCl w1 H1 → va_D A0 w1 → va_S A0 H0 H1 locs1 → W p l e R s m args below meth c H1 locs1 cells slots Q (F0 m (pc + 3) ls (v.toList ++ rest))) : W p l e R s m args below meth c H locs cells slots Q (F0 m pc ls st0) := by
  intro T hT X
  obtain ⟨v', st₀, t, T', Lc, h0, X', hL, e1, e2, ⟨hv, hp, hz, hk⟩, st⟩ := hr T hT X
  cases hv
  rw [h0] at hz hk
  have hc := z_zA hD
  obtain ⟨t2, a1, b1⟩ := kk T'.heap (locs ++ Lc) (by rw [e1]; exact hp) (zD_adr hD ha)
    ⟨Nat.le_trans hS.1 (by rw [e1]; exact hz), fun q h1 h2 => by rw [e1, hk q (Nat.lt_of_lt_of_le h1 hS.1) (fun z => h2 (hc q z))]; exact hS.2.1 q h1 h2, fun q hq => by
      rcases List.mem_append.mp hq with h | h
      · exact hS.2.2 q h
      · exact hc _ (hL q h)⟩ T' rfl X'
  exact ⟨t2, st t2 a1, b1⟩
theorem z_mu1 {wc w1 : va_W} {L : List va_W} (hr : va_Run p l e R s m args below meth c H locs cells slots 0 0 (F0 m pc ls st0) rest (zQmu Z wc w1 v a) (zA wc)) (hS : va_S A0 H0 H locs) (hP : va_P Z.1 vwCl L.flatten H) (hD : va_D A0 L.flatten) (i : Nat) (hi : L[i]? = some wc) {L' : List va_W} (hL : L.set i w1 = L') (ha : w1.map (·.1) = wc.map (·.1))
    (kk : ∀ (H1 : Heap) (locs1 : List Loc), va_P Z.1 vwCl L'.flatten H1 → va_D A0 L'.flatten → va_S A0 H0 H1 locs1 → W p l e R s m args below meth c H1 locs1 cells slots Q (F0 m (pc + 3) ls (v.toList ++ rest))) : W p l e R s m args below meth c H locs cells slots Q (F0 m pc ls st0) :=
  z_mu hr hS hP hD (z_zA (zD_one hD i wc hi)) (fun _ hk hp => z_set1 hP hD i hi hL ha hk hp) kk
theorem z_mu2 {wa wb a1 b1 : va_W} {L : List va_W} (hr : va_Run p l e R s m args below meth c H locs cells slots 0 0 (F0 m pc ls st0) rest (zQmu Z (List.flatten [wa, wb]) (List.flatten [a1, b1]) v a) (zA (List.flatten [wa, wb]))) (hS : va_S A0 H0 H locs) (hP : va_P Z.1 vwCl L.flatten H) (hD : va_D A0 L.flatten) (i j : Nat) (hi : L[i]? = some wa) (hj : L[j]? = some wb) (hn : i ≠ j) {L' : List va_W} (hL : (L.set i a1).set j b1 = L') (ea : a1.map (·.1) = wa.map (·.1)) (eb : b1.map (·.1) = wb.map (·.1))
    (kk : ∀ (H1 : Heap) (locs1 : List Loc), va_P Z.1 vwCl L'.flatten H1 → va_D A0 L'.flatten → va_S A0 H0 H1 locs1 → W p l e R s m args below meth c H1 locs1 cells slots Q (F0 m (pc + 3) ls (v.toList ++ rest))) : W p l e R s m args below meth c H locs cells slots Q (F0 m pc ls st0) :=
by
  have e1 : List.flatten [wa, wb] = wa ++ wb := by simp
  have e2 : List.flatten [a1, b1] = a1 ++ b1 := by simp
  rw [e1, e2] at hr
  exact z_mu hr hS hP hD (z_zA (zD_reg2 hD i j hi hj hn)) (fun _ hk hp => z_set2 hP hD i j hi hj hn hL ea eb hk hp) kk
theorem z_mu3 {wa wb wd a1 b1 d1 : va_W} {L : List va_W} (hr : va_Run p l e R s m args below meth c H locs cells slots 0 0 (F0 m pc ls st0) rest (zQmu Z (List.flatten [wa, wb, wd]) (List.flatten [a1, b1, d1]) v a) (zA (List.flatten [wa, wb, wd]))) (hS : va_S A0 H0 H locs) (hP : va_P Z.1 vwCl L.flatten H) (hD : va_D A0 L.flatten) (i j k : Nat) (hi : L[i]? = some wa) (hj : L[j]? = some wb) (hk : L[k]? = some wd) (hn : i ≠ j) (hn2 : i ≠ k) (hn3 : j ≠ k) {L' : List va_W} (hL : ((L.set i a1).set j b1).set k d1 = L') (ea : a1.map (·.1) = wa.map (·.1)) (eb : b1.map (·.1) = wb.map (·.1)) (ed : d1.map (·.1) = wd.map (·.1))
    (kk : ∀ (H1 : Heap) (locs1 : List Loc), va_P Z.1 vwCl L'.flatten H1 → va_D A0 L'.flatten → va_S A0 H0 H1 locs1 → W p l e R s m args below meth c H1 locs1 cells slots Q (F0 m (pc + 3) ls (v.toList ++ rest))) : W p l e R s m args below meth c H locs cells slots Q (F0 m pc ls st0) :=
by
  have e1 : List.flatten [wa, wb, wd] = wa ++ (wb ++ wd) := by simp
  have e2 : List.flatten [a1, b1, d1] = a1 ++ (b1 ++ d1) := by simp
  rw [e1, e2] at hr
  exact z_mu hr hS hP hD (z_zA (zD_reg3 hD i j k hi hj hk hn hn2 hn3)) (fun _ hk' hp => z_set3 hP hD i j k hi hj hk hn hn2 hn3 hL ea eb ed hk' hp) kk
end ZC
/-! what the tables say of a method, once a method -/
def zVt (y : MethodName) (cc : ByteArray) (maxL : Nat) (ret : Option FieldType) (n : Nat) : Prop := Cond.instanceMethod y ∈ zG ∧ Cond.selects y.cls y y ∈ zG ∧ Cond.initialized y.cls ∈ zG ∧ Cond.code y cc maxL ret ∈ zG ∧ (y.cls ≠ "java/lang/invoke/MethodHandle" ∧ y.cls ≠ "java/lang/invoke/VarHandle" ∧ (parseMethodDescriptor y.desc).map (fun d => d.parameters.length) = some n)
def zSt (y : MethodName) (cc : ByteArray) (maxL : Nat) (ret : Option FieldType) (n : Nat) : Prop := Cond.static y ∈ zG ∧ Cond.initialized y.cls ∈ zG ∧ Cond.code y cc maxL ret ∈ zG ∧ (y.cls ≠ "java/lang/invoke/MethodHandle" ∧ y.cls ≠ "java/lang/invoke/VarHandle" ∧ (parseMethodDescriptor y.desc).map (fun d => d.parameters.length) = some n)
section ZR
variable {p : Program} {l : Launch} {e : Env} {R : Room} {s : State} {m : MethodId} {args : Array Value} {below : List Frame} {meth : Method} {c : Code} {H : Heap} {locs : List Loc} {cells slots : Nat}
variable {y : MethodName} {bytes cc : ByteArray} {maxL nL n index : Nat} {ret : Option FieldType} {rm : Room} {Z : zZ} {w w' : va_W} {v : Option Value} {own : String} {b : Addr} {As rest : List Value} {pc : Nat} {ls : Array Slot}
theorem z_good1 {w0 : Cond} (h : w0 ∈ zG) : w0 ∈ zG ∧ ((w0.onTables && w0.keeps) = true ∨ ∃ ty, w0 = .arrayClass ty) := zG_ok _ h
theorem z_goodV (hl : Cond.methodLink own index y ∈ zG) (hv : zVt y bytes maxL ret n) : GoodIn zG (wsV own index y.cls y (zw y bytes maxL ret)) := by
  intro w0 h
  rcases List.mem_append.mp h with h | h
  · simp only [List.mem_cons, List.not_mem_nil, or_false] at h
    rcases h with h | h | h | h <;> subst h
    · exact z_good1 hl
    · exact z_good1 hv.1
    · exact z_good1 hv.2.1
    · exact z_good1 hv.2.2.1
  · rcases List.mem_cons.mp h with h | h
    · subst h; exact z_good1 hv.2.2.2.1
    · exact z_good1 h
theorem z_goodC (h4 : Cond.code y bytes maxL ret ∈ zG) : GoodIn zG (zw y bytes maxL ret) := by
  intro w0 h
  rcases List.mem_cons.mp h with h | h
  · subst h; exact z_good1 h4
  · exact z_good1 h
/-- the receiver's class, out of its cell -/
theorem z_recv {ws : va_W} {q : vw_C} {ci q0 : Nat} {fs : List Value} (hK : zK Z s) (hP : va_P Z.1 vwCl ws H) (he : ws[q0]? = some (b, .inr (ci, fs))) (hc : vwCl[ci]? = some q) : ∃ cellB : Cell, H[b]? = some cellB ∧ cellB.vm.isStatics = false ∧ s.vm.findClass q.1 = some cellB.cls := va_recv hK.1 hP hc he
theorem z_rV (hx : p.tables.exec = Jvm.exec) (hb : c.code = cc) (hml : c.maxLocals = nL) (hown : s.vm.findClass own = some m.cls) (hts : ∀ w ∈ zG, w.before args s = true) (hv : zVt y bytes maxL ret n) {Pc : Array Value → State → Prop} {Qc : Array Value → State → Outcome → State → Prop} {free : Addr → Prop} (hM : Met l y (zw y bytes maxL ret) rm Pc Qc 0 0 free) (hrc : rm.cells = 0) (hrs : rm.slots = 0) (hR : rm.frames + 1 ≤ R.frames ∧ 8 + (maxL + 11) + rm.locals ≤ R.locals) (hl : Cond.methodLink own index y ∈ zG)
    (hbl : FrameBlind Pc) (hrv : ∃ cellB : Cell, H[b]? = some cellB ∧ cellB.vm.isStatics = false ∧ s.vm.findClass y.cls = some cellB.cls) (hpre : ∀ U : State, U.heap = H → s.WarmedH U.vm → Pc (Value.ref b :: As).toArray U)
    (hn : As.length = n) (hls : ls.size = nL) (hW : (rest.map fun v => v.category).sum ≤ 8) (hdg : decode cc pc = .ok (.invokevirtual index, 3)) (hf : cells ≤ R.cells ∧ slots ≤ R.slots) :
    va_Run p l e R s m args below meth c H locs cells slots 0 0 (F0 m pc ls (As.reverse ++ .ref b :: rest)) rest (Qc (Value.ref b :: As).toArray) free :=
  va_runV (C := y.cls) (As := As) (rest := rest) ⟨hx, hb, hml, hown, hts⟩ hM (cwV n hts (z_goodV hl hv) rfl hrc hrs ⟨rfl, hv.2.2.2.2⟩ hR) ⟨hbl, hrv, hpre⟩ rfl hn hls rfl (lv_room hW) hdg hf
theorem z_rS (hx : p.tables.exec = Jvm.exec) (hb : c.code = cc) (hml : c.maxLocals = nL) (hown : s.vm.findClass own = some m.cls) (hts : ∀ w ∈ zG, w.before args s = true) (hv : zSt y bytes maxL ret n) {Pc : Array Value → State → Prop} {Qc : Array Value → State → Outcome → State → Prop} {free : Addr → Prop} (hM : Met l y (zw y bytes maxL ret) rm Pc Qc 0 0 free) (hrc : rm.cells = 0) (hrs : rm.slots = 0) (hR : rm.frames + 1 ≤ R.frames ∧ 8 + (maxL + 11) + rm.locals ≤ R.locals) (hl : Cond.methodLink own index y ∈ zG)
    (hbl : FrameBlind Pc) (hpre : ∀ U : State, U.heap = H → s.WarmedH U.vm → Pc As.toArray U)
    (hn : As.length = n) (hls : ls.size = nL) (hW : (rest.map fun v => v.category).sum ≤ 8) (hdg : decode cc pc = .ok (.invokestatic index, 3)) (hf : cells ≤ R.cells ∧ slots ≤ R.slots) :
    va_Run p l e R s m args below meth c H locs cells slots 0 0 (F0 m pc ls (As.reverse ++ rest)) rest (Qc As.toArray) free :=
  va_runS (As := As) (rest := rest) ⟨hx, hb, hml, hown, hts⟩ hM ⟨callB_of n hts (z_goodC hv.2.2.1) rfl hrc hrs (hts _ hv.2.1) (hts _ hl) hv.2.2.2 hR, hts _ hv.1⟩ ⟨hbl, hpre⟩ rfl hn hls rfl (lv_room hW) hdg hf
theorem z_rSN {host : String} (hx : p.tables.exec = Jvm.exec) (hb : c.code = cc) (hml : c.maxLocals = nL) (hown : s.vm.findClass own = some m.cls) (hts : ∀ w ∈ zG, w.before args s = true) (hv : zSt y bytes maxL ret n) {Pc : Array Value → State → Prop} {Qc : Array Value → State → Outcome → State → Prop} {free : Addr → Prop} (hM : Met l y (zw y bytes maxL ret) rm Pc Qc 0 0 free) (hrc : rm.cells = 0) (hrs : rm.slots = 0) (hR : rm.frames + 1 ≤ R.frames ∧ 8 + (maxL + 11) + rm.locals ≤ R.locals) (hl : va_Nw (.methodLinkNest own index y host) s)
    (hbl : FrameBlind Pc) (hpre : ∀ U : State, U.heap = H → s.WarmedH U.vm → Pc As.toArray U)
    (hn : As.length = n) (hls : ls.size = nL) (hW : (rest.map fun v => v.category).sum ≤ 8) (hdg : decode cc pc = .ok (.invokestatic index, 3)) (hf : cells ≤ R.cells ∧ slots ≤ R.slots) :
    va_Run p l e R s m args below meth c H locs cells slots 0 0 (F0 m pc ls (As.reverse ++ rest)) rest (Qc As.toArray) free :=
  va_runSN (As := As) (rest := rest) ⟨hx, hb, hml, hown, hts⟩ hM ⟨va_cnB n hts (z_goodC hv.2.2.1) rfl hrc hrs hl (hts _ hv.2.1) hv.2.2.2 hR, hts _ hv.1, trivial⟩ ⟨hbl, hpre⟩ rfl hn hls rfl (lv_room hW) hdg hf
theorem z_prec (hK : zK Z s) (hP : va_P Z.1 vwCl w H) {av : List Value} : ∀ U : State, U.heap = H → s.WarmedH U.vm → zPro Z w av av.toArray U := fun U hU hW => ⟨rfl, by rw [hU]; exact hP, hK.warm hW⟩
theorem z_prem (hK : zK Z s) (hP : va_P Z.1 vwCl w H) {A0 : Nat → Prop} (hD : va_D A0 w) {av : List Value} : ∀ U : State, U.heap = H → s.WarmedH U.vm → zPmu Z w av av.toArray U := fun U hU hW => ⟨rfl, by rw [hU]; exact hP, hK.warm hW, hD.weaken (fun _ _ _ _ => trivial)⟩
end ZR
end
section
theorem z_d {cc : ByteArray} {tab : List (Nat × (Instr × Nat))} (h : ∀ q ∈ tab, decode cc q.1 = .ok q.2) (i : Nat) {pc : Nat} {ins : Instr × Nat} (e : tab[i]? = some (pc, ins)) : decode cc pc = .ok ins := h (pc, ins) (List.mem_of_getElem? e)
def tX0_init_0 : List (Nat × (Instr × Nat)) := [(0, (.aload_n 0, 1)), (1, (.invokespecial 3, 3)), (4, (.aload_n 0, 1)), (5, (.iconst 4, 1)), (6, (.anewarray 9, 3)), (9, (.putfield 11, 3)), (12, (.aload_n 0, 1)), (13, (.iconst 0, 1)), (14, (.putfield 17, 3)), (17, (.iconst 0, 1)), (18, (.istore_n 1, 1)), (19, (.iload_n 1, 1)), (20, (.aload_n 0, 1)), (21, (.getfield 11, 3)), (24, (.arraylength, 1)), (25, (.if_icmp .ge 22, 3)), (28, (.aload_n 0, 1)), (29, (.getfield 11, 3)), (32, (.iload_n 1, 1)), (33, (.new 9, 3)), (36, (.dup, 1)), (37, (.invokespecial 21, 3)), (40, (.aastore, 1)), (41, (.iinc 1 1, 3)), (44, (.goto (-25), 3)), (47, (.return_, 1))]
theorem hX0_init_0 : ∀ q ∈ tX0_init_0, decode cX0_init q.1 = .ok q.2 := by decide +kernel
def tX0_store_0 : List (Nat × (Instr × Nat)) := [(0, (.aload_n 0, 1)), (1, (.getfield 17, 3)), (4, (.aload_n 0, 1)), (5, (.getfield 11, 3)), (8, (.arraylength, 1)), (9, (.if_icmp .lt 7, 3)), (12, (.aload_n 0, 1)), (13, (.invokevirtual 22, 3)), (16, (.aload_n 0, 1)), (17, (.aload_n 0, 1)), (18, (.getfield 17, 3)), (21, (.invokevirtual 25, 3)), (24, (.astore_n 2, 1)), (25, (.aload_n 2, 1)), (26, (.ifnull 18, 3)), (29, (.aload_n 2, 1)), (30, (.aload_n 1, 1)), (31, (.invokevirtual 29, 3)), (34, (.aload_n 0, 1)), (35, (.dup, 1)), (36, (.getfield 17, 3)), (39, (.iconst 1, 1)), (40, (.iadd, 1)), (41, (.putfield 17, 3)), (44, (.return_, 1))]
theorem hX0_store_0 : ∀ q ∈ tX0_store_0, decode cX0_store q.1 = .ok q.2 := by decide +kernel
def tX0_dropOldest_0 : List (Nat × (Instr × Nat)) := [(0, (.aload_n 0, 1)), (1, (.iconst 0, 1)), (2, (.invokevirtual 25, 3)), (5, (.astore_n 1, 1)), (6, (.iconst 1, 1)), (7, (.istore_n 2, 1)), (8, (.iload_n 2, 1)), (9, (.aload_n 0, 1)), (10, (.getfield 11, 3)), (13, (.arraylength, 1)), (14, (.if_icmp .ge 23, 3)), (17, (.aload_n 0, 1)), (18, (.getfield 11, 3)), (21, (.iload_n 2, 1)), (22, (.iconst 1, 1)), (23, (.isub, 1)), (24, (.aload_n 0, 1)), (25, (.getfield 11, 3)), (28, (.iload_n 2, 1)), (29, (.aaload, 1)), (30, (.aastore, 1)), (31, (.iinc 2 1, 3)), (34, (.goto (-26), 3)), (37, (.aload_n 0, 1)), (38, (.getfield 11, 3)), (41, (.arraylength, 1)), (42, (.ifCond .le 16, 3)), (45, (.aload_n 0, 1)), (46, (.getfield 11, 3)), (49, (.aload_n 0, 1)), (50, (.getfield 11, 3)), (53, (.arraylength, 1)), (54, (.iconst 1, 1)), (55, (.isub, 1)), (56, (.aload_n 1, 1)), (57, (.aastore, 1)), (58, (.aload_n 0, 1)), (59, (.dup, 1)), (60, (.getfield 17, 3)), (63, (.iconst 1, 1)), (64, (.isub, 1)), (65, (.putfield 17, 3)), (68, (.return_, 1))]
theorem hX0_dropOldest_0 : ∀ q ∈ tX0_dropOldest_0, decode cX0_dropOldest q.1 = .ok q.2 := by decide +kernel
def tX0_giveBack_0 : List (Nat × (Instr × Nat)) := [(0, (.aload_n 0, 1)), (1, (.aload_n 0, 1)), (2, (.getfield 17, 3)), (5, (.iconst 1, 1)), (6, (.isub, 1)), (7, (.invokevirtual 25, 3)), (10, (.astore_n 2, 1)), (11, (.aload_n 2, 1)), (12, (.ifnull 18, 3)), (15, (.aload_n 1, 1)), (16, (.aload_n 2, 1)), (17, (.invokevirtual 29, 3)), (20, (.aload_n 0, 1)), (21, (.dup, 1)), (22, (.getfield 17, 3)), (25, (.iconst 1, 1)), (26, (.isub, 1)), (27, (.putfield 17, 3)), (30, (.return_, 1))]
theorem hX0_giveBack_0 : ∀ q ∈ tX0_giveBack_0, decode cX0_giveBack q.1 = .ok q.2 := by decide +kernel
def tX0_stateAt_0 : List (Nat × (Instr × Nat)) := [(0, (.iload_n 1, 1)), (1, (.ifCond .lt 21, 3)), (4, (.iload_n 1, 1)), (5, (.aload_n 0, 1)), (6, (.getfield 11, 3)), (9, (.arraylength, 1)), (10, (.if_icmp .ge 12, 3)), (13, (.aload_n 0, 1)), (14, (.getfield 11, 3)), (17, (.iload_n 1, 1)), (18, (.aaload, 1)), (19, (.goto 4, 3)), (22, (.aconst_null, 1)), (23, (.areturn, 1))]
theorem hX0_stateAt_0 : ∀ q ∈ tX0_stateAt_0, decode cX0_stateAt q.1 = .ok q.2 := by decide +kernel
def tX1_init_0 : List (Nat × (Instr × Nat)) := [(0, (.aload_n 0, 1)), (1, (.invokespecial 3, 3)), (4, (.aload_n 0, 1)), (5, (.iconst 0, 1)), (6, (.putfield 9, 3)), (9, (.aload_n 0, 1)), (10, (.iconst 0, 1)), (11, (.putfield 15, 3)), (14, (.aload_n 0, 1)), (15, (.iconst 0, 1)), (16, (.putfield 18, 3)), (19, (.aload_n 0, 1)), (20, (.iconst 0, 1)), (21, (.putfield 21, 3)), (24, (.aload_n 0, 1)), (25, (.iconst 0, 1)), (26, (.putfield 24, 3)), (29, (.aload_n 0, 1)), (30, (.new 27, 3)), (33, (.dup, 1)), (34, (.bipush 60, 2)), (36, (.invokespecial 29, 3)), (39, (.putfield 32, 3)), (42, (.aload_n 0, 1)), (43, (.new 27, 3)), (46, (.dup, 1)), (47, (.bipush 60, 2)), (49, (.invokespecial 29, 3)), (52, (.putfield 36, 3)), (55, (.aload_n 0, 1)), (56, (.new 27, 3)), (59, (.dup, 1)), (60, (.bipush 60, 2)), (62, (.invokespecial 29, 3)), (65, (.putfield 39, 3)), (68, (.aload_n 0, 1)), (69, (.new 27, 3)), (72, (.dup, 1)), (73, (.bipush 60, 2)), (75, (.invokespecial 29, 3)), (78, (.putfield 42, 3)), (81, (.aload_n 0, 1)), (82, (.new 27, 3)), (85, (.dup, 1)), (86, (.bipush 60, 2)), (88, (.invokespecial 29, 3)), (91, (.putfield 45, 3)), (94, (.aload_n 0, 1)), (95, (.new 27, 3)), (98, (.dup, 1)), (99, (.bipush 60, 2)), (101, (.invokespecial 29, 3)), (104, (.putfield 48, 3)), (107, (.aload_n 0, 1)), (108, (.new 27, 3)), (111, (.dup, 1)), (112, (.bipush 60, 2)), (114, (.invokespecial 29, 3)), (117, (.putfield 51, 3)), (120, (.aload_n 0, 1))]
theorem hX1_init_0 : ∀ q ∈ tX1_init_0, decode cX1_init q.1 = .ok q.2 := by decide +kernel
def tX1_init_1 : List (Nat × (Instr × Nat)) := [(121, (.new 27, 3)), (124, (.dup, 1)), (125, (.bipush 60, 2)), (127, (.invokespecial 29, 3)), (130, (.putfield 54, 3)), (133, (.aload_n 0, 1)), (134, (.new 27, 3)), (137, (.dup, 1)), (138, (.bipush 60, 2)), (140, (.invokespecial 29, 3)), (143, (.putfield 57, 3)), (146, (.return_, 1))]
theorem hX1_init_1 : ∀ q ∈ tX1_init_1, decode cX1_init q.1 = .ok q.2 := by decide +kernel
def tX1_arrange_0 : List (Nat × (Instr × Nat)) := [(0, (.aload_n 0, 1)), (1, (.iconst 0, 1)), (2, (.putfield 9, 3)), (5, (.aload_n 0, 1)), (6, (.iconst 0, 1)), (7, (.putfield 18, 3)), (10, (.aload_n 0, 1)), (11, (.aload_n 1, 1)), (12, (.getfield 60, 3)), (15, (.putfield 21, 3)), (18, (.aload_n 0, 1)), (19, (.aload_n 1, 1)), (20, (.invokevirtual 65, 3)), (23, (.iconst 0, 1)), (24, (.istore_n 2, 1)), (25, (.iload_n 2, 1)), (26, (.aload_n 1, 1)), (27, (.getfield 69, 3)), (30, (.if_icmp .ge 35, 3)), (33, (.aload_n 0, 1)), (34, (.getfield 9, 3)), (37, (.ifCond .eq 12, 3)), (40, (.aload_n 0, 1)), (41, (.aload_n 1, 1)), (42, (.iload_n 2, 1)), (43, (.invokevirtual 72, 3)), (46, (.ifCond .eq 7, 3)), (49, (.aload_n 0, 1)), (50, (.invokevirtual 76, 3)), (53, (.aload_n 0, 1)), (54, (.aload_n 1, 1)), (55, (.iload_n 2, 1)), (56, (.invokevirtual 79, 3)), (59, (.iinc 2 1, 3)), (62, (.goto (-37), 3)), (65, (.aload_n 0, 1)), (66, (.aload_n 1, 1)), (67, (.invokevirtual 83, 3)), (70, (.aload_n 0, 1)), (71, (.aload_n 1, 1)), (72, (.invokevirtual 86, 3)), (75, (.aload_n 0, 1)), (76, (.getfield 9, 3)), (79, (.ireturn, 1))]
theorem hX1_arrange_0 : ∀ q ∈ tX1_arrange_0, decode cX1_arrange q.1 = .ok q.2 := by decide +kernel
def tX1_findNeeds_0 : List (Nat × (Instr × Nat)) := [(0, (.aload_n 1, 1)), (1, (.getfield 69, 3)), (4, (.iconst 1, 1)), (5, (.isub, 1)), (6, (.istore_n 2, 1)), (7, (.iload_n 2, 1)), (8, (.ifCond .lt 64, 3)), (11, (.aload_n 1, 1)), (12, (.getfield 89, 3)), (15, (.iload_n 2, 1)), (16, (.invokevirtual 92, 3)), (19, (.aload_n 1, 1)), (20, (.iload_n 2, 1)), (21, (.invokevirtual 96, 3)), (24, (.invokestatic 99, 3)), (27, (.istore_n 3, 1)), (28, (.aload_n 1, 1)), (29, (.iload_n 2, 1)), (30, (.invokestatic 103, 3)), (33, (.ifCond .eq 24, 3)), (36, (.iload_n 3, 1)), (37, (.aload_n 1, 1)), (38, (.iload_n 2, 1)), (39, (.iconst 1, 1)), (40, (.iadd, 1)), (41, (.invokevirtual 106, 3)), (44, (.aload_n 0, 1)), (45, (.getfield 32, 3)), (48, (.iload_n 2, 1)), (49, (.iconst 1, 1)), (50, (.iadd, 1)), (51, (.invokevirtual 92, 3)), (54, (.iadd, 1)), (55, (.iadd, 1)), (56, (.istore_n 3, 1)), (57, (.aload_n 0, 1)), (58, (.getfield 32, 3)), (61, (.iload_n 2, 1)), (62, (.iload_n 3, 1)), (63, (.invokevirtual 109, 3)), (66, (.iinc 2 (-1), 3)), (69, (.goto (-62), 3)), (72, (.return_, 1))]
theorem hX1_findNeeds_0 : ∀ q ∈ tX1_findNeeds_0, decode cX1_findNeeds q.1 = .ok q.2 := by decide +kernel
def tX1_leastPart_0 : List (Nat × (Instr × Nat)) := [(0, (.iload_n 1, 1)), (1, (.iconst 4, 1)), (2, (.if_icmp .lt 10, 3)), (5, (.iload_n 0, 1)), (6, (.iconst 1, 1)), (7, (.if_icmp .ne 5, 3)), (10, (.iconst 2, 1)), (11, (.ireturn, 1)), (12, (.iload_n 1, 1)), (13, (.iconst 4, 1)), (14, (.if_icmp .lt 12, 3)), (17, (.iload_n 0, 1)), (18, (.iconst 3, 1)), (19, (.if_icmp .ne 7, 3)), (22, (.iconst 3, 1)), (23, (.goto 4, 3)), (26, (.iload_n 1, 1)), (27, (.ireturn, 1))]
theorem hX1_leastPart_0 : ∀ q ∈ tX1_leastPart_0, decode cX1_leastPart q.1 = .ok q.2 := by decide +kernel
def tX1_holdsNext_0 : List (Nat × (Instr × Nat)) := [(0, (.iload_n 1, 1)), (1, (.iconst 1, 1)), (2, (.iadd, 1)), (3, (.istore_n 2, 1)), (4, (.aload_n 0, 1)), (5, (.iload_n 2, 1)), (6, (.invokevirtual 113, 3)), (9, (.ifCond .eq 15, 3)), (12, (.aload_n 0, 1)), (13, (.getfield 117, 3)), (16, (.iload_n 2, 1)), (17, (.invokevirtual 92, 3)), (20, (.iconst (-1), 1)), (21, (.if_icmp .eq 5, 3)), (24, (.iconst 0, 1)), (25, (.ireturn, 1)), (26, (.aload_n 0, 1)), (27, (.getfield 89, 3)), (30, (.iload_n 2, 1)), (31, (.invokevirtual 92, 3)), (34, (.istore_n 3, 1)), (35, (.aload_n 0, 1)), (36, (.getfield 89, 3)), (39, (.iload_n 1, 1)), (40, (.invokevirtual 92, 3)), (43, (.tableswitch 59 0 4 #[33, 59, 43, 59, 43], 33)), (76, (.iload_n 3, 1)), (77, (.ifCond .eq 7, 3)), (80, (.iconst 1, 1)), (81, (.goto 4, 3)), (84, (.iconst 0, 1)), (85, (.ireturn, 1)), (86, (.iload_n 3, 1)), (87, (.iconst 4, 1)), (88, (.if_icmp .eq 8, 3)), (91, (.iload_n 3, 1)), (92, (.iconst 3, 1)), (93, (.if_icmp .ne 7, 3)), (96, (.iconst 1, 1)), (97, (.goto 4, 3)), (100, (.iconst 0, 1)), (101, (.ireturn, 1)), (102, (.iconst 0, 1)), (103, (.ireturn, 1))]
theorem hX1_holdsNext_0 : ∀ q ∈ tX1_holdsNext_0, decode cX1_holdsNext q.1 = .ok q.2 := by decide +kernel
def tX1_mustTurn_0 : List (Nat × (Instr × Nat)) := [(0, (.aload_n 0, 1)), (1, (.getfield 24, 3)), (4, (.ifCond .ne 5, 3)), (7, (.iconst 0, 1)), (8, (.ireturn, 1)), (9, (.aload_n 1, 1)), (10, (.getfield 117, 3)), (13, (.iload_n 2, 1)), (14, (.invokevirtual 92, 3)), (17, (.iconst (-1), 1)), (18, (.if_icmp .ne 29, 3)), (21, (.aload_n 1, 1)), (22, (.iload_n 2, 1)), (23, (.invokevirtual 106, 3)), (26, (.aload_n 0, 1)), (27, (.getfield 32, 3)), (30, (.iload_n 2, 1)), (31, (.invokevirtual 92, 3)), (34, (.iadd, 1)), (35, (.aload_n 0, 1)), (36, (.getfield 21, 3)), (39, (.aload_n 0, 1)), (40, (.getfield 24, 3)), (43, (.isub, 1)), (44, (.if_icmp .le 7, 3)), (47, (.iconst 1, 1)), (48, (.goto 4, 3)), (51, (.iconst 0, 1)), (52, (.ireturn, 1))]
theorem hX1_mustTurn_0 : ∀ q ∈ tX1_mustTurn_0, decode cX1_mustTurn q.1 = .ok q.2 := by decide +kernel
def tX1_turnPage_0 : List (Nat × (Instr × Nat)) := [(0, (.aload_n 0, 1)), (1, (.iconst 0, 1)), (2, (.putfield 24, 3)), (5, (.aload_n 0, 1)), (6, (.getfield 51, 3)), (9, (.aload_n 0, 1)), (10, (.getfield 9, 3)), (13, (.iconst 0, 1)), (14, (.invokevirtual 109, 3)), (17, (.aload_n 0, 1)), (18, (.getfield 54, 3)), (21, (.aload_n 0, 1)), (22, (.getfield 9, 3)), (25, (.iconst (-1), 1)), (26, (.invokevirtual 109, 3)), (29, (.aload_n 0, 1)), (30, (.getfield 57, 3)), (33, (.aload_n 0, 1)), (34, (.getfield 9, 3)), (37, (.iconst 0, 1)), (38, (.invokevirtual 109, 3)), (41, (.aload_n 0, 1)), (42, (.dup, 1)), (43, (.getfield 9, 3)), (46, (.iconst 1, 1)), (47, (.iadd, 1)), (48, (.putfield 9, 3)), (51, (.return_, 1))]
theorem hX1_turnPage_0 : ∀ q ∈ tX1_turnPage_0, decode cX1_turnPage q.1 = .ok q.2 := by decide +kernel
def tX1_fill_0 : List (Nat × (Instr × Nat)) := [(0, (.aload_n 0, 1)), (1, (.dup, 1)), (2, (.getfield 24, 3)), (5, (.iload_n 1, 1)), (6, (.iadd, 1)), (7, (.putfield 24, 3)), (10, (.aload_n 0, 1)), (11, (.getfield 51, 3)), (14, (.aload_n 0, 1)), (15, (.getfield 9, 3)), (18, (.iconst 1, 1)), (19, (.isub, 1)), (20, (.aload_n 0, 1)), (21, (.getfield 24, 3)), (24, (.invokevirtual 109, 3)), (27, (.return_, 1))]
theorem hX1_fill_0 : ∀ q ∈ tX1_fill_0, decode cX1_fill q.1 = .ok q.2 := by decide +kernel
def tX1_setElement_0 : List (Nat × (Instr × Nat)) := [(0, (.aload_n 0, 1)), (1, (.getfield 24, 3)), (4, (.ifCond .le 12, 3)), (7, (.aload_n 0, 1)), (8, (.aload_n 1, 1)), (9, (.iload_n 2, 1)), (10, (.invokevirtual 106, 3)), (13, (.invokevirtual 120, 3)), (16, (.aload_n 1, 1)), (17, (.getfield 89, 3)), (20, (.iload_n 2, 1)), (21, (.invokevirtual 92, 3)), (24, (.istore_n 3, 1)), (25, (.aload_n 1, 1)), (26, (.iload_n 2, 1)), (27, (.invokevirtual 96, 3)), (30, (.istore 4, 2)), (32, (.iload_n 3, 1)), (33, (.iload 4, 2)), (35, (.aload_n 0, 1)), (36, (.getfield 21, 3)), (39, (.aload_n 0, 1)), (40, (.getfield 24, 3)), (43, (.isub, 1)), (44, (.invokestatic 123, 3)), (47, (.istore 5, 2)), (49, (.aload_n 0, 1)), (50, (.iload_n 2, 1)), (51, (.iload 5, 2)), (53, (.invokevirtual 127, 3)), (56, (.aload_n 0, 1)), (57, (.iload 5, 2)), (59, (.invokevirtual 120, 3)), (62, (.iload 5, 2)), (64, (.iload 4, 2)), (66, (.if_icmp .ge 13, 3)), (69, (.aload_n 0, 1)), (70, (.iload_n 3, 1)), (71, (.iload 4, 2)), (73, (.iload 5, 2)), (75, (.isub, 1)), (76, (.invokevirtual 130, 3)), (79, (.return_, 1))]
theorem hX1_setElement_0 : ∀ q ∈ tX1_setElement_0, decode cX1_setElement q.1 = .ok q.2 := by decide +kernel
def tX1_firstPart_0 : List (Nat × (Instr × Nat)) := [(0, (.iload_n 1, 1)), (1, (.iload_n 2, 1)), (2, (.if_icmp .gt 5, 3)), (5, (.iload_n 1, 1)), (6, (.ireturn, 1)), (7, (.iload_n 0, 1)), (8, (.iconst 3, 1)), (9, (.if_icmp .ne 9, 3)), (12, (.iload_n 2, 1)), (13, (.iconst 1, 1)), (14, (.isub, 1)), (15, (.goto 4, 3)), (18, (.iload_n 2, 1)), (19, (.iload_n 1, 1)), (20, (.iconst 2, 1)), (21, (.isub, 1)), (22, (.invokestatic 133, 3)), (25, (.ireturn, 1))]
theorem hX1_firstPart_0 : ∀ q ∈ tX1_firstPart_0, decode cX1_firstPart q.1 = .ok q.2 := by decide +kernel
def tX1_noteBegin_0 : List (Nat × (Instr × Nat)) := [(0, (.aload_n 0, 1)), (1, (.getfield 9, 3)), (4, (.iconst 1, 1)), (5, (.isub, 1)), (6, (.istore_n 3, 1)), (7, (.aload_n 0, 1)), (8, (.getfield 36, 3)), (11, (.iload_n 1, 1)), (12, (.iload_n 3, 1)), (13, (.invokevirtual 109, 3)), (16, (.aload_n 0, 1)), (17, (.getfield 39, 3)), (20, (.iload_n 1, 1)), (21, (.aload_n 0, 1)), (22, (.getfield 24, 3)), (25, (.invokevirtual 109, 3)), (28, (.aload_n 0, 1)), (29, (.getfield 42, 3)), (32, (.iload_n 1, 1)), (33, (.iload_n 2, 1)), (34, (.invokevirtual 109, 3)), (37, (.aload_n 0, 1)), (38, (.getfield 57, 3)), (41, (.iload_n 3, 1)), (42, (.iconst 1, 1)), (43, (.invokevirtual 138, 3)), (46, (.aload_n 0, 1)), (47, (.getfield 54, 3)), (50, (.iload_n 3, 1)), (51, (.invokevirtual 92, 3)), (54, (.iconst (-1), 1)), (55, (.if_icmp .ne 12, 3)), (58, (.aload_n 0, 1)), (59, (.getfield 54, 3)), (62, (.iload_n 3, 1)), (63, (.iload_n 1, 1)), (64, (.invokevirtual 109, 3)), (67, (.return_, 1))]
theorem hX1_noteBegin_0 : ∀ q ∈ tX1_noteBegin_0, decode cX1_noteBegin q.1 = .ok q.2 := by decide +kernel
def tX1_carryOver_0 : List (Nat × (Instr × Nat)) := [(0, (.iload_n 1, 1)), (1, (.iconst 3, 1)), (2, (.if_icmp .ne 7, 3)), (5, (.iconst 1, 1)), (6, (.goto 4, 3)), (9, (.iconst 0, 1)), (10, (.istore_n 3, 1)), (11, (.aload_n 0, 1)), (12, (.iload_n 3, 1)), (13, (.invokevirtual 120, 3)), (16, (.aload_n 0, 1)), (17, (.invokevirtual 76, 3)), (20, (.aload_n 0, 1)), (21, (.iload_n 3, 1)), (22, (.iload_n 2, 1)), (23, (.iadd, 1)), (24, (.invokevirtual 120, 3)), (27, (.aload_n 0, 1)), (28, (.dup, 1)), (29, (.getfield 18, 3)), (32, (.iconst 1, 1)), (33, (.iadd, 1)), (34, (.putfield 18, 3)), (37, (.return_, 1))]
theorem hX1_carryOver_0 : ∀ q ∈ tX1_carryOver_0, decode cX1_carryOver q.1 = .ok q.2 := by decide +kernel
def tX1_countMarks_0 : List (Nat × (Instr × Nat)) := [(0, (.aload_n 0, 1)), (1, (.iconst 0, 1)), (2, (.putfield 15, 3)), (5, (.iconst 0, 1)), (6, (.istore_n 2, 1)), (7, (.iload_n 2, 1)), (8, (.aload_n 1, 1)), (9, (.getfield 69, 3)), (12, (.if_icmp .ge 31, 3)), (15, (.aload_n 1, 1)), (16, (.getfield 117, 3)), (19, (.iload_n 2, 1)), (20, (.invokevirtual 92, 3)), (23, (.iconst (-1), 1)), (24, (.if_icmp .eq 13, 3)), (27, (.aload_n 0, 1)), (28, (.dup, 1)), (29, (.getfield 15, 3)), (32, (.iconst 1, 1)), (33, (.iadd, 1)), (34, (.putfield 15, 3)), (37, (.iinc 2 1, 3)), (40, (.goto (-33), 3)), (43, (.return_, 1))]
theorem hX1_countMarks_0 : ∀ q ∈ tX1_countMarks_0, decode cX1_countMarks q.1 = .ok q.2 := by decide +kernel
def tX1_label_0 : List (Nat × (Instr × Nat)) := [(0, (.iconst 0, 1)), (1, (.istore_n 2, 1)), (2, (.iconst (-1), 1)), (3, (.istore_n 3, 1)), (4, (.iconst 0, 1)), (5, (.istore 4, 2)), (7, (.iload 4, 2)), (9, (.aload_n 0, 1)), (10, (.getfield 9, 3)), (13, (.if_icmp .ge 81, 3)), (16, (.aload_n 1, 1)), (17, (.getfield 117, 3)), (20, (.aload_n 0, 1)), (21, (.getfield 54, 3)), (24, (.iload 4, 2)), (26, (.invokevirtual 92, 3)), (29, (.invokevirtual 92, 3)), (32, (.istore 5, 2)), (34, (.aload_n 0, 1)), (35, (.getfield 15, 3)), (38, (.ifCond .ne 13, 3)), (41, (.iload 4, 2)), (43, (.iconst 1, 1)), (44, (.iadd, 1)), (45, (.istore_n 2, 1)), (46, (.iconst 0, 1)), (47, (.istore_n 3, 1)), (48, (.goto 20, 3)), (51, (.iload 5, 2)), (53, (.iconst (-1), 1)), (54, (.if_icmp .eq 11, 3)), (57, (.iload 5, 2)), (59, (.istore_n 2, 1)), (60, (.iconst 0, 1)), (61, (.istore_n 3, 1)), (62, (.goto 6, 3)), (65, (.iinc 3 1, 3)), (68, (.aload_n 0, 1)), (69, (.getfield 45, 3)), (72, (.iload 4, 2)), (74, (.iload_n 2, 1)), (75, (.invokevirtual 109, 3)), (78, (.aload_n 0, 1)), (79, (.getfield 48, 3)), (82, (.iload 4, 2)), (84, (.iload_n 3, 1)), (85, (.invokevirtual 109, 3)), (88, (.iinc 4 1, 3)), (91, (.goto (-84), 3)), (94, (.return_, 1))]
theorem hX1_label_0 : ∀ q ∈ tX1_label_0, decode cX1_label q.1 = .ok q.2 := by decide +kernel
def tX2_init_0 : List (Nat × (Instr × Nat)) := [(0, (.aload_n 0, 1)), (1, (.invokespecial 3, 3)), (4, (.aload_n 0, 1)), (5, (.iconst 0, 1)), (6, (.putfield 9, 3)), (9, (.aload_n 0, 1)), (10, (.iconst (-1), 1)), (11, (.putfield 15, 3)), (14, (.aload_n 0, 1)), (15, (.aload_n 1, 1)), (16, (.putfield 18, 3)), (19, (.aload_n 0, 1)), (20, (.iload_n 2, 1)), (21, (.putfield 22, 3)), (24, (.return_, 1))]
theorem hX2_init_0 : ∀ q ∈ tX2_init_0, decode cX2_init q.1 = .ok q.2 := by decide +kernel
def tX2_readInto_0 : List (Nat × (Instr × Nat)) := [(0, (.iconst 0, 1)), (1, (.istore_n 2, 1)), (2, (.iload_n 2, 1)), (3, (.bipush 60, 2)), (5, (.if_icmp .gt 33, 3)), (8, (.aload_n 0, 1)), (9, (.getfield 9, 3)), (12, (.aload_n 0, 1)), (13, (.getfield 22, 3)), (16, (.if_icmp .ge 22, 3)), (19, (.aload_n 0, 1)), (20, (.getfield 15, 3)), (23, (.iconst (-1), 1)), (24, (.if_icmp .ne 14, 3)), (27, (.aload_n 0, 1)), (28, (.aload_n 1, 1)), (29, (.invokevirtual 25, 3)), (32, (.iinc 2 1, 3)), (35, (.goto (-33), 3)), (38, (.aload_n 0, 1)), (39, (.getfield 15, 3)), (42, (.ireturn, 1))]
theorem hX2_readInto_0 : ∀ q ∈ tX2_readInto_0, decode cX2_readInto q.1 = .ok q.2 := by decide +kernel
def tX2_readItem_0 : List (Nat × (Instr × Nat)) := [(0, (.aload_n 0, 1)), (1, (.invokevirtual 29, 3)), (4, (.invokestatic 33, 3)), (7, (.istore_n 2, 1)), (8, (.iload_n 2, 1)), (9, (.iconst (-1), 1)), (10, (.if_icmp .eq 10, 3)), (13, (.aload_n 1, 1)), (14, (.invokevirtual 37, 3)), (17, (.ifCond .eq 12, 3)), (20, (.aload_n 0, 1)), (21, (.aload_n 0, 1)), (22, (.getfield 9, 3)), (25, (.invokevirtual 43, 3)), (28, (.return_, 1)), (29, (.aload_n 0, 1)), (30, (.dup, 1)), (31, (.getfield 9, 3)), (34, (.iconst 1, 1)), (35, (.iadd, 1)), (36, (.putfield 9, 3)), (39, (.iload_n 2, 1)), (40, (.iconst 2, 1)), (41, (.if_icmp .ne 10, 3)), (44, (.aload_n 0, 1)), (45, (.invokevirtual 47, 3)), (48, (.goto 4, 3)), (51, (.iconst (-1), 1)), (52, (.istore_n 3, 1)), (53, (.iload_n 2, 1)), (54, (.iconst 2, 1)), (55, (.if_icmp .ne 10, 3)), (58, (.aload_n 0, 1)), (59, (.invokevirtual 50, 3)), (62, (.ifCond .eq 10, 3)), (65, (.aload_n 0, 1)), (66, (.invokevirtual 53, 3)), (69, (.goto 5, 3)), (72, (.bipush 10, 2)), (74, (.istore 4, 2)), (76, (.aload_n 0, 1)), (77, (.invokevirtual 29, 3)), (80, (.bipush 59, 2)), (82, (.if_icmp .eq 11, 3)), (85, (.aload_n 0, 1)), (86, (.aload_n 0, 1)), (87, (.getfield 9, 3)), (90, (.invokevirtual 43, 3)), (93, (.aload_n 0, 1)), (94, (.getfield 15, 3)), (97, (.iconst (-1), 1)), (98, (.if_icmp .ne 25, 3)), (101, (.aload_n 0, 1)), (102, (.dup, 1)), (103, (.getfield 9, 3)), (106, (.iconst 1, 1)), (107, (.iadd, 1)), (108, (.putfield 9, 3)), (111, (.aload_n 1, 1)), (112, (.aload_n 1, 1))]
theorem hX2_readItem_0 : ∀ q ∈ tX2_readItem_0, decode cX2_readItem q.1 = .ok q.2 := by decide +kernel
def tX2_readItem_1 : List (Nat × (Instr × Nat)) := [(113, (.getfield 56, 3)), (116, (.iload_n 2, 1)), (117, (.iload 4, 2)), (119, (.iload_n 3, 1)), (120, (.invokevirtual 59, 3)), (123, (.return_, 1))]
theorem hX2_readItem_1 : ∀ q ∈ tX2_readItem_1, decode cX2_readItem q.1 = .ok q.2 := by decide +kernel
def tX2_kindOf_0 : List (Nat × (Instr × Nat)) := [(0, (.iload_n 0, 1)), (1, (.lookupswitch 61 #[(97, 53), (104, 51), (110, 55), (114, 59), (115, 57)], 51)), (52, (.iconst 0, 1)), (53, (.ireturn, 1)), (54, (.iconst 1, 1)), (55, (.ireturn, 1)), (56, (.iconst 2, 1)), (57, (.ireturn, 1)), (58, (.iconst 3, 1)), (59, (.ireturn, 1)), (60, (.iconst 4, 1)), (61, (.ireturn, 1)), (62, (.iconst (-1), 1)), (63, (.ireturn, 1))]
theorem hX2_kindOf_0 : ∀ q ∈ tX2_kindOf_0, decode cX2_kindOf q.1 = .ok q.2 := by decide +kernel
def tX2_readPerson_0 : List (Nat × (Instr × Nat)) := [(0, (.aload_n 0, 1)), (1, (.invokevirtual 29, 3)), (4, (.invokestatic 63, 3)), (7, (.ifCond .ne 13, 3)), (10, (.aload_n 0, 1)), (11, (.aload_n 0, 1)), (12, (.getfield 9, 3)), (15, (.invokevirtual 43, 3)), (18, (.iconst (-1), 1)), (19, (.ireturn, 1)), (20, (.aload_n 0, 1)), (21, (.invokevirtual 29, 3)), (24, (.bipush 48, 2)), (26, (.isub, 1)), (27, (.istore_n 1, 1)), (28, (.aload_n 0, 1)), (29, (.dup, 1)), (30, (.getfield 9, 3)), (33, (.iconst 1, 1)), (34, (.iadd, 1)), (35, (.putfield 9, 3)), (38, (.iload_n 1, 1)), (39, (.ireturn, 1))]
theorem hX2_readPerson_0 : ∀ q ∈ tX2_readPerson_0, decode cX2_readPerson q.1 = .ok q.2 := by decide +kernel
def tX2_readsComma_0 : List (Nat × (Instr × Nat)) := [(0, (.aload_n 0, 1)), (1, (.getfield 15, 3)), (4, (.iconst (-1), 1)), (5, (.if_icmp .ne 12, 3)), (8, (.aload_n 0, 1)), (9, (.invokevirtual 29, 3)), (12, (.bipush 44, 2)), (14, (.if_icmp .eq 5, 3)), (17, (.iconst 0, 1)), (18, (.ireturn, 1)), (19, (.aload_n 0, 1)), (20, (.dup, 1)), (21, (.getfield 9, 3)), (24, (.iconst 1, 1)), (25, (.iadd, 1)), (26, (.putfield 9, 3)), (29, (.iconst 1, 1)), (30, (.ireturn, 1))]
theorem hX2_readsComma_0 : ∀ q ∈ tX2_readsComma_0, decode cX2_readsComma q.1 = .ok q.2 := by decide +kernel
def tX2_readLength_0 : List (Nat × (Instr × Nat)) := [(0, (.aload_n 0, 1)), (1, (.getfield 9, 3)), (4, (.istore_n 1, 1)), (5, (.iconst 0, 1)), (6, (.istore_n 2, 1)), (7, (.iconst 0, 1)), (8, (.istore_n 3, 1)), (9, (.iload_n 3, 1)), (10, (.iconst 3, 1)), (11, (.if_icmp .ge 42, 3)), (14, (.aload_n 0, 1)), (15, (.invokevirtual 29, 3)), (18, (.invokestatic 63, 3)), (21, (.ifCond .eq 32, 3)), (24, (.iload_n 2, 1)), (25, (.bipush 10, 2)), (27, (.imul, 1)), (28, (.aload_n 0, 1)), (29, (.invokevirtual 29, 3)), (32, (.iadd, 1)), (33, (.bipush 48, 2)), (35, (.isub, 1)), (36, (.istore_n 2, 1)), (37, (.aload_n 0, 1)), (38, (.dup, 1)), (39, (.getfield 9, 3)), (42, (.iconst 1, 1)), (43, (.iadd, 1)), (44, (.putfield 9, 3)), (47, (.iinc 3 1, 3)), (50, (.goto (-41), 3)), (53, (.aload_n 0, 1)), (54, (.getfield 9, 3)), (57, (.iload_n 1, 1)), (58, (.if_icmp .eq 13, 3)), (61, (.aload_n 0, 1)), (62, (.invokevirtual 29, 3)), (65, (.invokestatic 63, 3)), (68, (.ifCond .eq 14, 3)), (71, (.aload_n 0, 1)), (72, (.aload_n 0, 1)), (73, (.getfield 9, 3)), (76, (.invokevirtual 43, 3)), (79, (.goto 15, 3)), (82, (.iload_n 2, 1)), (83, (.invokestatic 67, 3)), (86, (.ifCond .ne 8, 3)), (89, (.aload_n 0, 1)), (90, (.iload_n 1, 1)), (91, (.invokevirtual 43, 3)), (94, (.iload_n 2, 1)), (95, (.ireturn, 1))]
theorem hX2_readLength_0 : ∀ q ∈ tX2_readLength_0, decode cX2_readLength q.1 = .ok q.2 := by decide +kernel
def tX2_next_0 : List (Nat × (Instr × Nat)) := [(0, (.aload_n 0, 1)), (1, (.getfield 9, 3)), (4, (.aload_n 0, 1)), (5, (.getfield 22, 3)), (8, (.if_icmp .ge 17, 3)), (11, (.aload_n 0, 1)), (12, (.getfield 18, 3)), (15, (.aload_n 0, 1)), (16, (.getfield 9, 3)), (19, (.invokevirtual 70, 3)), (22, (.goto 4, 3)), (25, (.iconst (-1), 1)), (26, (.ireturn, 1))]
theorem hX2_next_0 : ∀ q ∈ tX2_next_0, decode cX2_next q.1 = .ok q.2 := by decide +kernel
def tX2_isDigit_0 : List (Nat × (Instr × Nat)) := [(0, (.iload_n 0, 1)), (1, (.bipush 48, 2)), (3, (.if_icmp .lt 13, 3)), (6, (.iload_n 0, 1)), (7, (.bipush 57, 2)), (9, (.if_icmp .gt 7, 3)), (12, (.iconst 1, 1)), (13, (.goto 4, 3)), (16, (.iconst 0, 1)), (17, (.ireturn, 1))]
theorem hX2_isDigit_0 : ∀ q ∈ tX2_isDigit_0, decode cX2_isDigit q.1 = .ok q.2 := by decide +kernel
def tX2_fail_0 : List (Nat × (Instr × Nat)) := [(0, (.aload_n 0, 1)), (1, (.getfield 15, 3)), (4, (.iconst (-1), 1)), (5, (.if_icmp .ne 8, 3)), (8, (.aload_n 0, 1)), (9, (.iload_n 1, 1)), (10, (.putfield 15, 3)), (13, (.return_, 1))]
theorem hX2_fail_0 : ∀ q ∈ tX2_fail_0, decode cX2_fail q.1 = .ok q.2 := by decide +kernel
def tX3_init_0 : List (Nat × (Instr × Nat)) := [(0, (.aload_n 0, 1)), (1, (.invokespecial 3, 3)), (4, (.aload_n 0, 1)), (5, (.iload_n 1, 1)), (6, (.ifCond .le 7, 3)), (9, (.iload_n 1, 1)), (10, (.goto 4, 3)), (13, (.iconst 0, 1)), (14, (.newarray .int, 2)), (16, (.putfield 9, 3)), (19, (.return_, 1))]
theorem hX3_init_0 : ∀ q ∈ tX3_init_0, decode cX3_init q.1 = .ok q.2 := by decide +kernel
def tX3_at_0 : List (Nat × (Instr × Nat)) := [(0, (.iload_n 1, 1)), (1, (.ifCond .lt 21, 3)), (4, (.iload_n 1, 1)), (5, (.aload_n 0, 1)), (6, (.getfield 9, 3)), (9, (.arraylength, 1)), (10, (.if_icmp .ge 12, 3)), (13, (.aload_n 0, 1)), (14, (.getfield 9, 3)), (17, (.iload_n 1, 1)), (18, (.iaload, 1)), (19, (.goto 4, 3)), (22, (.iconst (-1), 1)), (23, (.ireturn, 1))]
theorem hX3_at_0 : ∀ q ∈ tX3_at_0, decode cX3_at q.1 = .ok q.2 := by decide +kernel
def tX3_put_0 : List (Nat × (Instr × Nat)) := [(0, (.iload_n 1, 1)), (1, (.ifCond .lt 19, 3)), (4, (.iload_n 1, 1)), (5, (.aload_n 0, 1)), (6, (.getfield 9, 3)), (9, (.arraylength, 1)), (10, (.if_icmp .ge 10, 3)), (13, (.aload_n 0, 1)), (14, (.getfield 9, 3)), (17, (.iload_n 1, 1)), (18, (.iload_n 2, 1)), (19, (.iastore, 1)), (20, (.return_, 1))]
theorem hX3_put_0 : ∀ q ∈ tX3_put_0, decode cX3_put q.1 = .ok q.2 := by decide +kernel
def tX3_plus_0 : List (Nat × (Instr × Nat)) := [(0, (.iload_n 1, 1)), (1, (.ifCond .lt 22, 3)), (4, (.iload_n 1, 1)), (5, (.aload_n 0, 1)), (6, (.getfield 9, 3)), (9, (.arraylength, 1)), (10, (.if_icmp .ge 13, 3)), (13, (.aload_n 0, 1)), (14, (.getfield 9, 3)), (17, (.iload_n 1, 1)), (18, (.dup2, 1)), (19, (.iaload, 1)), (20, (.iload_n 2, 1)), (21, (.iadd, 1)), (22, (.iastore, 1)), (23, (.return_, 1))]
theorem hX3_plus_0 : ∀ q ∈ tX3_plus_0, decode cX3_plus q.1 = .ok q.2 := by decide +kernel
def tX3_openAt_0 : List (Nat × (Instr × Nat)) := [(0, (.iload_n 1, 1)), (1, (.ifCond .le 7, 3)), (4, (.iload_n 1, 1)), (5, (.goto 4, 3)), (8, (.iconst 0, 1)), (9, (.istore_n 3, 1)), (10, (.aload_n 0, 1)), (11, (.getfield 9, 3)), (14, (.arraylength, 1)), (15, (.iconst 1, 1)), (16, (.isub, 1)), (17, (.istore 4, 2)), (19, (.iload 4, 2)), (21, (.iload_n 3, 1)), (22, (.if_icmp .le 25, 3)), (25, (.aload_n 0, 1)), (26, (.getfield 9, 3)), (29, (.iload 4, 2)), (31, (.aload_n 0, 1)), (32, (.getfield 9, 3)), (35, (.iload 4, 2)), (37, (.iconst 1, 1)), (38, (.isub, 1)), (39, (.iaload, 1)), (40, (.iastore, 1)), (41, (.iinc 4 (-1), 3)), (44, (.goto (-25), 3)), (47, (.aload_n 0, 1)), (48, (.iload_n 1, 1)), (49, (.iload_n 2, 1)), (50, (.invokevirtual 15, 3)), (53, (.return_, 1))]
theorem hX3_openAt_0 : ∀ q ∈ tX3_openAt_0, decode cX3_openAt q.1 = .ok q.2 := by decide +kernel
def tX3_closeAt_0 : List (Nat × (Instr × Nat)) := [(0, (.iload_n 1, 1)), (1, (.ifCond .le 7, 3)), (4, (.iload_n 1, 1)), (5, (.goto 4, 3)), (8, (.iconst 0, 1)), (9, (.istore_n 2, 1)), (10, (.iload_n 2, 1)), (11, (.iconst 1, 1)), (12, (.iadd, 1)), (13, (.istore_n 3, 1)), (14, (.iload_n 3, 1)), (15, (.aload_n 0, 1)), (16, (.getfield 9, 3)), (19, (.arraylength, 1)), (20, (.if_icmp .ge 23, 3)), (23, (.aload_n 0, 1)), (24, (.getfield 9, 3)), (27, (.iload_n 3, 1)), (28, (.iconst 1, 1)), (29, (.isub, 1)), (30, (.aload_n 0, 1)), (31, (.getfield 9, 3)), (34, (.iload_n 3, 1)), (35, (.iaload, 1)), (36, (.iastore, 1)), (37, (.iinc 3 1, 3)), (40, (.goto (-26), 3)), (43, (.return_, 1))]
theorem hX3_closeAt_0 : ∀ q ∈ tX3_closeAt_0, decode cX3_closeAt q.1 = .ok q.2 := by decide +kernel
def tX3_copyFrom_0 : List (Nat × (Instr × Nat)) := [(0, (.iconst 0, 1)), (1, (.istore_n 2, 1)), (2, (.iload_n 2, 1)), (3, (.aload_n 0, 1)), (4, (.getfield 9, 3)), (7, (.arraylength, 1)), (8, (.if_icmp .ge 30, 3)), (11, (.iload_n 2, 1)), (12, (.aload_n 1, 1)), (13, (.getfield 9, 3)), (16, (.arraylength, 1)), (17, (.if_icmp .ge 21, 3)), (20, (.aload_n 0, 1)), (21, (.getfield 9, 3)), (24, (.iload_n 2, 1)), (25, (.aload_n 1, 1)), (26, (.getfield 9, 3)), (29, (.iload_n 2, 1)), (30, (.iaload, 1)), (31, (.iastore, 1)), (32, (.iinc 2 1, 3)), (35, (.goto (-33), 3)), (38, (.return_, 1))]
theorem hX3_copyFrom_0 : ∀ q ∈ tX3_copyFrom_0, decode cX3_copyFrom q.1 = .ok q.2 := by decide +kernel
def tX4_init_0 : List (Nat × (Instr × Nat)) := [(0, (.aload_n 0, 1)), (1, (.invokespecial 3, 3)), (4, (.aload_n 0, 1)), (5, (.iconst 0, 1)), (6, (.putfield 9, 3)), (9, (.aload_n 0, 1)), (10, (.iconst 0, 1)), (11, (.putfield 15, 3)), (14, (.aload_n 0, 1)), (15, (.iconst 0, 1)), (16, (.putfield 18, 3)), (19, (.aload_n 0, 1)), (20, (.new 21, 3)), (23, (.dup, 1)), (24, (.bipush 60, 2)), (26, (.invokespecial 23, 3)), (29, (.putfield 26, 3)), (32, (.aload_n 0, 1)), (33, (.new 21, 3)), (36, (.dup, 1)), (37, (.bipush 60, 2)), (39, (.invokespecial 23, 3)), (42, (.putfield 30, 3)), (45, (.aload_n 0, 1)), (46, (.new 21, 3)), (49, (.dup, 1)), (50, (.bipush 60, 2)), (52, (.invokespecial 23, 3)), (55, (.putfield 33, 3)), (58, (.aload_n 0, 1)), (59, (.new 21, 3)), (62, (.dup, 1)), (63, (.bipush 60, 2)), (65, (.invokespecial 23, 3)), (68, (.putfield 36, 3)), (71, (.aload_n 0, 1)), (72, (.new 21, 3)), (75, (.dup, 1)), (76, (.bipush 60, 2)), (78, (.invokespecial 23, 3)), (81, (.putfield 39, 3)), (84, (.aload_n 0, 1)), (85, (.new 21, 3)), (88, (.dup, 1)), (89, (.bipush 60, 2)), (91, (.invokespecial 23, 3)), (94, (.putfield 42, 3)), (97, (.aload_n 0, 1)), (98, (.new 21, 3)), (101, (.dup, 1)), (102, (.bipush 60, 2)), (104, (.invokespecial 23, 3)), (107, (.putfield 45, 3)), (110, (.aload_n 0, 1)), (111, (.new 21, 3)), (114, (.dup, 1)), (115, (.bipush 60, 2)), (117, (.invokespecial 23, 3)), (120, (.putfield 48, 3)), (123, (.aload_n 0, 1))]
theorem hX4_init_0 : ∀ q ∈ tX4_init_0, decode cX4_init q.1 = .ok q.2 := by decide +kernel
def tX4_init_1 : List (Nat × (Instr × Nat)) := [(124, (.new 21, 3)), (127, (.dup, 1)), (128, (.bipush 60, 2)), (130, (.invokespecial 23, 3)), (133, (.putfield 51, 3)), (136, (.return_, 1))]
theorem hX4_init_1 : ∀ q ∈ tX4_init_1, decode cX4_init q.1 = .ok q.2 := by decide +kernel
def tX4_has_0 : List (Nat × (Instr × Nat)) := [(0, (.iload_n 1, 1)), (1, (.aload_n 0, 1)), (2, (.getfield 9, 3)), (5, (.invokestatic 54, 3)), (8, (.ireturn, 1))]
theorem hX4_has_0 : ∀ q ∈ tX4_has_0, decode cX4_has q.1 = .ok q.2 := by decide +kernel
def tX4_survey_0 : List (Nat × (Instr × Nat)) := [(0, (.aload_n 0, 1)), (1, (.aload_n 1, 1)), (2, (.invokevirtual 58, 3)), (5, (.aload_n 0, 1)), (6, (.aload_n 1, 1)), (7, (.invokevirtual 62, 3)), (10, (.aload_n 0, 1)), (11, (.aload_n 1, 1)), (12, (.invokevirtual 65, 3)), (15, (.aload_n 0, 1)), (16, (.aload_n 1, 1)), (17, (.invokevirtual 68, 3)), (20, (.return_, 1))]
theorem hX4_survey_0 : ∀ q ∈ tX4_survey_0, decode cX4_survey q.1 = .ok q.2 := by decide +kernel
def tX4_gather_0 : List (Nat × (Instr × Nat)) := [(0, (.aload_n 0, 1)), (1, (.iconst 0, 1)), (2, (.putfield 9, 3)), (5, (.aload_n 0, 1)), (6, (.iconst 0, 1)), (7, (.putfield 15, 3)), (10, (.iconst 0, 1)), (11, (.istore_n 2, 1)), (12, (.iload_n 2, 1)), (13, (.aload_n 1, 1)), (14, (.getfield 71, 3)), (17, (.if_icmp .ge 130, 3)), (20, (.aload_n 1, 1)), (21, (.iload_n 2, 1)), (22, (.invokevirtual 76, 3)), (25, (.ifCond .eq 49, 3)), (28, (.aload_n 0, 1)), (29, (.getfield 26, 3)), (32, (.aload_n 0, 1)), (33, (.getfield 9, 3)), (36, (.iload_n 2, 1)), (37, (.invokevirtual 80, 3)), (40, (.aload_n 0, 1)), (41, (.getfield 30, 3)), (44, (.aload_n 0, 1)), (45, (.getfield 9, 3)), (48, (.iconst 0, 1)), (49, (.invokevirtual 80, 3)), (52, (.aload_n 0, 1)), (53, (.getfield 33, 3)), (56, (.aload_n 0, 1)), (57, (.getfield 9, 3)), (60, (.iconst 0, 1)), (61, (.invokevirtual 80, 3)), (64, (.aload_n 0, 1)), (65, (.dup, 1)), (66, (.getfield 9, 3)), (69, (.iconst 1, 1)), (70, (.iadd, 1)), (71, (.putfield 9, 3)), (74, (.aload_n 1, 1)), (75, (.iload_n 2, 1)), (76, (.invokevirtual 84, 3)), (79, (.ifCond .eq 13, 3)), (82, (.aload_n 0, 1)), (83, (.dup, 1)), (84, (.getfield 15, 3)), (87, (.iconst 1, 1)), (88, (.iadd, 1)), (89, (.putfield 15, 3)), (92, (.aload_n 0, 1)), (93, (.getfield 9, 3)), (96, (.ifCond .le 12, 3)), (99, (.aload_n 0, 1)), (100, (.getfield 9, 3)), (103, (.iconst 1, 1)), (104, (.isub, 1)), (105, (.goto 4, 3)), (108, (.iconst (-1), 1)), (109, (.istore_n 3, 1))]
theorem hX4_gather_0 : ∀ q ∈ tX4_gather_0, decode cX4_gather q.1 = .ok q.2 := by decide +kernel
def tX4_gather_1 : List (Nat × (Instr × Nat)) := [(110, (.aload_n 0, 1)), (111, (.getfield 48, 3)), (114, (.iload_n 2, 1)), (115, (.iload_n 3, 1)), (116, (.invokevirtual 80, 3)), (119, (.aload_n 0, 1)), (120, (.getfield 30, 3)), (123, (.iload_n 3, 1)), (124, (.iconst 1, 1)), (125, (.invokevirtual 87, 3)), (128, (.aload_n 0, 1)), (129, (.getfield 33, 3)), (132, (.iload_n 3, 1)), (133, (.aload_n 1, 1)), (134, (.iload_n 2, 1)), (135, (.invokevirtual 90, 3)), (138, (.invokevirtual 87, 3)), (141, (.iinc 2 1, 3)), (144, (.goto (-132), 3)), (147, (.return_, 1))]
theorem hX4_gather_1 : ∀ q ∈ tX4_gather_1, decode cX4_gather q.1 = .ok q.2 := by decide +kernel
def tX4_findCarriedNames_0 : List (Nat × (Instr × Nat)) := [(0, (.aload_n 0, 1)), (1, (.iconst 0, 1)), (2, (.putfield 18, 3)), (5, (.iconst (-1), 1)), (6, (.istore_n 2, 1)), (7, (.iconst 0, 1)), (8, (.istore_n 3, 1)), (9, (.iload_n 3, 1)), (10, (.aload_n 1, 1)), (11, (.getfield 71, 3)), (14, (.if_icmp .ge 105, 3)), (17, (.aload_n 1, 1)), (18, (.getfield 94, 3)), (21, (.iload_n 3, 1)), (22, (.invokevirtual 97, 3)), (25, (.istore 4, 2)), (27, (.iload 4, 2)), (29, (.iconst (-1), 1)), (30, (.if_icmp .eq 25, 3)), (33, (.iload 4, 2)), (35, (.iload_n 2, 1)), (36, (.if_icmp .ne 19, 3)), (39, (.aload_n 0, 1)), (40, (.getfield 48, 3)), (43, (.iload_n 3, 1)), (44, (.invokevirtual 97, 3)), (47, (.iconst (-1), 1)), (48, (.if_icmp .eq 7, 3)), (51, (.iconst 1, 1)), (52, (.goto 4, 3)), (55, (.iconst 0, 1)), (56, (.istore 5, 2)), (58, (.aload_n 0, 1)), (59, (.getfield 51, 3)), (62, (.iload_n 3, 1)), (63, (.iload 5, 2)), (65, (.ifCond .eq 7, 3)), (68, (.iconst 1, 1)), (69, (.goto 4, 3)), (72, (.iconst 0, 1)), (73, (.invokevirtual 80, 3)), (76, (.iload 5, 2)), (78, (.ifCond .eq 13, 3)), (81, (.aload_n 0, 1)), (82, (.dup, 1)), (83, (.getfield 18, 3)), (86, (.iconst 1, 1)), (87, (.iadd, 1)), (88, (.putfield 18, 3)), (91, (.aload_n 1, 1)), (92, (.iload_n 3, 1)), (93, (.invokevirtual 76, 3)), (96, (.ifCond .eq 8, 3)), (99, (.iconst (-1), 1)), (100, (.istore_n 2, 1)), (101, (.goto 12, 3)), (104, (.iload 4, 2)), (106, (.iconst (-1), 1)), (107, (.if_icmp .eq 6, 3)), (110, (.iload 4, 2))]
theorem hX4_findCarriedNames_0 : ∀ q ∈ tX4_findCarriedNames_0, decode cX4_findCarriedNames q.1 = .ok q.2 := by decide +kernel
def tX4_findCarriedNames_1 : List (Nat × (Instr × Nat)) := [(112, (.istore_n 2, 1)), (113, (.iinc 3 1, 3)), (116, (.goto (-107), 3)), (119, (.return_, 1))]
theorem hX4_findCarriedNames_1 : ∀ q ∈ tX4_findCarriedNames_1, decode cX4_findCarriedNames q.1 = .ok q.2 := by decide +kernel
def tX4_findLimits_0 : List (Nat × (Instr × Nat)) := [(0, (.iconst (-1), 1)), (1, (.istore_n 2, 1)), (2, (.aload_n 0, 1)), (3, (.getfield 9, 3)), (6, (.iconst 1, 1)), (7, (.isub, 1)), (8, (.istore_n 3, 1)), (9, (.iload_n 3, 1)), (10, (.ifCond .lt 47, 3)), (13, (.aload_n 0, 1)), (14, (.getfield 45, 3)), (17, (.iload_n 3, 1)), (18, (.iload_n 2, 1)), (19, (.invokevirtual 80, 3)), (22, (.aload_n 0, 1)), (23, (.getfield 26, 3)), (26, (.iload_n 3, 1)), (27, (.invokevirtual 97, 3)), (30, (.istore 4, 2)), (32, (.aload_n 1, 1)), (33, (.iload 4, 2)), (35, (.invokevirtual 84, 3)), (38, (.ifCond .eq 13, 3)), (41, (.aload_n 1, 1)), (42, (.getfield 100, 3)), (45, (.iload 4, 2)), (47, (.invokevirtual 97, 3)), (50, (.istore_n 2, 1)), (51, (.iinc 3 (-1), 3)), (54, (.goto (-45), 3)), (57, (.return_, 1))]
theorem hX4_findLimits_0 : ∀ q ∈ tX4_findLimits_0, decode cX4_findLimits q.1 = .ok q.2 := by decide +kernel
def tX4_label_0 : List (Nat × (Instr × Nat)) := [(0, (.iconst 0, 1)), (1, (.istore_n 2, 1)), (2, (.iconst 0, 1)), (3, (.istore_n 3, 1)), (4, (.iconst 0, 1)), (5, (.istore 4, 2)), (7, (.iconst 0, 1)), (8, (.istore 5, 2)), (10, (.iconst 0, 1)), (11, (.istore 6, 2)), (13, (.iload 6, 2)), (15, (.aload_n 0, 1)), (16, (.getfield 9, 3)), (19, (.if_icmp .ge 91, 3)), (22, (.aload_n 0, 1)), (23, (.getfield 26, 3)), (26, (.iload 6, 2)), (28, (.invokevirtual 97, 3)), (31, (.istore 7, 2)), (33, (.aload_n 1, 1)), (34, (.iload 7, 2)), (36, (.invokevirtual 84, 3)), (39, (.ifCond .eq 50, 3)), (42, (.aload_n 1, 1)), (43, (.getfield 100, 3)), (46, (.iload 7, 2)), (48, (.invokevirtual 97, 3)), (51, (.istore_n 2, 1)), (52, (.aload_n 1, 1)), (53, (.getfield 101, 3)), (56, (.iload 7, 2)), (58, (.invokevirtual 97, 3)), (61, (.istore_n 3, 1)), (62, (.aload_n 1, 1)), (63, (.getfield 102, 3)), (66, (.iload 7, 2)), (68, (.invokevirtual 97, 3)), (71, (.istore 4, 2)), (73, (.iconst 0, 1)), (74, (.istore 5, 2)), (76, (.aload_n 0, 1)), (77, (.iload 6, 2)), (79, (.iload_n 2, 1)), (80, (.iload_n 3, 1)), (81, (.iload 4, 2)), (83, (.invokevirtual 103, 3)), (86, (.goto 18, 3)), (89, (.iinc 5 1, 3)), (92, (.aload_n 0, 1)), (93, (.iload 6, 2)), (95, (.iload_n 2, 1)), (96, (.iload_n 3, 1)), (97, (.iload 4, 2)), (99, (.iload 5, 2)), (101, (.invokevirtual 107, 3)), (104, (.iinc 6 1, 3)), (107, (.goto (-94), 3)), (110, (.return_, 1))]
theorem hX4_label_0 : ∀ q ∈ tX4_label_0, decode cX4_label q.1 = .ok q.2 := by decide +kernel
def tX4_labelOpen_0 : List (Nat × (Instr × Nat)) := [(0, (.aload_n 0, 1)), (1, (.getfield 15, 3)), (4, (.ifCond .ne 15, 3)), (7, (.aload_n 0, 1)), (8, (.iload_n 1, 1)), (9, (.iload 5, 2)), (11, (.iconst 0, 1)), (12, (.iconst 0, 1)), (13, (.invokevirtual 103, 3)), (16, (.goto 41, 3)), (19, (.aload_n 0, 1)), (20, (.getfield 45, 3)), (23, (.iload_n 1, 1)), (24, (.invokevirtual 97, 3)), (27, (.iload_n 2, 1)), (28, (.if_icmp .ne 18, 3)), (31, (.aload_n 0, 1)), (32, (.iload_n 1, 1)), (33, (.iload_n 2, 1)), (34, (.iload_n 3, 1)), (35, (.iload 4, 2)), (37, (.iload 5, 2)), (39, (.iadd, 1)), (40, (.invokevirtual 103, 3)), (43, (.goto 14, 3)), (46, (.aload_n 0, 1)), (47, (.iload_n 1, 1)), (48, (.iload_n 2, 1)), (49, (.iload_n 3, 1)), (50, (.iload 5, 2)), (52, (.iadd, 1)), (53, (.iconst 0, 1)), (54, (.invokevirtual 103, 3)), (57, (.return_, 1))]
theorem hX4_labelOpen_0 : ∀ q ∈ tX4_labelOpen_0, decode cX4_labelOpen q.1 = .ok q.2 := by decide +kernel
def tX4_putLabel_0 : List (Nat × (Instr × Nat)) := [(0, (.aload_n 0, 1)), (1, (.getfield 36, 3)), (4, (.iload_n 1, 1)), (5, (.iload_n 2, 1)), (6, (.invokevirtual 80, 3)), (9, (.aload_n 0, 1)), (10, (.getfield 39, 3)), (13, (.iload_n 1, 1)), (14, (.iload_n 3, 1)), (15, (.invokevirtual 80, 3)), (18, (.aload_n 0, 1)), (19, (.getfield 42, 3)), (22, (.iload_n 1, 1)), (23, (.iload 4, 2)), (25, (.invokevirtual 80, 3)), (28, (.return_, 1))]
theorem hX4_putLabel_0 : ∀ q ∈ tX4_putLabel_0, decode cX4_putLabel q.1 = .ok q.2 := by decide +kernel
def tX4_hasTwins_0 : List (Nat × (Instr × Nat)) := [(0, (.iconst 0, 1)), (1, (.istore_n 1, 1)), (2, (.iload_n 1, 1)), (3, (.aload_n 0, 1)), (4, (.getfield 9, 3)), (7, (.if_icmp .ge 33, 3)), (10, (.iconst 0, 1)), (11, (.istore_n 2, 1)), (12, (.iload_n 2, 1)), (13, (.iload_n 1, 1)), (14, (.if_icmp .ge 20, 3)), (17, (.aload_n 0, 1)), (18, (.iload_n 1, 1)), (19, (.iload_n 2, 1)), (20, (.invokevirtual 111, 3)), (23, (.ifCond .eq 5, 3)), (26, (.iconst 1, 1)), (27, (.ireturn, 1)), (28, (.iinc 2 1, 3)), (31, (.goto (-19), 3)), (34, (.iinc 1 1, 3)), (37, (.goto (-35), 3)), (40, (.iconst 0, 1)), (41, (.ireturn, 1))]
theorem hX4_hasTwins_0 : ∀ q ∈ tX4_hasTwins_0, decode cX4_hasTwins q.1 = .ok q.2 := by decide +kernel
def tX4_areTwins_0 : List (Nat × (Instr × Nat)) := [(0, (.aload_n 0, 1)), (1, (.getfield 36, 3)), (4, (.iload_n 1, 1)), (5, (.invokevirtual 97, 3)), (8, (.aload_n 0, 1)), (9, (.getfield 36, 3)), (12, (.iload_n 2, 1)), (13, (.invokevirtual 97, 3)), (16, (.if_icmp .ne 45, 3)), (19, (.aload_n 0, 1)), (20, (.getfield 39, 3)), (23, (.iload_n 1, 1)), (24, (.invokevirtual 97, 3)), (27, (.aload_n 0, 1)), (28, (.getfield 39, 3)), (31, (.iload_n 2, 1)), (32, (.invokevirtual 97, 3)), (35, (.if_icmp .ne 26, 3)), (38, (.aload_n 0, 1)), (39, (.getfield 42, 3)), (42, (.iload_n 1, 1)), (43, (.invokevirtual 97, 3)), (46, (.aload_n 0, 1)), (47, (.getfield 42, 3)), (50, (.iload_n 2, 1)), (51, (.invokevirtual 97, 3)), (54, (.if_icmp .ne 7, 3)), (57, (.iconst 1, 1)), (58, (.goto 4, 3)), (61, (.iconst 0, 1)), (62, (.ireturn, 1))]
theorem hX4_areTwins_0 : ∀ q ∈ tX4_areTwins_0, decode cX4_areTwins q.1 = .ok q.2 := by decide +kernel
def tX5_init_0 : List (Nat × (Instr × Nat)) := [(0, (.aload_n 0, 1)), (1, (.invokespecial 3, 3)), (4, (.aload_n 0, 1)), (5, (.iconst 0, 1)), (6, (.putfield 9, 3)), (9, (.aload_n 0, 1)), (10, (.bipush 50, 2)), (12, (.putfield 15, 3)), (15, (.aload_n 0, 1)), (16, (.new 18, 3)), (19, (.dup, 1)), (20, (.bipush 60, 2)), (22, (.invokespecial 20, 3)), (25, (.putfield 23, 3)), (28, (.aload_n 0, 1)), (29, (.new 18, 3)), (32, (.dup, 1)), (33, (.bipush 60, 2)), (35, (.invokespecial 20, 3)), (38, (.putfield 27, 3)), (41, (.aload_n 0, 1)), (42, (.new 18, 3)), (45, (.dup, 1)), (46, (.bipush 60, 2)), (48, (.invokespecial 20, 3)), (51, (.putfield 30, 3)), (54, (.aload_n 0, 1)), (55, (.new 18, 3)), (58, (.dup, 1)), (59, (.bipush 60, 2)), (61, (.invokespecial 20, 3)), (64, (.putfield 33, 3)), (67, (.aload_n 0, 1)), (68, (.new 18, 3)), (71, (.dup, 1)), (72, (.bipush 60, 2)), (74, (.invokespecial 20, 3)), (77, (.putfield 36, 3)), (80, (.aload_n 0, 1)), (81, (.new 18, 3)), (84, (.dup, 1)), (85, (.bipush 60, 2)), (87, (.invokespecial 20, 3)), (90, (.putfield 39, 3)), (93, (.aload_n 0, 1)), (94, (.new 18, 3)), (97, (.dup, 1)), (98, (.bipush 60, 2)), (100, (.invokespecial 20, 3)), (103, (.putfield 42, 3)), (106, (.aload_n 0, 1)), (107, (.new 18, 3)), (110, (.dup, 1)), (111, (.bipush 60, 2)), (113, (.invokespecial 20, 3)), (116, (.putfield 45, 3)), (119, (.return_, 1))]
theorem hX5_init_0 : ∀ q ∈ tX5_init_0, decode cX5_init q.1 = .ok q.2 := by decide +kernel
def tX5_has_0 : List (Nat × (Instr × Nat)) := [(0, (.iload_n 1, 1)), (1, (.aload_n 0, 1)), (2, (.getfield 9, 3)), (5, (.invokestatic 48, 3)), (8, (.ireturn, 1))]
theorem hX5_has_0 : ∀ q ∈ tX5_has_0, decode cX5_has q.1 = .ok q.2 := by decide +kernel
def tX5_isFull_0 : List (Nat × (Instr × Nat)) := [(0, (.aload_n 0, 1)), (1, (.getfield 9, 3)), (4, (.bipush 60, 2)), (6, (.if_icmp .lt 7, 3)), (9, (.iconst 1, 1)), (10, (.goto 4, 3)), (13, (.iconst 0, 1)), (14, (.ireturn, 1))]
theorem hX5_isFull_0 : ∀ q ∈ tX5_isFull_0, decode cX5_isFull q.1 = .ok q.2 := by decide +kernel
def tX5_isHeading_0 : List (Nat × (Instr × Nat)) := [(0, (.aload_n 0, 1)), (1, (.getfield 23, 3)), (4, (.iload_n 1, 1)), (5, (.invokevirtual 52, 3)), (8, (.ifCond .ne 7, 3)), (11, (.iconst 1, 1)), (12, (.goto 4, 3)), (15, (.iconst 0, 1)), (16, (.ireturn, 1))]
theorem hX5_isHeading_0 : ∀ q ∈ tX5_isHeading_0, decode cX5_isHeading q.1 = .ok q.2 := by decide +kernel
def tX5_isLocked_0 : List (Nat × (Instr × Nat)) := [(0, (.aload_n 0, 1)), (1, (.getfield 36, 3)), (4, (.iload_n 1, 1)), (5, (.invokevirtual 52, 3)), (8, (.iconst 1, 1)), (9, (.if_icmp .lt 7, 3)), (12, (.iconst 1, 1)), (13, (.goto 4, 3)), (16, (.iconst 0, 1)), (17, (.ireturn, 1))]
theorem hX5_isLocked_0 : ∀ q ∈ tX5_isLocked_0, decode cX5_isLocked q.1 = .ok q.2 := by decide +kernel
def tX5_isOmitted_0 : List (Nat × (Instr × Nat)) := [(0, (.aload_n 0, 1)), (1, (.getfield 36, 3)), (4, (.iload_n 1, 1)), (5, (.invokevirtual 52, 3)), (8, (.iconst 2, 1)), (9, (.if_icmp .ne 7, 3)), (12, (.iconst 1, 1)), (13, (.goto 4, 3)), (16, (.iconst 0, 1)), (17, (.ireturn, 1))]
theorem hX5_isOmitted_0 : ∀ q ∈ tX5_isOmitted_0, decode cX5_isOmitted q.1 = .ok q.2 := by decide +kernel
def tX5_linesOf_0 : List (Nat × (Instr × Nat)) := [(0, (.aload_n 0, 1)), (1, (.getfield 23, 3)), (4, (.iload_n 1, 1)), (5, (.invokevirtual 52, 3)), (8, (.istore_n 2, 1)), (9, (.iload_n 2, 1)), (10, (.iconst 2, 1)), (11, (.if_icmp .eq 11, 3)), (14, (.aload_n 0, 1)), (15, (.iload_n 1, 1)), (16, (.invokevirtual 56, 3)), (19, (.ifCond .eq 5, 3)), (22, (.iconst 1, 1)), (23, (.ireturn, 1)), (24, (.aload_n 0, 1)), (25, (.getfield 27, 3)), (28, (.iload_n 1, 1)), (29, (.invokevirtual 52, 3)), (32, (.istore_n 3, 1)), (33, (.iload_n 2, 1)), (34, (.lookupswitch 42 #[(3, 26), (4, 34)], 26)), (60, (.iload_n 3, 1)), (61, (.bipush 34, 2)), (63, (.iadd, 1)), (64, (.bipush 35, 2)), (66, (.idiv, 1)), (67, (.ireturn, 1)), (68, (.iload_n 3, 1)), (69, (.bipush 24, 2)), (71, (.iadd, 1)), (72, (.bipush 25, 2)), (74, (.idiv, 1)), (75, (.ireturn, 1)), (76, (.iload_n 3, 1)), (77, (.bipush 59, 2)), (79, (.iadd, 1)), (80, (.bipush 60, 2)), (82, (.idiv, 1)), (83, (.ireturn, 1))]
theorem hX5_linesOf_0 : ∀ q ∈ tX5_linesOf_0, decode cX5_linesOf q.1 = .ok q.2 := by decide +kernel
def tX5_blanksAhead_0 : List (Nat × (Instr × Nat)) := [(0, (.aload_n 0, 1)), (1, (.getfield 23, 3)), (4, (.iload_n 1, 1)), (5, (.invokevirtual 52, 3)), (8, (.tableswitch 32 0 2 #[28, 30, 30], 28)), (36, (.iconst 2, 1)), (37, (.ireturn, 1)), (38, (.iconst 1, 1)), (39, (.ireturn, 1)), (40, (.iconst 0, 1)), (41, (.ireturn, 1))]
theorem hX5_blanksAhead_0 : ∀ q ∈ tX5_blanksAhead_0, decode cX5_blanksAhead q.1 = .ok q.2 := by decide +kernel
def tX5_clear_0 : List (Nat × (Instr × Nat)) := [(0, (.aload_n 0, 1)), (1, (.iconst 0, 1)), (2, (.putfield 9, 3)), (5, (.return_, 1))]
theorem hX5_clear_0 : ∀ q ∈ tX5_clear_0, decode cX5_clear q.1 = .ok q.2 := by decide +kernel
def tX5_putIn_0 : List (Nat × (Instr × Nat)) := [(0, (.aload_n 0, 1)), (1, (.invokevirtual 60, 3)), (4, (.ifCond .eq 4, 3)), (7, (.return_, 1)), (8, (.aload_n 0, 1)), (9, (.getfield 23, 3)), (12, (.iload_n 1, 1)), (13, (.iload_n 2, 1)), (14, (.invokevirtual 64, 3)), (17, (.aload_n 0, 1)), (18, (.getfield 27, 3)), (21, (.iload_n 1, 1)), (22, (.iload_n 3, 1)), (23, (.invokevirtual 64, 3)), (26, (.aload_n 0, 1)), (27, (.getfield 30, 3)), (30, (.iload_n 1, 1)), (31, (.iload 4, 2)), (33, (.invokevirtual 64, 3)), (36, (.aload_n 0, 1)), (37, (.getfield 33, 3)), (40, (.iload_n 1, 1)), (41, (.iconst (-1), 1)), (42, (.invokevirtual 64, 3)), (45, (.aload_n 0, 1)), (46, (.getfield 36, 3)), (49, (.iload_n 1, 1)), (50, (.iconst 0, 1)), (51, (.invokevirtual 64, 3)), (54, (.aload_n 0, 1)), (55, (.getfield 39, 3)), (58, (.iload_n 1, 1)), (59, (.iconst 0, 1)), (60, (.invokevirtual 64, 3)), (63, (.aload_n 0, 1)), (64, (.getfield 42, 3)), (67, (.iload_n 1, 1)), (68, (.iconst 0, 1)), (69, (.invokevirtual 64, 3)), (72, (.aload_n 0, 1)), (73, (.getfield 45, 3)), (76, (.iload_n 1, 1)), (77, (.iconst 0, 1)), (78, (.invokevirtual 64, 3)), (81, (.aload_n 0, 1)), (82, (.dup, 1)), (83, (.getfield 9, 3)), (86, (.iconst 1, 1)), (87, (.iadd, 1)), (88, (.putfield 9, 3)), (91, (.return_, 1))]
theorem hX5_putIn_0 : ∀ q ∈ tX5_putIn_0, decode cX5_putIn q.1 = .ok q.2 := by decide +kernel
def tX5_takeOut_0 : List (Nat × (Instr × Nat)) := [(0, (.aload_n 0, 1)), (1, (.iload_n 1, 1)), (2, (.invokevirtual 68, 3)), (5, (.ifCond .ne 4, 3)), (8, (.return_, 1)), (9, (.aload_n 0, 1)), (10, (.getfield 33, 3)), (13, (.iload_n 1, 1)), (14, (.invokevirtual 52, 3)), (17, (.istore_n 2, 1)), (18, (.aload_n 0, 1)), (19, (.getfield 23, 3)), (22, (.iload_n 1, 1)), (23, (.invokevirtual 71, 3)), (26, (.aload_n 0, 1)), (27, (.getfield 27, 3)), (30, (.iload_n 1, 1)), (31, (.invokevirtual 71, 3)), (34, (.aload_n 0, 1)), (35, (.getfield 30, 3)), (38, (.iload_n 1, 1)), (39, (.invokevirtual 71, 3)), (42, (.aload_n 0, 1)), (43, (.getfield 33, 3)), (46, (.iload_n 1, 1)), (47, (.invokevirtual 71, 3)), (50, (.aload_n 0, 1)), (51, (.getfield 36, 3)), (54, (.iload_n 1, 1)), (55, (.invokevirtual 71, 3)), (58, (.aload_n 0, 1)), (59, (.getfield 39, 3)), (62, (.iload_n 1, 1)), (63, (.invokevirtual 71, 3)), (66, (.aload_n 0, 1)), (67, (.getfield 42, 3)), (70, (.iload_n 1, 1)), (71, (.invokevirtual 71, 3)), (74, (.aload_n 0, 1)), (75, (.getfield 45, 3)), (78, (.iload_n 1, 1)), (79, (.invokevirtual 71, 3)), (82, (.aload_n 0, 1)), (83, (.dup, 1)), (84, (.getfield 9, 3)), (87, (.iconst 1, 1)), (88, (.isub, 1)), (89, (.putfield 9, 3)), (92, (.aload_n 0, 1)), (93, (.iload_n 1, 1)), (94, (.invokevirtual 68, 3)), (97, (.ifCond .eq 24, 3)), (100, (.aload_n 0, 1)), (101, (.getfield 33, 3)), (104, (.iload_n 1, 1)), (105, (.invokevirtual 52, 3)), (108, (.iconst (-1), 1)), (109, (.if_icmp .ne 12, 3)), (112, (.aload_n 0, 1)), (113, (.getfield 33, 3))]
theorem hX5_takeOut_0 : ∀ q ∈ tX5_takeOut_0, decode cX5_takeOut q.1 = .ok q.2 := by decide +kernel
def tX5_takeOut_1 : List (Nat × (Instr × Nat)) := [(116, (.iload_n 1, 1)), (117, (.iload_n 2, 1)), (118, (.invokevirtual 74, 3)), (121, (.return_, 1))]
theorem hX5_takeOut_1 : ∀ q ∈ tX5_takeOut_1, decode cX5_takeOut q.1 = .ok q.2 := by decide +kernel
def tX5_lock_0 : List (Nat × (Instr × Nat)) := [(0, (.aload_n 0, 1)), (1, (.getfield 36, 3)), (4, (.iload_n 1, 1)), (5, (.iconst 1, 1)), (6, (.invokevirtual 74, 3)), (9, (.aload_n 0, 1)), (10, (.getfield 39, 3)), (13, (.iload_n 1, 1)), (14, (.iload_n 2, 1)), (15, (.invokevirtual 74, 3)), (18, (.aload_n 0, 1)), (19, (.getfield 42, 3)), (22, (.iload_n 1, 1)), (23, (.iload_n 3, 1)), (24, (.invokevirtual 74, 3)), (27, (.aload_n 0, 1)), (28, (.getfield 45, 3)), (31, (.iload_n 1, 1)), (32, (.iload 4, 2)), (34, (.invokevirtual 74, 3)), (37, (.return_, 1))]
theorem hX5_lock_0 : ∀ q ∈ tX5_lock_0, decode cX5_lock q.1 = .ok q.2 := by decide +kernel
def tX5_markOmitted_0 : List (Nat × (Instr × Nat)) := [(0, (.aload_n 0, 1)), (1, (.getfield 36, 3)), (4, (.iload_n 1, 1)), (5, (.iconst 2, 1)), (6, (.invokevirtual 74, 3)), (9, (.return_, 1))]
theorem hX5_markOmitted_0 : ∀ q ∈ tX5_markOmitted_0, decode cX5_markOmitted q.1 = .ok q.2 := by decide +kernel
def tX5_copyFrom_0 : List (Nat × (Instr × Nat)) := [(0, (.aload_n 0, 1)), (1, (.aload_n 1, 1)), (2, (.getfield 9, 3)), (5, (.putfield 9, 3)), (8, (.aload_n 0, 1)), (9, (.aload_n 1, 1)), (10, (.getfield 15, 3)), (13, (.putfield 15, 3)), (16, (.aload_n 0, 1)), (17, (.getfield 23, 3)), (20, (.aload_n 1, 1)), (21, (.getfield 23, 3)), (24, (.invokevirtual 77, 3)), (27, (.aload_n 0, 1)), (28, (.getfield 27, 3)), (31, (.aload_n 1, 1)), (32, (.getfield 27, 3)), (35, (.invokevirtual 77, 3)), (38, (.aload_n 0, 1)), (39, (.getfield 30, 3)), (42, (.aload_n 1, 1)), (43, (.getfield 30, 3)), (46, (.invokevirtual 77, 3)), (49, (.aload_n 0, 1)), (50, (.getfield 33, 3)), (53, (.aload_n 1, 1)), (54, (.getfield 33, 3)), (57, (.invokevirtual 77, 3)), (60, (.aload_n 0, 1)), (61, (.getfield 36, 3)), (64, (.aload_n 1, 1)), (65, (.getfield 36, 3)), (68, (.invokevirtual 77, 3)), (71, (.aload_n 0, 1)), (72, (.getfield 39, 3)), (75, (.aload_n 1, 1)), (76, (.getfield 39, 3)), (79, (.invokevirtual 77, 3)), (82, (.aload_n 0, 1)), (83, (.getfield 42, 3)), (86, (.aload_n 1, 1)), (87, (.getfield 42, 3)), (90, (.invokevirtual 77, 3)), (93, (.aload_n 0, 1)), (94, (.getfield 45, 3)), (97, (.aload_n 1, 1)), (98, (.getfield 45, 3)), (101, (.invokevirtual 77, 3)), (104, (.return_, 1))]
theorem hX5_copyFrom_0 : ∀ q ∈ tX5_copyFrom_0, decode cX5_copyFrom q.1 = .ok q.2 := by decide +kernel
end
section
def tX6_init_0 : List (Nat × (Instr × Nat)) := [(0, (.aload_n 0, 1)), (1, (.invokespecial 3, 3)), (4, (.aload_n 0, 1)), (5, (.new 9, 3)), (8, (.dup, 1)), (9, (.invokespecial 11, 3)), (12, (.putfield 12, 3)), (15, (.aload_n 0, 1)), (16, (.new 9, 3)), (19, (.dup, 1)), (20, (.invokespecial 11, 3)), (23, (.putfield 16, 3)), (26, (.aload_n 0, 1)), (27, (.new 19, 3)), (30, (.dup, 1)), (31, (.invokespecial 21, 3)), (34, (.putfield 22, 3)), (37, (.aload_n 0, 1)), (38, (.new 19, 3)), (41, (.dup, 1)), (42, (.invokespecial 21, 3)), (45, (.putfield 26, 3)), (48, (.aload_n 0, 1)), (49, (.new 29, 3)), (52, (.dup, 1)), (53, (.invokespecial 31, 3)), (56, (.putfield 32, 3)), (59, (.aload_n 0, 1)), (60, (.new 29, 3)), (63, (.dup, 1)), (64, (.invokespecial 31, 3)), (67, (.putfield 36, 3)), (70, (.aload_n 0, 1)), (71, (.new 39, 3)), (74, (.dup, 1)), (75, (.invokespecial 41, 3)), (78, (.putfield 42, 3)), (81, (.aload_n 0, 1)), (82, (.new 46, 3)), (85, (.dup, 1)), (86, (.sipush 200, 3)), (89, (.invokespecial 48, 3)), (92, (.putfield 51, 3)), (95, (.aload_n 0, 1)), (96, (.iconst 0, 1)), (97, (.putfield 55, 3)), (100, (.return_, 1))]
theorem hX6_init_0 : ∀ q ∈ tX6_init_0, decode cX6_init q.1 = .ok q.2 := by decide +kernel
def tX6_insert_0 : List (Nat × (Instr × Nat)) := [(0, (.iload_n 1, 1)), (1, (.ifCond .lt 14, 3)), (4, (.iload_n 1, 1)), (5, (.aload_n 0, 1)), (6, (.getfield 12, 3)), (9, (.getfield 59, 3)), (12, (.if_icmp .le 13, 3)), (15, (.new 62, 3)), (18, (.dup, 1)), (19, (.ldc 64, 2)), (21, (.invokespecial 66, 3)), (24, (.athrow, 1)), (25, (.iload_n 2, 1)), (26, (.invokestatic 69, 3)), (29, (.ifCond .eq 19, 3)), (32, (.iload_n 3, 1)), (33, (.invokestatic 73, 3)), (36, (.ifCond .eq 12, 3)), (39, (.iload_n 2, 1)), (40, (.iload 4, 2)), (42, (.invokestatic 76, 3)), (45, (.ifCond .ne 13, 3)), (48, (.new 80, 3)), (51, (.dup, 1)), (52, (.ldc 82, 2)), (54, (.invokespecial 84, 3)), (57, (.athrow, 1)), (58, (.aload_n 0, 1)), (59, (.getfield 12, 3)), (62, (.invokevirtual 85, 3)), (65, (.ifCond .eq 13, 3)), (68, (.new 89, 3)), (71, (.dup, 1)), (72, (.ldc 91, 2)), (74, (.invokespecial 93, 3)), (77, (.athrow, 1)), (78, (.aload_n 0, 1)), (79, (.getfield 16, 3)), (82, (.aload_n 0, 1)), (83, (.getfield 12, 3)), (86, (.invokevirtual 94, 3)), (89, (.aload_n 0, 1)), (90, (.getfield 16, 3)), (93, (.iload_n 1, 1)), (94, (.iload_n 2, 1)), (95, (.iload_n 3, 1)), (96, (.iload 4, 2)), (98, (.invokevirtual 98, 3)), (101, (.iload_n 2, 1)), (102, (.ifCond .ne 20, 3)), (105, (.aload_n 0, 1)), (106, (.invokevirtual 102, 3)), (109, (.ifCond .eq 13, 3)), (112, (.new 89, 3)), (115, (.dup, 1)), (116, (.ldc 105, 2)), (118, (.invokespecial 93, 3)), (121, (.athrow, 1)), (122, (.aload_n 0, 1)), (123, (.invokevirtual 107, 3))]
theorem hX6_insert_0 : ∀ q ∈ tX6_insert_0, decode cX6_insert q.1 = .ok q.2 := by decide +kernel
def tX6_insert_1 : List (Nat × (Instr × Nat)) := [(126, (.aload_n 0, 1)), (127, (.getfield 12, 3)), (130, (.getfield 59, 3)), (133, (.ireturn, 1))]
theorem hX6_insert_1 : ∀ q ∈ tX6_insert_1, decode cX6_insert q.1 = .ok q.2 := by decide +kernel
def tX6_remove_0 : List (Nat × (Instr × Nat)) := [(0, (.aload_n 0, 1)), (1, (.getfield 12, 3)), (4, (.iload_n 1, 1)), (5, (.invokevirtual 110, 3)), (8, (.ifCond .ne 13, 3)), (11, (.new 62, 3)), (14, (.dup, 1)), (15, (.ldc 113, 2)), (17, (.invokespecial 66, 3)), (20, (.athrow, 1)), (21, (.aload_n 0, 1)), (22, (.getfield 12, 3)), (25, (.iload_n 1, 1)), (26, (.invokevirtual 115, 3)), (29, (.ifCond .eq 13, 3)), (32, (.new 89, 3)), (35, (.dup, 1)), (36, (.ldc 118, 2)), (38, (.invokespecial 93, 3)), (41, (.athrow, 1)), (42, (.aload_n 0, 1)), (43, (.getfield 16, 3)), (46, (.aload_n 0, 1)), (47, (.getfield 12, 3)), (50, (.invokevirtual 94, 3)), (53, (.aload_n 0, 1)), (54, (.getfield 16, 3)), (57, (.iload_n 1, 1)), (58, (.invokevirtual 120, 3)), (61, (.aload_n 0, 1)), (62, (.invokevirtual 107, 3)), (65, (.aload_n 0, 1)), (66, (.getfield 12, 3)), (69, (.getfield 59, 3)), (72, (.ireturn, 1))]
theorem hX6_remove_0 : ∀ q ∈ tX6_remove_0, decode cX6_remove q.1 = .ok q.2 := by decide +kernel
def tX6_setLength_0 : List (Nat × (Instr × Nat)) := [(0, (.aload_n 0, 1)), (1, (.getfield 12, 3)), (4, (.iload_n 1, 1)), (5, (.invokevirtual 110, 3)), (8, (.ifCond .ne 13, 3)), (11, (.new 62, 3)), (14, (.dup, 1)), (15, (.ldc 113, 2)), (17, (.invokespecial 66, 3)), (20, (.athrow, 1)), (21, (.iload_n 2, 1)), (22, (.invokestatic 73, 3)), (25, (.ifCond .ne 13, 3)), (28, (.new 80, 3)), (31, (.dup, 1)), (32, (.ldc 123, 2)), (34, (.invokespecial 84, 3)), (37, (.athrow, 1)), (38, (.aload_n 0, 1)), (39, (.getfield 16, 3)), (42, (.aload_n 0, 1)), (43, (.getfield 12, 3)), (46, (.invokevirtual 94, 3)), (49, (.aload_n 0, 1)), (50, (.getfield 16, 3)), (53, (.getfield 125, 3)), (56, (.iload_n 1, 1)), (57, (.iload_n 2, 1)), (58, (.invokevirtual 128, 3)), (61, (.aload_n 0, 1)), (62, (.invokevirtual 107, 3)), (65, (.aload_n 0, 1)), (66, (.getfield 12, 3)), (69, (.iload_n 1, 1)), (70, (.invokevirtual 132, 3)), (73, (.ireturn, 1))]
theorem hX6_setLength_0 : ∀ q ∈ tX6_setLength_0, decode cX6_setLength q.1 = .ok q.2 := by decide +kernel
def tX6_setPage_0 : List (Nat × (Instr × Nat)) := [(0, (.iload_n 1, 1)), (1, (.invokestatic 136, 3)), (4, (.ifCond .ne 13, 3)), (7, (.new 80, 3)), (10, (.dup, 1)), (11, (.ldc 139, 2)), (13, (.invokespecial 84, 3)), (16, (.athrow, 1)), (17, (.aload_n 0, 1)), (18, (.getfield 12, 3)), (21, (.getfield 141, 3)), (24, (.istore_n 2, 1)), (25, (.aload_n 0, 1)), (26, (.getfield 16, 3)), (29, (.aload_n 0, 1)), (30, (.getfield 12, 3)), (33, (.invokevirtual 94, 3)), (36, (.aload_n 0, 1)), (37, (.getfield 16, 3)), (40, (.iload_n 1, 1)), (41, (.putfield 141, 3)), (44, (.aload_n 0, 1)), (45, (.invokevirtual 107, 3)), (48, (.iload_n 2, 1)), (49, (.ireturn, 1))]
theorem hX6_setPage_0 : ∀ q ∈ tX6_setPage_0, decode cX6_setPage q.1 = .ok q.2 := by decide +kernel
def tX6_lockScenes_0 : List (Nat × (Instr × Nat)) := [(0, (.aload_n 0, 1)), (1, (.getfield 16, 3)), (4, (.aload_n 0, 1)), (5, (.getfield 12, 3)), (8, (.invokevirtual 94, 3)), (11, (.iconst 0, 1)), (12, (.istore_n 1, 1)), (13, (.iconst 0, 1)), (14, (.istore_n 2, 1)), (15, (.iload_n 2, 1)), (16, (.aload_n 0, 1)), (17, (.getfield 22, 3)), (20, (.getfield 144, 3)), (23, (.if_icmp .ge 76, 3)), (26, (.aload_n 0, 1)), (27, (.getfield 22, 3)), (30, (.getfield 147, 3)), (33, (.iload_n 2, 1)), (34, (.invokevirtual 150, 3)), (37, (.istore_n 3, 1)), (38, (.aload_n 0, 1)), (39, (.getfield 12, 3)), (42, (.iload_n 3, 1)), (43, (.invokevirtual 115, 3)), (46, (.ifCond .ne 47, 3)), (49, (.aload_n 0, 1)), (50, (.getfield 16, 3)), (53, (.iload_n 3, 1)), (54, (.aload_n 0, 1)), (55, (.getfield 22, 3)), (58, (.getfield 153, 3)), (61, (.iload_n 2, 1)), (62, (.invokevirtual 150, 3)), (65, (.aload_n 0, 1)), (66, (.getfield 22, 3)), (69, (.getfield 156, 3)), (72, (.iload_n 2, 1)), (73, (.invokevirtual 150, 3)), (76, (.aload_n 0, 1)), (77, (.getfield 22, 3)), (80, (.getfield 159, 3)), (83, (.iload_n 2, 1)), (84, (.invokevirtual 150, 3)), (87, (.invokevirtual 162, 3)), (90, (.iinc 1 1, 3)), (93, (.iinc 2 1, 3)), (96, (.goto (-81), 3)), (99, (.aload_n 0, 1)), (100, (.invokevirtual 107, 3)), (103, (.iload_n 1, 1)), (104, (.ireturn, 1))]
theorem hX6_lockScenes_0 : ∀ q ∈ tX6_lockScenes_0, decode cX6_lockScenes q.1 = .ok q.2 := by decide +kernel
def tX6_omit_0 : List (Nat × (Instr × Nat)) := [(0, (.aload_n 0, 1)), (1, (.getfield 22, 3)), (4, (.iload_n 1, 1)), (5, (.invokevirtual 165, 3)), (8, (.ifCond .ne 13, 3)), (11, (.new 62, 3)), (14, (.dup, 1)), (15, (.ldc 166, 2)), (17, (.invokespecial 66, 3)), (20, (.athrow, 1)), (21, (.aload_n 0, 1)), (22, (.getfield 22, 3)), (25, (.getfield 147, 3)), (28, (.iload_n 1, 1)), (29, (.invokevirtual 150, 3)), (32, (.istore_n 2, 1)), (33, (.aload_n 0, 1)), (34, (.getfield 12, 3)), (37, (.iload_n 2, 1)), (38, (.invokevirtual 115, 3)), (41, (.ifCond .eq 14, 3)), (44, (.aload_n 0, 1)), (45, (.getfield 12, 3)), (48, (.iload_n 2, 1)), (49, (.invokevirtual 168, 3)), (52, (.ifCond .eq 13, 3)), (55, (.new 89, 3)), (58, (.dup, 1)), (59, (.ldc 171, 2)), (61, (.invokespecial 93, 3)), (64, (.athrow, 1)), (65, (.aload_n 0, 1)), (66, (.getfield 22, 3)), (69, (.getfield 173, 3)), (72, (.iload_n 1, 1)), (73, (.invokevirtual 150, 3)), (76, (.iconst 1, 1)), (77, (.isub, 1)), (78, (.istore_n 3, 1)), (79, (.aload_n 0, 1)), (80, (.getfield 16, 3)), (83, (.aload_n 0, 1)), (84, (.getfield 12, 3)), (87, (.invokevirtual 94, 3)), (90, (.iconst 0, 1)), (91, (.istore 4, 2)), (93, (.iload 4, 2)), (95, (.iload_n 3, 1)), (96, (.if_icmp .ge 19, 3)), (99, (.aload_n 0, 1)), (100, (.getfield 16, 3)), (103, (.iload_n 2, 1)), (104, (.iconst 1, 1)), (105, (.iadd, 1)), (106, (.invokevirtual 120, 3)), (109, (.iinc 4 1, 3)), (112, (.goto (-19), 3)), (115, (.aload_n 0, 1)), (116, (.getfield 16, 3)), (119, (.iload_n 2, 1))]
theorem hX6_omit_0 : ∀ q ∈ tX6_omit_0, decode cX6_omit q.1 = .ok q.2 := by decide +kernel
def tX6_omit_1 : List (Nat × (Instr × Nat)) := [(120, (.invokevirtual 176, 3)), (123, (.aload_n 0, 1)), (124, (.invokevirtual 107, 3)), (127, (.iload_n 3, 1)), (128, (.ireturn, 1))]
theorem hX6_omit_1 : ∀ q ∈ tX6_omit_1, decode cX6_omit q.1 = .ok q.2 := by decide +kernel
def tX6_lockPages_0 : List (Nat × (Instr × Nat)) := [(0, (.aload_n 0, 1)), (1, (.getfield 16, 3)), (4, (.aload_n 0, 1)), (5, (.getfield 12, 3)), (8, (.invokevirtual 94, 3)), (11, (.iconst 0, 1)), (12, (.istore_n 1, 1)), (13, (.iload_n 1, 1)), (14, (.aload_n 0, 1)), (15, (.getfield 16, 3)), (18, (.getfield 59, 3)), (21, (.if_icmp .ge 21, 3)), (24, (.aload_n 0, 1)), (25, (.getfield 16, 3)), (28, (.getfield 179, 3)), (31, (.iload_n 1, 1)), (32, (.iconst (-1), 1)), (33, (.invokevirtual 128, 3)), (36, (.iinc 1 1, 3)), (39, (.goto (-26), 3)), (42, (.iconst 0, 1)), (43, (.istore_n 1, 1)), (44, (.iconst 0, 1)), (45, (.istore_n 2, 1)), (46, (.iload_n 2, 1)), (47, (.aload_n 0, 1)), (48, (.getfield 32, 3)), (51, (.getfield 182, 3)), (54, (.if_icmp .ge 41, 3)), (57, (.aload_n 0, 1)), (58, (.getfield 32, 3)), (61, (.getfield 183, 3)), (64, (.iload_n 2, 1)), (65, (.invokevirtual 150, 3)), (68, (.istore_n 3, 1)), (69, (.iload_n 3, 1)), (70, (.iconst (-1), 1)), (71, (.if_icmp .eq 18, 3)), (74, (.iinc 1 1, 3)), (77, (.aload_n 0, 1)), (78, (.getfield 16, 3)), (81, (.getfield 179, 3)), (84, (.iload_n 3, 1)), (85, (.iload_n 1, 1)), (86, (.invokevirtual 128, 3)), (89, (.iinc 2 1, 3)), (92, (.goto (-46), 3)), (95, (.aload_n 0, 1)), (96, (.invokevirtual 107, 3)), (99, (.iload_n 1, 1)), (100, (.ireturn, 1))]
theorem hX6_lockPages_0 : ∀ q ∈ tX6_lockPages_0, decode cX6_lockPages q.1 = .ok q.2 := by decide +kernel
def tX6_value_0 : List (Nat × (Instr × Nat)) := [(0, (.iload_n 1, 1)), (1, (.bipush 8, 2)), (3, (.invokestatic 184, 3)), (6, (.ifCond .ne 13, 3)), (9, (.new 80, 3)), (12, (.dup, 1)), (13, (.ldc 187, 2)), (15, (.invokespecial 84, 3)), (18, (.athrow, 1)), (19, (.aload_n 0, 1)), (20, (.iload_n 1, 1)), (21, (.invokevirtual 189, 3)), (24, (.ireturn, 1))]
theorem hX6_value_0 : ∀ q ∈ tX6_value_0, decode cX6_value q.1 = .ok q.2 := by decide +kernel
def tX6_element_0 : List (Nat × (Instr × Nat)) := [(0, (.aload_n 0, 1)), (1, (.getfield 12, 3)), (4, (.iload_n 1, 1)), (5, (.invokevirtual 110, 3)), (8, (.ifCond .ne 13, 3)), (11, (.new 62, 3)), (14, (.dup, 1)), (15, (.ldc 113, 2)), (17, (.invokespecial 66, 3)), (20, (.athrow, 1)), (21, (.iload_n 2, 1)), (22, (.bipush 10, 2)), (24, (.invokestatic 184, 3)), (27, (.ifCond .ne 13, 3)), (30, (.new 80, 3)), (33, (.dup, 1)), (34, (.ldc 187, 2)), (36, (.invokespecial 84, 3)), (39, (.athrow, 1)), (40, (.aload_n 0, 1)), (41, (.iload_n 1, 1)), (42, (.iload_n 2, 1)), (43, (.invokevirtual 192, 3)), (46, (.ireturn, 1))]
theorem hX6_element_0 : ∀ q ∈ tX6_element_0, decode cX6_element q.1 = .ok q.2 := by decide +kernel
def tX6_scene_0 : List (Nat × (Instr × Nat)) := [(0, (.aload_n 0, 1)), (1, (.getfield 22, 3)), (4, (.iload_n 1, 1)), (5, (.invokevirtual 165, 3)), (8, (.ifCond .ne 13, 3)), (11, (.new 62, 3)), (14, (.dup, 1)), (15, (.ldc 166, 2)), (17, (.invokespecial 66, 3)), (20, (.athrow, 1)), (21, (.iload_n 2, 1)), (22, (.bipush 10, 2)), (24, (.invokestatic 184, 3)), (27, (.ifCond .ne 13, 3)), (30, (.new 80, 3)), (33, (.dup, 1)), (34, (.ldc 187, 2)), (36, (.invokespecial 84, 3)), (39, (.athrow, 1)), (40, (.aload_n 0, 1)), (41, (.iload_n 1, 1)), (42, (.iload_n 2, 1)), (43, (.invokevirtual 196, 3)), (46, (.ireturn, 1))]
theorem hX6_scene_0 : ∀ q ∈ tX6_scene_0, decode cX6_scene q.1 = .ok q.2 := by decide +kernel
def tX6_page_0 : List (Nat × (Instr × Nat)) := [(0, (.iload_n 1, 1)), (1, (.aload_n 0, 1)), (2, (.getfield 32, 3)), (5, (.getfield 182, 3)), (8, (.invokestatic 184, 3)), (11, (.ifCond .ne 13, 3)), (14, (.new 62, 3)), (17, (.dup, 1)), (18, (.ldc 199, 2)), (20, (.invokespecial 66, 3)), (23, (.athrow, 1)), (24, (.iload_n 2, 1)), (25, (.iconst 5, 1)), (26, (.invokestatic 184, 3)), (29, (.ifCond .ne 13, 3)), (32, (.new 80, 3)), (35, (.dup, 1)), (36, (.ldc 187, 2)), (38, (.invokespecial 84, 3)), (41, (.athrow, 1)), (42, (.aload_n 0, 1)), (43, (.iload_n 1, 1)), (44, (.iload_n 2, 1)), (45, (.invokevirtual 201, 3)), (48, (.ireturn, 1))]
theorem hX6_page_0 : ∀ q ∈ tX6_page_0, decode cX6_page q.1 = .ok q.2 := by decide +kernel
def tX6_find_0 : List (Nat × (Instr × Nat)) := [(0, (.iconst 0, 1)), (1, (.istore 4, 2)), (3, (.iload 4, 2)), (5, (.aload_n 0, 1)), (6, (.getfield 22, 3)), (9, (.getfield 144, 3)), (12, (.if_icmp .ge 60, 3)), (15, (.aload_n 0, 1)), (16, (.getfield 22, 3)), (19, (.getfield 153, 3)), (22, (.iload 4, 2)), (24, (.invokevirtual 150, 3)), (27, (.iload_n 1, 1)), (28, (.if_icmp .ne 38, 3)), (31, (.aload_n 0, 1)), (32, (.getfield 22, 3)), (35, (.getfield 156, 3)), (38, (.iload 4, 2)), (40, (.invokevirtual 150, 3)), (43, (.iload_n 2, 1)), (44, (.if_icmp .ne 22, 3)), (47, (.aload_n 0, 1)), (48, (.getfield 22, 3)), (51, (.getfield 159, 3)), (54, (.iload 4, 2)), (56, (.invokevirtual 150, 3)), (59, (.iload_n 3, 1)), (60, (.if_icmp .ne 6, 3)), (63, (.iload 4, 2)), (65, (.ireturn, 1)), (66, (.iinc 4 1, 3)), (69, (.goto (-66), 3)), (72, (.iconst (-1), 1)), (73, (.ireturn, 1))]
theorem hX6_find_0 : ∀ q ∈ tX6_find_0, decode cX6_find q.1 = .ok q.2 := by decide +kernel
def tX6_names_0 : List (Nat × (Instr × Nat)) := [(0, (.iload_n 1, 1)), (1, (.ifCond .lt 9, 3)), (4, (.iload_n 1, 1)), (5, (.bipush 9, 2)), (7, (.if_icmp .le 13, 3)), (10, (.new 80, 3)), (13, (.dup, 1)), (14, (.ldc 204, 2)), (16, (.invokespecial 84, 3)), (19, (.athrow, 1)), (20, (.iconst 0, 1)), (21, (.istore_n 3, 1)), (22, (.iconst 0, 1)), (23, (.istore 4, 2)), (25, (.iload 4, 2)), (27, (.aload_n 0, 1)), (28, (.getfield 12, 3)), (31, (.getfield 59, 3)), (34, (.if_icmp .ge 48, 3)), (37, (.aload_n 0, 1)), (38, (.getfield 12, 3)), (41, (.getfield 206, 3)), (44, (.iload 4, 2)), (46, (.invokevirtual 150, 3)), (49, (.iload_n 1, 1)), (50, (.if_icmp .ne 26, 3)), (53, (.iload_n 2, 1)), (54, (.ifCond .eq 19, 3)), (57, (.aload_n 0, 1)), (58, (.getfield 22, 3)), (61, (.getfield 209, 3)), (64, (.iload 4, 2)), (66, (.invokevirtual 150, 3)), (69, (.iconst 1, 1)), (70, (.if_icmp .ne 6, 3)), (73, (.iinc 3 1, 3)), (76, (.iinc 4 1, 3)), (79, (.goto (-54), 3)), (82, (.iload_n 3, 1)), (83, (.ireturn, 1))]
theorem hX6_names_0 : ∀ q ∈ tX6_names_0, decode cX6_names q.1 = .ok q.2 := by decide +kernel
def tX6_used_0 : List (Nat × (Instr × Nat)) := [(0, (.aload_n 0, 1)), (1, (.getfield 12, 3)), (4, (.getfield 141, 3)), (7, (.aload_n 0, 1)), (8, (.getfield 32, 3)), (11, (.getfield 182, 3)), (14, (.imul, 1)), (15, (.istore_n 1, 1)), (16, (.iload_n 1, 1)), (17, (.ifCond .gt 5, 3)), (20, (.dconst 0, 1)), (21, (.dreturn, 1)), (22, (.iconst 0, 1)), (23, (.istore_n 2, 1)), (24, (.iconst 0, 1)), (25, (.istore_n 3, 1)), (26, (.iload_n 3, 1)), (27, (.aload_n 0, 1)), (28, (.getfield 32, 3)), (31, (.getfield 182, 3)), (34, (.if_icmp .ge 23, 3)), (37, (.iload_n 2, 1)), (38, (.aload_n 0, 1)), (39, (.getfield 32, 3)), (42, (.getfield 212, 3)), (45, (.iload_n 3, 1)), (46, (.invokevirtual 150, 3)), (49, (.iadd, 1)), (50, (.istore_n 2, 1)), (51, (.iinc 3 1, 3)), (54, (.goto (-28), 3)), (57, (.iload_n 2, 1)), (58, (.i2d, 1)), (59, (.iload_n 1, 1)), (60, (.i2d, 1)), (61, (.ddiv, 1)), (62, (.dreturn, 1))]
theorem hX6_used_0 : ∀ q ∈ tX6_used_0, decode cX6_used q.1 = .ok q.2 := by decide +kernel
def tX6_pagesWith_0 : List (Nat × (Instr × Nat)) := [(0, (.iload_n 1, 1)), (1, (.invokestatic 136, 3)), (4, (.ifCond .ne 13, 3)), (7, (.new 80, 3)), (10, (.dup, 1)), (11, (.ldc 139, 2)), (13, (.invokespecial 84, 3)), (16, (.athrow, 1)), (17, (.aload_n 0, 1)), (18, (.getfield 16, 3)), (21, (.aload_n 0, 1)), (22, (.getfield 12, 3)), (25, (.invokevirtual 94, 3)), (28, (.aload_n 0, 1)), (29, (.getfield 16, 3)), (32, (.iload_n 1, 1)), (33, (.putfield 141, 3)), (36, (.aload_n 0, 1)), (37, (.getfield 36, 3)), (40, (.aload_n 0, 1)), (41, (.getfield 16, 3)), (44, (.invokevirtual 215, 3)), (47, (.ireturn, 1))]
theorem hX6_pagesWith_0 : ∀ q ∈ tX6_pagesWith_0, decode cX6_pagesWith q.1 = .ok q.2 := by decide +kernel
def tX6_smallestPage_0 : List (Nat × (Instr × Nat)) := [(0, (.iload_n 1, 1)), (1, (.ifCond .lt 9, 3)), (4, (.iload_n 1, 1)), (5, (.bipush 60, 2)), (7, (.if_icmp .le 13, 3)), (10, (.new 80, 3)), (13, (.dup, 1)), (14, (.ldc 219, 2)), (16, (.invokespecial 84, 3)), (19, (.athrow, 1)), (20, (.aload_n 0, 1)), (21, (.getfield 16, 3)), (24, (.aload_n 0, 1)), (25, (.getfield 12, 3)), (28, (.invokevirtual 94, 3)), (31, (.bipush 20, 2)), (33, (.istore_n 2, 1)), (34, (.iload_n 2, 1)), (35, (.bipush 60, 2)), (37, (.if_icmp .gt 34, 3)), (40, (.aload_n 0, 1)), (41, (.getfield 16, 3)), (44, (.iload_n 2, 1)), (45, (.putfield 141, 3)), (48, (.aload_n 0, 1)), (49, (.getfield 36, 3)), (52, (.aload_n 0, 1)), (53, (.getfield 16, 3)), (56, (.invokevirtual 215, 3)), (59, (.iload_n 1, 1)), (60, (.if_icmp .gt 5, 3)), (63, (.iload_n 2, 1)), (64, (.ireturn, 1)), (65, (.iinc 2 1, 3)), (68, (.goto (-34), 3)), (71, (.iconst (-1), 1)), (72, (.ireturn, 1))]
theorem hX6_smallestPage_0 : ∀ q ∈ tX6_smallestPage_0, decode cX6_smallestPage q.1 = .ok q.2 := by decide +kernel
def tX6_pagesBy_0 : List (Nat × (Instr × Nat)) := [(0, (.aload_n 0, 1)), (1, (.getfield 12, 3)), (4, (.iload_n 1, 1)), (5, (.invokevirtual 110, 3)), (8, (.ifCond .ne 13, 3)), (11, (.new 62, 3)), (14, (.dup, 1)), (15, (.ldc 113, 2)), (17, (.invokespecial 66, 3)), (20, (.athrow, 1)), (21, (.iload_n 2, 1)), (22, (.invokestatic 73, 3)), (25, (.ifCond .ne 13, 3)), (28, (.new 80, 3)), (31, (.dup, 1)), (32, (.ldc 123, 2)), (34, (.invokespecial 84, 3)), (37, (.athrow, 1)), (38, (.aload_n 0, 1)), (39, (.getfield 16, 3)), (42, (.aload_n 0, 1)), (43, (.getfield 12, 3)), (46, (.invokevirtual 94, 3)), (49, (.aload_n 0, 1)), (50, (.getfield 16, 3)), (53, (.getfield 125, 3)), (56, (.iload_n 1, 1)), (57, (.iload_n 2, 1)), (58, (.invokevirtual 128, 3)), (61, (.aload_n 0, 1)), (62, (.getfield 36, 3)), (65, (.aload_n 0, 1)), (66, (.getfield 16, 3)), (69, (.invokevirtual 215, 3)), (72, (.ireturn, 1))]
theorem hX6_pagesBy_0 : ∀ q ∈ tX6_pagesBy_0, decode cX6_pagesBy q.1 = .ok q.2 := by decide +kernel
def tX6_greatestLength_0 : List (Nat × (Instr × Nat)) := [(0, (.aload_n 0, 1)), (1, (.getfield 12, 3)), (4, (.iload_n 1, 1)), (5, (.invokevirtual 110, 3)), (8, (.ifCond .ne 13, 3)), (11, (.new 62, 3)), (14, (.dup, 1)), (15, (.ldc 113, 2)), (17, (.invokespecial 66, 3)), (20, (.athrow, 1)), (21, (.aload_n 0, 1)), (22, (.getfield 16, 3)), (25, (.aload_n 0, 1)), (26, (.getfield 12, 3)), (29, (.invokevirtual 94, 3)), (32, (.aload_n 0, 1)), (33, (.getfield 12, 3)), (36, (.getfield 125, 3)), (39, (.iload_n 1, 1)), (40, (.invokevirtual 150, 3)), (43, (.istore_n 2, 1)), (44, (.iconst (-1), 1)), (45, (.istore_n 3, 1)), (46, (.sipush 400, 3)), (49, (.istore 4, 2)), (51, (.iload 4, 2)), (53, (.iload_n 2, 1)), (54, (.if_icmp .le 65, 3)), (57, (.aload_n 0, 1)), (58, (.getfield 16, 3)), (61, (.getfield 125, 3)), (64, (.iload_n 1, 1)), (65, (.iload 4, 2)), (67, (.invokevirtual 128, 3)), (70, (.aload_n 0, 1)), (71, (.getfield 16, 3)), (74, (.iload_n 1, 1)), (75, (.invokevirtual 132, 3)), (78, (.istore 5, 2)), (80, (.iload 5, 2)), (82, (.iload_n 3, 1)), (83, (.if_icmp .eq 27, 3)), (86, (.aload_n 0, 1)), (87, (.getfield 36, 3)), (90, (.aload_n 0, 1)), (91, (.getfield 16, 3)), (94, (.invokevirtual 215, 3)), (97, (.aload_n 0, 1)), (98, (.getfield 32, 3)), (101, (.getfield 182, 3)), (104, (.if_icmp .gt 6, 3)), (107, (.iload 4, 2)), (109, (.ireturn, 1)), (110, (.iload 5, 2)), (112, (.istore_n 3, 1)), (113, (.iinc 4 (-1), 3)), (116, (.goto (-65), 3)), (119, (.iload_n 2, 1)), (120, (.ireturn, 1))]
theorem hX6_greatestLength_0 : ∀ q ∈ tX6_greatestLength_0, decode cX6_greatestLength q.1 = .ok q.2 := by decide +kernel
def tX6_append_0 : List (Nat × (Instr × Nat)) := [(0, (.iload_n 1, 1)), (1, (.ifCond .lt 9, 3)), (4, (.iload_n 1, 1)), (5, (.bipush 127, 2)), (7, (.if_icmp .le 13, 3)), (10, (.new 80, 3)), (13, (.dup, 1)), (14, (.ldc 221, 2)), (16, (.invokespecial 84, 3)), (19, (.athrow, 1)), (20, (.aload_n 0, 1)), (21, (.getfield 55, 3)), (24, (.sipush 200, 3)), (27, (.if_icmp .lt 13, 3)), (30, (.new 89, 3)), (33, (.dup, 1)), (34, (.ldc 223, 2)), (36, (.invokespecial 93, 3)), (39, (.athrow, 1)), (40, (.aload_n 0, 1)), (41, (.getfield 51, 3)), (44, (.aload_n 0, 1)), (45, (.getfield 55, 3)), (48, (.iload_n 1, 1)), (49, (.invokevirtual 128, 3)), (52, (.aload_n 0, 1)), (53, (.dup, 1)), (54, (.getfield 55, 3)), (57, (.iconst 1, 1)), (58, (.iadd, 1)), (59, (.putfield 55, 3)), (62, (.aload_n 0, 1)), (63, (.getfield 55, 3)), (66, (.ireturn, 1))]
theorem hX6_append_0 : ∀ q ∈ tX6_append_0, decode cX6_append q.1 = .ok q.2 := by decide +kernel
def tX6_clearText_0 : List (Nat × (Instr × Nat)) := [(0, (.aload_n 0, 1)), (1, (.getfield 55, 3)), (4, (.istore_n 1, 1)), (5, (.aload_n 0, 1)), (6, (.iconst 0, 1)), (7, (.putfield 55, 3)), (10, (.iload_n 1, 1)), (11, (.ireturn, 1))]
theorem hX6_clearText_0 : ∀ q ∈ tX6_clearText_0, decode cX6_clearText q.1 = .ok q.2 := by decide +kernel
def tX6_parse_0 : List (Nat × (Instr × Nat)) := [(0, (.aload_n 0, 1)), (1, (.getfield 16, 3)), (4, (.invokevirtual 225, 3)), (7, (.aload_n 0, 1)), (8, (.getfield 16, 3)), (11, (.aload_n 0, 1)), (12, (.getfield 12, 3)), (15, (.getfield 141, 3)), (18, (.putfield 141, 3)), (21, (.new 228, 3)), (24, (.dup, 1)), (25, (.aload_n 0, 1)), (26, (.getfield 51, 3)), (29, (.aload_n 0, 1)), (30, (.getfield 55, 3)), (33, (.invokespecial 230, 3)), (36, (.astore_n 1, 1)), (37, (.aload_n 1, 1)), (38, (.aload_n 0, 1)), (39, (.getfield 16, 3)), (42, (.invokevirtual 233, 3)), (45, (.istore_n 2, 1)), (46, (.iload_n 2, 1)), (47, (.iconst (-1), 1)), (48, (.if_icmp .eq 8, 3)), (51, (.bipush (-10), 2)), (53, (.iload_n 2, 1)), (54, (.isub, 1)), (55, (.ireturn, 1)), (56, (.aload_n 0, 1)), (57, (.invokevirtual 107, 3)), (60, (.aload_n 0, 1)), (61, (.getfield 12, 3)), (64, (.getfield 59, 3)), (67, (.ireturn, 1))]
theorem hX6_parse_0 : ∀ q ∈ tX6_parse_0, decode cX6_parse q.1 = .ok q.2 := by decide +kernel
def tX6_undo_0 : List (Nat × (Instr × Nat)) := [(0, (.aload_n 0, 1)), (1, (.getfield 42, 3)), (4, (.getfield 236, 3)), (7, (.ifCond .ne 13, 3)), (10, (.new 89, 3)), (13, (.dup, 1)), (14, (.ldc 237, 2)), (16, (.invokespecial 93, 3)), (19, (.athrow, 1)), (20, (.aload_n 0, 1)), (21, (.getfield 42, 3)), (24, (.aload_n 0, 1)), (25, (.getfield 12, 3)), (28, (.invokevirtual 239, 3)), (31, (.aload_n 0, 1)), (32, (.getfield 22, 3)), (35, (.aload_n 0, 1)), (36, (.getfield 12, 3)), (39, (.invokevirtual 242, 3)), (42, (.aload_n 0, 1)), (43, (.getfield 32, 3)), (46, (.aload_n 0, 1)), (47, (.getfield 12, 3)), (50, (.invokevirtual 215, 3)), (53, (.pop, 1)), (54, (.aload_n 0, 1)), (55, (.getfield 42, 3)), (58, (.getfield 236, 3)), (61, (.ireturn, 1))]
theorem hX6_undo_0 : ∀ q ∈ tX6_undo_0, decode cX6_undo q.1 = .ok q.2 := by decide +kernel
def tX6_digest_0 : List (Nat × (Instr × Nat)) := [(0, (.ldc2_w 245, 3)), (3, (.aload_n 0, 1)), (4, (.getfield 55, 3)), (7, (.i2l, 1)), (8, (.ladd, 1)), (9, (.lstore_n 1, 1)), (10, (.iconst 0, 1)), (11, (.istore_n 3, 1)), (12, (.iload_n 3, 1)), (13, (.bipush 8, 2)), (15, (.if_icmp .ge 22, 3)), (18, (.ldc2_w 247, 3)), (21, (.lload_n 1, 1)), (22, (.lmul, 1)), (23, (.aload_n 0, 1)), (24, (.iload_n 3, 1)), (25, (.invokevirtual 189, 3)), (28, (.i2l, 1)), (29, (.ladd, 1)), (30, (.lstore_n 1, 1)), (31, (.iinc 3 1, 3)), (34, (.goto (-22), 3)), (37, (.iconst 0, 1)), (38, (.istore_n 3, 1)), (39, (.iload_n 3, 1)), (40, (.aload_n 0, 1)), (41, (.getfield 12, 3)), (44, (.getfield 59, 3)), (47, (.if_icmp .ge 40, 3)), (50, (.iconst 0, 1)), (51, (.istore 4, 2)), (53, (.iload 4, 2)), (55, (.bipush 10, 2)), (57, (.if_icmp .ge 24, 3)), (60, (.ldc2_w 247, 3)), (63, (.lload_n 1, 1)), (64, (.lmul, 1)), (65, (.aload_n 0, 1)), (66, (.iload_n 3, 1)), (67, (.iload 4, 2)), (69, (.invokevirtual 192, 3)), (72, (.i2l, 1)), (73, (.ladd, 1)), (74, (.lstore_n 1, 1)), (75, (.iinc 4 1, 3)), (78, (.goto (-25), 3)), (81, (.iinc 3 1, 3)), (84, (.goto (-45), 3)), (87, (.iconst 0, 1)), (88, (.istore_n 3, 1)), (89, (.iload_n 3, 1)), (90, (.aload_n 0, 1)), (91, (.getfield 22, 3)), (94, (.getfield 144, 3)), (97, (.if_icmp .ge 40, 3)), (100, (.iconst 0, 1)), (101, (.istore 4, 2)), (103, (.iload 4, 2)), (105, (.bipush 10, 2)), (107, (.if_icmp .ge 24, 3))]
theorem hX6_digest_0 : ∀ q ∈ tX6_digest_0, decode cX6_digest q.1 = .ok q.2 := by decide +kernel
def tX6_digest_1 : List (Nat × (Instr × Nat)) := [(110, (.ldc2_w 247, 3)), (113, (.lload_n 1, 1)), (114, (.lmul, 1)), (115, (.aload_n 0, 1)), (116, (.iload_n 3, 1)), (117, (.iload 4, 2)), (119, (.invokevirtual 196, 3)), (122, (.i2l, 1)), (123, (.ladd, 1)), (124, (.lstore_n 1, 1)), (125, (.iinc 4 1, 3)), (128, (.goto (-25), 3)), (131, (.iinc 3 1, 3)), (134, (.goto (-45), 3)), (137, (.iconst 0, 1)), (138, (.istore_n 3, 1)), (139, (.iload_n 3, 1)), (140, (.aload_n 0, 1)), (141, (.getfield 32, 3)), (144, (.getfield 182, 3)), (147, (.if_icmp .ge 39, 3)), (150, (.iconst 0, 1)), (151, (.istore 4, 2)), (153, (.iload 4, 2)), (155, (.iconst 5, 1)), (156, (.if_icmp .ge 24, 3)), (159, (.ldc2_w 247, 3)), (162, (.lload_n 1, 1)), (163, (.lmul, 1)), (164, (.aload_n 0, 1)), (165, (.iload_n 3, 1)), (166, (.iload 4, 2)), (168, (.invokevirtual 201, 3)), (171, (.i2l, 1)), (172, (.ladd, 1)), (173, (.lstore_n 1, 1)), (174, (.iinc 4 1, 3)), (177, (.goto (-24), 3)), (180, (.iinc 3 1, 3)), (183, (.goto (-44), 3)), (186, (.ldc2_w 247, 3)), (189, (.lload_n 1, 1)), (190, (.lmul, 1)), (191, (.aload_n 0, 1)), (192, (.getfield 42, 3)), (195, (.getfield 236, 3)), (198, (.i2l, 1)), (199, (.ladd, 1)), (200, (.lreturn, 1))]
theorem hX6_digest_1 : ∀ q ∈ tX6_digest_1, decode cX6_digest q.1 = .ok q.2 := by decide +kernel
def tX6_keepDraft_0 : List (Nat × (Instr × Nat)) := [(0, (.aload_n 0, 1)), (1, (.getfield 42, 3)), (4, (.aload_n 0, 1)), (5, (.getfield 12, 3)), (8, (.invokevirtual 249, 3)), (11, (.aload_n 0, 1)), (12, (.getfield 12, 3)), (15, (.aload_n 0, 1)), (16, (.getfield 16, 3)), (19, (.invokevirtual 94, 3)), (22, (.aload_n 0, 1)), (23, (.getfield 22, 3)), (26, (.aload_n 0, 1)), (27, (.getfield 12, 3)), (30, (.invokevirtual 242, 3)), (33, (.aload_n 0, 1)), (34, (.getfield 32, 3)), (37, (.aload_n 0, 1)), (38, (.getfield 12, 3)), (41, (.invokevirtual 215, 3)), (44, (.pop, 1)), (45, (.return_, 1))]
theorem hX6_keepDraft_0 : ∀ q ∈ tX6_keepDraft_0, decode cX6_keepDraft q.1 = .ok q.2 := by decide +kernel
def tX6_repeatsLabel_0 : List (Nat × (Instr × Nat)) := [(0, (.aload_n 0, 1)), (1, (.getfield 26, 3)), (4, (.aload_n 0, 1)), (5, (.getfield 16, 3)), (8, (.invokevirtual 242, 3)), (11, (.aload_n 0, 1)), (12, (.getfield 26, 3)), (15, (.invokevirtual 252, 3)), (18, (.ireturn, 1))]
theorem hX6_repeatsLabel_0 : ∀ q ∈ tX6_repeatsLabel_0, decode cX6_repeatsLabel q.1 = .ok q.2 := by decide +kernel
def tX6_valueOf_0 : List (Nat × (Instr × Nat)) := [(0, (.iload_n 1, 1)), (1, (.tableswitch 99 0 6 #[43, 51, 59, 67, 75, 83, 91], 43)), (44, (.aload_n 0, 1)), (45, (.getfield 12, 3)), (48, (.getfield 59, 3)), (51, (.ireturn, 1)), (52, (.aload_n 0, 1)), (53, (.getfield 22, 3)), (56, (.getfield 144, 3)), (59, (.ireturn, 1)), (60, (.aload_n 0, 1)), (61, (.getfield 32, 3)), (64, (.getfield 182, 3)), (67, (.ireturn, 1)), (68, (.aload_n 0, 1)), (69, (.getfield 12, 3)), (72, (.getfield 141, 3)), (75, (.ireturn, 1)), (76, (.aload_n 0, 1)), (77, (.getfield 22, 3)), (80, (.getfield 255, 3)), (83, (.ireturn, 1)), (84, (.aload_n 0, 1)), (85, (.getfield 32, 3)), (88, (.getfield 258, 3)), (91, (.ireturn, 1)), (92, (.aload_n 0, 1)), (93, (.getfield 22, 3)), (96, (.getfield 261, 3)), (99, (.ireturn, 1)), (100, (.aload_n 0, 1)), (101, (.getfield 32, 3)), (104, (.getfield 264, 3)), (107, (.ireturn, 1))]
theorem hX6_valueOf_0 : ∀ q ∈ tX6_valueOf_0, decode cX6_valueOf q.1 = .ok q.2 := by decide +kernel
def tX6_elementFact_0 : List (Nat × (Instr × Nat)) := [(0, (.iload_n 2, 1)), (1, (.tableswitch 156 0 8 #[51, 63, 75, 87, 96, 108, 120, 132, 144], 51)), (52, (.aload_n 0, 1)), (53, (.getfield 12, 3)), (56, (.getfield 267, 3)), (59, (.iload_n 1, 1)), (60, (.invokevirtual 150, 3)), (63, (.ireturn, 1)), (64, (.aload_n 0, 1)), (65, (.getfield 12, 3)), (68, (.getfield 125, 3)), (71, (.iload_n 1, 1)), (72, (.invokevirtual 150, 3)), (75, (.ireturn, 1)), (76, (.aload_n 0, 1)), (77, (.getfield 12, 3)), (80, (.getfield 206, 3)), (83, (.iload_n 1, 1)), (84, (.invokevirtual 150, 3)), (87, (.ireturn, 1)), (88, (.aload_n 0, 1)), (89, (.getfield 12, 3)), (92, (.iload_n 1, 1)), (93, (.invokevirtual 132, 3)), (96, (.ireturn, 1)), (97, (.aload_n 0, 1)), (98, (.getfield 22, 3)), (101, (.getfield 270, 3)), (104, (.iload_n 1, 1)), (105, (.invokevirtual 150, 3)), (108, (.ireturn, 1)), (109, (.aload_n 0, 1)), (110, (.getfield 12, 3)), (113, (.getfield 179, 3)), (116, (.iload_n 1, 1)), (117, (.invokevirtual 150, 3)), (120, (.ireturn, 1)), (121, (.aload_n 0, 1)), (122, (.getfield 32, 3)), (125, (.getfield 273, 3)), (128, (.iload_n 1, 1)), (129, (.invokevirtual 150, 3)), (132, (.ireturn, 1)), (133, (.aload_n 0, 1)), (134, (.getfield 32, 3)), (137, (.getfield 276, 3)), (140, (.iload_n 1, 1)), (141, (.invokevirtual 150, 3)), (144, (.ireturn, 1)), (145, (.aload_n 0, 1)), (146, (.getfield 32, 3)), (149, (.getfield 279, 3)), (152, (.iload_n 1, 1)), (153, (.invokevirtual 150, 3)), (156, (.ireturn, 1)), (157, (.aload_n 0, 1)), (158, (.getfield 22, 3)), (161, (.getfield 209, 3)), (164, (.iload_n 1, 1)), (165, (.invokevirtual 150, 3))]
theorem hX6_elementFact_0 : ∀ q ∈ tX6_elementFact_0, decode cX6_elementFact q.1 = .ok q.2 := by decide +kernel
def tX6_elementFact_1 : List (Nat × (Instr × Nat)) := [(168, (.ireturn, 1))]
theorem hX6_elementFact_1 : ∀ q ∈ tX6_elementFact_1, decode cX6_elementFact q.1 = .ok q.2 := by decide +kernel
def tX6_sceneFact_0 : List (Nat × (Instr × Nat)) := [(0, (.aload_n 0, 1)), (1, (.getfield 22, 3)), (4, (.getfield 147, 3)), (7, (.iload_n 1, 1)), (8, (.invokevirtual 150, 3)), (11, (.istore_n 3, 1)), (12, (.iload_n 2, 1)), (13, (.tableswitch 163 0 8 #[51, 63, 75, 87, 104, 121, 123, 135, 147], 51)), (64, (.aload_n 0, 1)), (65, (.getfield 22, 3)), (68, (.getfield 153, 3)), (71, (.iload_n 1, 1)), (72, (.invokevirtual 150, 3)), (75, (.ireturn, 1)), (76, (.aload_n 0, 1)), (77, (.getfield 22, 3)), (80, (.getfield 156, 3)), (83, (.iload_n 1, 1)), (84, (.invokevirtual 150, 3)), (87, (.ireturn, 1)), (88, (.aload_n 0, 1)), (89, (.getfield 22, 3)), (92, (.getfield 159, 3)), (95, (.iload_n 1, 1)), (96, (.invokevirtual 150, 3)), (99, (.ireturn, 1)), (100, (.aload_n 0, 1)), (101, (.getfield 12, 3)), (104, (.iload_n 3, 1)), (105, (.invokevirtual 115, 3)), (108, (.ifCond .eq 7, 3)), (111, (.iconst 1, 1)), (112, (.goto 4, 3)), (115, (.iconst 0, 1)), (116, (.ireturn, 1)), (117, (.aload_n 0, 1)), (118, (.getfield 12, 3)), (121, (.iload_n 3, 1)), (122, (.invokevirtual 168, 3)), (125, (.ifCond .eq 7, 3)), (128, (.iconst 1, 1)), (129, (.goto 4, 3)), (132, (.iconst 0, 1)), (133, (.ireturn, 1)), (134, (.iload_n 3, 1)), (135, (.ireturn, 1)), (136, (.aload_n 0, 1)), (137, (.getfield 22, 3)), (140, (.getfield 173, 3)), (143, (.iload_n 1, 1)), (144, (.invokevirtual 150, 3)), (147, (.ireturn, 1)), (148, (.aload_n 0, 1)), (149, (.getfield 22, 3)), (152, (.getfield 282, 3)), (155, (.iload_n 1, 1)), (156, (.invokevirtual 150, 3)), (159, (.ireturn, 1)), (160, (.aload_n 0, 1)), (161, (.aload_n 0, 1))]
theorem hX6_sceneFact_0 : ∀ q ∈ tX6_sceneFact_0, decode cX6_sceneFact q.1 = .ok q.2 := by decide +kernel
def tX6_sceneFact_1 : List (Nat × (Instr × Nat)) := [(162, (.getfield 22, 3)), (165, (.getfield 282, 3)), (168, (.iload_n 1, 1)), (169, (.invokevirtual 150, 3)), (172, (.invokevirtual 285, 3)), (175, (.ireturn, 1)), (176, (.aload_n 0, 1)), (177, (.getfield 32, 3)), (180, (.getfield 273, 3)), (183, (.iload_n 3, 1)), (184, (.invokevirtual 150, 3)), (187, (.ireturn, 1))]
theorem hX6_sceneFact_1 : ∀ q ∈ tX6_sceneFact_1, decode cX6_sceneFact q.1 = .ok q.2 := by decide +kernel
def tX6_pageFact_0 : List (Nat × (Instr × Nat)) := [(0, (.iload_n 2, 1)), (1, (.tableswitch 79 0 3 #[31, 43, 55, 67], 31)), (32, (.aload_n 0, 1)), (33, (.getfield 32, 3)), (36, (.getfield 288, 3)), (39, (.iload_n 1, 1)), (40, (.invokevirtual 150, 3)), (43, (.ireturn, 1)), (44, (.aload_n 0, 1)), (45, (.getfield 32, 3)), (48, (.getfield 291, 3)), (51, (.iload_n 1, 1)), (52, (.invokevirtual 150, 3)), (55, (.ireturn, 1)), (56, (.aload_n 0, 1)), (57, (.getfield 32, 3)), (60, (.getfield 212, 3)), (63, (.iload_n 1, 1)), (64, (.invokevirtual 150, 3)), (67, (.ireturn, 1)), (68, (.aload_n 0, 1)), (69, (.getfield 32, 3)), (72, (.getfield 183, 3)), (75, (.iload_n 1, 1)), (76, (.invokevirtual 150, 3)), (79, (.ireturn, 1)), (80, (.aload_n 0, 1)), (81, (.getfield 32, 3)), (84, (.getfield 294, 3)), (87, (.iload_n 1, 1)), (88, (.invokevirtual 150, 3)), (91, (.ireturn, 1))]
theorem hX6_pageFact_0 : ∀ q ∈ tX6_pageFact_0, decode cX6_pageFact q.1 = .ok q.2 := by decide +kernel
def tX6_eighths_0 : List (Nat × (Instr × Nat)) := [(0, (.aload_n 0, 1)), (1, (.getfield 12, 3)), (4, (.getfield 141, 3)), (7, (.istore_n 2, 1)), (8, (.iload_n 2, 1)), (9, (.ifCond .le 16, 3)), (12, (.iload_n 1, 1)), (13, (.bipush 8, 2)), (15, (.imul, 1)), (16, (.iload_n 2, 1)), (17, (.iadd, 1)), (18, (.iconst 1, 1)), (19, (.isub, 1)), (20, (.iload_n 2, 1)), (21, (.idiv, 1)), (22, (.goto 4, 3)), (25, (.iconst 0, 1)), (26, (.ireturn, 1))]
theorem hX6_eighths_0 : ∀ q ∈ tX6_eighths_0, decode cX6_eighths q.1 = .ok q.2 := by decide +kernel
def tX6_isBelow_0 : List (Nat × (Instr × Nat)) := [(0, (.iload_n 0, 1)), (1, (.ifCond .lt 12, 3)), (4, (.iload_n 0, 1)), (5, (.iload_n 1, 1)), (6, (.if_icmp .ge 7, 3)), (9, (.iconst 1, 1)), (10, (.goto 4, 3)), (13, (.iconst 0, 1)), (14, (.ireturn, 1))]
theorem hX6_isBelow_0 : ∀ q ∈ tX6_isBelow_0, decode cX6_isBelow q.1 = .ok q.2 := by decide +kernel
def tX6_isKind_0 : List (Nat × (Instr × Nat)) := [(0, (.iload_n 0, 1)), (1, (.ifCond .lt 12, 3)), (4, (.iload_n 0, 1)), (5, (.iconst 4, 1)), (6, (.if_icmp .gt 7, 3)), (9, (.iconst 1, 1)), (10, (.goto 4, 3)), (13, (.iconst 0, 1)), (14, (.ireturn, 1))]
theorem hX6_isKind_0 : ∀ q ∈ tX6_isKind_0, decode cX6_isKind q.1 = .ok q.2 := by decide +kernel
def tX6_isLength_0 : List (Nat × (Instr × Nat)) := [(0, (.iload_n 0, 1)), (1, (.iconst 1, 1)), (2, (.if_icmp .lt 14, 3)), (5, (.iload_n 0, 1)), (6, (.sipush 400, 3)), (9, (.if_icmp .gt 7, 3)), (12, (.iconst 1, 1)), (13, (.goto 4, 3)), (16, (.iconst 0, 1)), (17, (.ireturn, 1))]
theorem hX6_isLength_0 : ∀ q ∈ tX6_isLength_0, decode cX6_isLength q.1 = .ok q.2 := by decide +kernel
def tX6_isPersonOf_0 : List (Nat × (Instr × Nat)) := [(0, (.iload_n 0, 1)), (1, (.iconst 2, 1)), (2, (.if_icmp .ne 21, 3)), (5, (.iload_n 1, 1)), (6, (.ifCond .lt 13, 3)), (9, (.iload_n 1, 1)), (10, (.bipush 9, 2)), (12, (.if_icmp .gt 7, 3)), (15, (.iconst 1, 1)), (16, (.goto 17, 3)), (19, (.iconst 0, 1)), (20, (.goto 13, 3)), (23, (.iload_n 1, 1)), (24, (.iconst (-1), 1)), (25, (.if_icmp .ne 7, 3)), (28, (.iconst 1, 1)), (29, (.goto 4, 3)), (32, (.iconst 0, 1)), (33, (.ireturn, 1))]
theorem hX6_isPersonOf_0 : ∀ q ∈ tX6_isPersonOf_0, decode cX6_isPersonOf q.1 = .ok q.2 := by decide +kernel
def tX6_isPageLines_0 : List (Nat × (Instr × Nat)) := [(0, (.iload_n 0, 1)), (1, (.bipush 20, 2)), (3, (.if_icmp .lt 13, 3)), (6, (.iload_n 0, 1)), (7, (.bipush 60, 2)), (9, (.if_icmp .gt 7, 3)), (12, (.iconst 1, 1)), (13, (.goto 4, 3)), (16, (.iconst 0, 1)), (17, (.ireturn, 1))]
theorem hX6_isPageLines_0 : ∀ q ∈ tX6_isPageLines_0, decode cX6_isPageLines q.1 = .ok q.2 := by decide +kernel
def tJ9_min_7cf53_0 : List (Nat × (Instr × Nat)) := [(0, (.iload_n 0, 1)), (1, (.iload_n 1, 1)), (2, (.if_icmp .gt 7, 3)), (5, (.iload_n 0, 1)), (6, (.goto 4, 3)), (9, (.iload_n 1, 1)), (10, (.ireturn, 1))]
theorem hJ9_min_7cf53_0 : ∀ q ∈ tJ9_min_7cf53_0, decode cJ9_min_7cf53 q.1 = .ok q.2 := by decide +kernel
end
section
def tX7_init_0 : List (Nat × (Instr × Nat)) := [(0, (.aload_n 0, 1)), (1, (.invokespecial 1, 3)), (4, (.aload_n 0, 1)), (5, (.sipush 542, 3)), (8, (.newarray .int, 2)), (10, (.putfield 7, 3)), (13, (.aload_n 0, 1)), (14, (.sipush 2168, 3)), (17, (.newarray .int, 2)), (19, (.putfield 13, 3)), (22, (.aload_n 0, 1)), (23, (.sipush 542, 3)), (26, (.newarray .int, 2)), (28, (.putfield 16, 3)), (31, (.aload_n 0, 1)), (32, (.sipush 200, 3)), (35, (.newarray .int, 2)), (37, (.putfield 19, 3)), (40, (.aload_n 0, 1)), (41, (.bipush 60, 2)), (43, (.newarray .int, 2)), (45, (.putfield 22, 3)), (48, (.aload_n 0, 1)), (49, (.bipush 60, 2)), (51, (.newarray .int, 2)), (53, (.putfield 25, 3)), (56, (.aload_n 0, 1)), (57, (.bipush 60, 2)), (59, (.newarray .int, 2)), (61, (.putfield 28, 3)), (64, (.aload_n 0, 1)), (65, (.sipush 130, 3)), (68, (.newarray .int, 2)), (70, (.putfield 31, 3)), (73, (.aload_n 0, 1)), (74, (.sipush 130, 3)), (77, (.newarray .int, 2)), (79, (.putfield 34, 3)), (82, (.aload_n 0, 1)), (83, (.sipush 130, 3)), (86, (.newarray .int, 2)), (88, (.putfield 37, 3)), (91, (.aload_n 0, 1)), (92, (.sipush 180, 3)), (95, (.newarray .int, 2)), (97, (.putfield 40, 3)), (100, (.aload_n 0, 1)), (101, (.getfield 7, 3)), (104, (.iconst 0, 1)), (105, (.bipush 50, 2)), (107, (.iastore, 1)), (108, (.return_, 1))]
theorem hX7_init_0 : ∀ q ∈ tX7_init_0, decode cX7_init q.1 = .ok q.2 := by decide +kernel
def tX7_thrown_0 : List (Nat × (Instr × Nat)) := [(0, (.aload_n 0, 1)), (1, (.getfield 43, 3)), (4, (.ireturn, 1))]
theorem hX7_thrown_0 : ∀ q ∈ tX7_thrown_0, decode cX7_thrown q.1 = .ok q.2 := by decide +kernel
def tX7_in_0 : List (Nat × (Instr × Nat)) := [(0, (.iload_n 0, 1)), (1, (.iload_n 1, 1)), (2, (.if_icmp .lt 12, 3)), (5, (.iload_n 0, 1)), (6, (.iload_n 2, 1)), (7, (.if_icmp .gt 7, 3)), (10, (.iconst 1, 1)), (11, (.goto 4, 3)), (14, (.iconst 0, 1)), (15, (.ireturn, 1))]
theorem hX7_in_0 : ∀ q ∈ tX7_in_0, decode cX7_in q.1 = .ok q.2 := by decide +kernel
def tX7_fails_0 : List (Nat × (Instr × Nat)) := [(0, (.aload_n 0, 1)), (1, (.iload_n 1, 1)), (2, (.putfield 43, 3)), (5, (.iconst 0, 1)), (6, (.ireturn, 1))]
theorem hX7_fails_0 : ∀ q ∈ tX7_fails_0, decode cX7_fails q.1 = .ok q.2 := by decide +kernel
def tX7_tells_0 : List (Nat × (Instr × Nat)) := [(0, (.aload_n 0, 1)), (1, (.iconst 0, 1)), (2, (.putfield 43, 3)), (5, (.iload_n 1, 1)), (6, (.ireturn, 1))]
theorem hX7_tells_0 : ∀ q ∈ tX7_tells_0, decode cX7_tells q.1 = .ok q.2 := by decide +kernel
def tX7_copies_0 : List (Nat × (Instr × Nat)) := [(0, (.iconst 0, 1)), (1, (.istore_n 2, 1)), (2, (.iload_n 2, 1)), (3, (.sipush 542, 3)), (6, (.if_icmp .ge 15, 3)), (9, (.aload_n 0, 1)), (10, (.iload_n 2, 1)), (11, (.aload_n 1, 1)), (12, (.iload_n 2, 1)), (13, (.iaload, 1)), (14, (.iastore, 1)), (15, (.iinc 2 1, 3)), (18, (.goto (-16), 3)), (21, (.return_, 1))]
theorem hX7_copies_0 : ∀ q ∈ tX7_copies_0, decode cX7_copies q.1 = .ok q.2 := by decide +kernel
def tX7_hold_0 : List (Nat × (Instr × Nat)) := [(0, (.aload_n 0, 1)), (1, (.getfield 16, 3)), (4, (.aload_n 0, 1)), (5, (.getfield 7, 3)), (8, (.invokestatic 47, 3)), (11, (.return_, 1))]
theorem hX7_hold_0 : ∀ q ∈ tX7_hold_0, decode cX7_hold q.1 = .ok q.2 := by decide +kernel
def tX7_ends_0 : List (Nat × (Instr × Nat)) := [(0, (.aload_n 0, 1)), (1, (.getfield 51, 3)), (4, (.iconst 4, 1)), (5, (.if_icmp .ne 44, 3)), (8, (.iconst 0, 1)), (9, (.istore_n 2, 1)), (10, (.iload_n 2, 1)), (11, (.sipush 1626, 3)), (14, (.if_icmp .ge 25, 3)), (17, (.aload_n 0, 1)), (18, (.getfield 13, 3)), (21, (.iload_n 2, 1)), (22, (.aload_n 0, 1)), (23, (.getfield 13, 3)), (26, (.iload_n 2, 1)), (27, (.sipush 542, 3)), (30, (.iadd, 1)), (31, (.iaload, 1)), (32, (.iastore, 1)), (33, (.iinc 2 1, 3)), (36, (.goto (-26), 3)), (39, (.aload_n 0, 1)), (40, (.dup, 1)), (41, (.getfield 51, 3)), (44, (.iconst 1, 1)), (45, (.isub, 1)), (46, (.putfield 51, 3)), (49, (.iconst 0, 1)), (50, (.istore_n 2, 1)), (51, (.iload_n 2, 1)), (52, (.sipush 542, 3)), (55, (.if_icmp .ge 30, 3)), (58, (.aload_n 0, 1)), (59, (.getfield 13, 3)), (62, (.sipush 542, 3)), (65, (.aload_n 0, 1)), (66, (.getfield 51, 3)), (69, (.imul, 1)), (70, (.iload_n 2, 1)), (71, (.iadd, 1)), (72, (.aload_n 0, 1)), (73, (.getfield 16, 3)), (76, (.iload_n 2, 1)), (77, (.iaload, 1)), (78, (.iastore, 1)), (79, (.iinc 2 1, 3)), (82, (.goto (-31), 3)), (85, (.aload_n 0, 1)), (86, (.dup, 1)), (87, (.getfield 51, 3)), (90, (.iconst 1, 1)), (91, (.iadd, 1)), (92, (.putfield 51, 3)), (95, (.aload_n 0, 1)), (96, (.iload_n 1, 1)), (97, (.invokevirtual 54, 3)), (100, (.ireturn, 1))]
theorem hX7_ends_0 : ∀ q ∈ tX7_ends_0, decode cX7_ends q.1 = .ok q.2 := by decide +kernel
def tX7_of_0 : List (Nat × (Instr × Nat)) := [(0, (.aload_n 0, 1)), (1, (.getfield 7, 3)), (4, (.iconst 2, 1)), (5, (.bipush 9, 2)), (7, (.iload_n 1, 1)), (8, (.imul, 1)), (9, (.iadd, 1)), (10, (.iload_n 2, 1)), (11, (.iadd, 1)), (12, (.iaload, 1)), (13, (.ireturn, 1))]
theorem hX7_of_0 : ∀ q ∈ tX7_of_0, decode cX7_of q.1 = .ok q.2 := by decide +kernel
def tX7_puts_0 : List (Nat × (Instr × Nat)) := [(0, (.aload_n 0, 1)), (1, (.getfield 7, 3)), (4, (.iconst 2, 1)), (5, (.bipush 9, 2)), (7, (.iload_n 1, 1)), (8, (.imul, 1)), (9, (.iadd, 1)), (10, (.iload_n 2, 1)), (11, (.iadd, 1)), (12, (.iload_n 3, 1)), (13, (.iastore, 1)), (14, (.return_, 1))]
theorem hX7_puts_0 : ∀ q ∈ tX7_puts_0, decode cX7_puts q.1 = .ok q.2 := by decide +kernel
def tX7_isElement_0 : List (Nat × (Instr × Nat)) := [(0, (.iload_n 1, 1)), (1, (.iconst 0, 1)), (2, (.aload_n 0, 1)), (3, (.getfield 7, 3)), (6, (.iconst 1, 1)), (7, (.iaload, 1)), (8, (.iconst 1, 1)), (9, (.isub, 1)), (10, (.invokestatic 58, 3)), (13, (.ireturn, 1))]
theorem hX7_isElement_0 : ∀ q ∈ tX7_isElement_0, decode cX7_isElement q.1 = .ok q.2 := by decide +kernel
def tX7_isHeading_0 : List (Nat × (Instr × Nat)) := [(0, (.aload_n 0, 1)), (1, (.iload_n 1, 1)), (2, (.iconst 0, 1)), (3, (.invokevirtual 62, 3)), (6, (.ifCond .ne 7, 3)), (9, (.iconst 1, 1)), (10, (.goto 4, 3)), (13, (.iconst 0, 1)), (14, (.ireturn, 1))]
theorem hX7_isHeading_0 : ∀ q ∈ tX7_isHeading_0, decode cX7_isHeading q.1 = .ok q.2 := by decide +kernel
def tX7_wide_0 : List (Nat × (Instr × Nat)) := [(0, (.iload_n 0, 1)), (1, (.iconst 3, 1)), (2, (.if_icmp .ne 8, 3)), (5, (.bipush 35, 2)), (7, (.goto 15, 3)), (10, (.iload_n 0, 1)), (11, (.iconst 4, 1)), (12, (.if_icmp .ne 8, 3)), (15, (.bipush 25, 2)), (17, (.goto 5, 3)), (20, (.bipush 60, 2)), (22, (.ireturn, 1))]
theorem hX7_wide_0 : ∀ q ∈ tX7_wide_0, decode cX7_wide q.1 = .ok q.2 := by decide +kernel
def tX7_lines_0 : List (Nat × (Instr × Nat)) := [(0, (.aload_n 0, 1)), (1, (.iload_n 1, 1)), (2, (.iconst 0, 1)), (3, (.invokevirtual 62, 3)), (6, (.istore_n 2, 1)), (7, (.iload_n 2, 1)), (8, (.iconst 2, 1)), (9, (.if_icmp .eq 13, 3)), (12, (.aload_n 0, 1)), (13, (.iload_n 1, 1)), (14, (.iconst 3, 1)), (15, (.invokevirtual 62, 3)), (18, (.iconst 1, 1)), (19, (.if_icmp .ne 7, 3)), (22, (.iconst 1, 1)), (23, (.goto 21, 3)), (26, (.aload_n 0, 1)), (27, (.iload_n 1, 1)), (28, (.iconst 1, 1)), (29, (.invokevirtual 62, 3)), (32, (.iload_n 2, 1)), (33, (.invokestatic 66, 3)), (36, (.iadd, 1)), (37, (.iconst 1, 1)), (38, (.isub, 1)), (39, (.iload_n 2, 1)), (40, (.invokestatic 66, 3)), (43, (.idiv, 1)), (44, (.ireturn, 1))]
theorem hX7_lines_0 : ∀ q ∈ tX7_lines_0, decode cX7_lines q.1 = .ok q.2 := by decide +kernel
def tX7_blanks_0 : List (Nat × (Instr × Nat)) := [(0, (.aload_n 0, 1)), (1, (.iload_n 1, 1)), (2, (.iconst 0, 1)), (3, (.invokevirtual 62, 3)), (6, (.istore_n 2, 1)), (7, (.iload_n 2, 1)), (8, (.ifCond .ne 7, 3)), (11, (.iconst 2, 1)), (12, (.goto 18, 3)), (15, (.iload_n 2, 1)), (16, (.iconst 1, 1)), (17, (.if_icmp .eq 8, 3)), (20, (.iload_n 2, 1)), (21, (.iconst 2, 1)), (22, (.if_icmp .ne 7, 3)), (25, (.iconst 1, 1)), (26, (.goto 4, 3)), (29, (.iconst 0, 1)), (30, (.ireturn, 1))]
theorem hX7_blanks_0 : ∀ q ∈ tX7_blanks_0, decode cX7_blanks q.1 = .ok q.2 := by decide +kernel
def tX7_least_0 : List (Nat × (Instr × Nat)) := [(0, (.aload_n 0, 1)), (1, (.iload_n 1, 1)), (2, (.invokevirtual 69, 3)), (5, (.istore_n 2, 1)), (6, (.iload_n 2, 1)), (7, (.iconst 4, 1)), (8, (.if_icmp .ge 7, 3)), (11, (.iload_n 2, 1)), (12, (.goto 32, 3)), (15, (.aload_n 0, 1)), (16, (.iload_n 1, 1)), (17, (.iconst 0, 1)), (18, (.invokevirtual 62, 3)), (21, (.iconst 1, 1)), (22, (.if_icmp .ne 7, 3)), (25, (.iconst 2, 1)), (26, (.goto 18, 3)), (29, (.aload_n 0, 1)), (30, (.iload_n 1, 1)), (31, (.iconst 0, 1)), (32, (.invokevirtual 62, 3)), (35, (.iconst 3, 1)), (36, (.if_icmp .ne 7, 3)), (39, (.iconst 3, 1)), (40, (.goto 4, 3)), (43, (.iload_n 2, 1)), (44, (.ireturn, 1))]
theorem hX7_least_0 : ∀ q ∈ tX7_least_0, decode cX7_least q.1 = .ok q.2 := by decide +kernel
def tX7_isText_0 : List (Nat × (Instr × Nat)) := [(0, (.aload_n 0, 1)), (1, (.iload_n 1, 1)), (2, (.iconst 0, 1)), (3, (.invokevirtual 62, 3)), (6, (.iconst 1, 1)), (7, (.if_icmp .eq 13, 3)), (10, (.aload_n 0, 1)), (11, (.iload_n 1, 1)), (12, (.iconst 0, 1)), (13, (.invokevirtual 62, 3)), (16, (.iconst 3, 1)), (17, (.if_icmp .ne 7, 3)), (20, (.iconst 1, 1)), (21, (.goto 4, 3)), (24, (.iconst 0, 1)), (25, (.ireturn, 1))]
theorem hX7_isText_0 : ∀ q ∈ tX7_isText_0, decode cX7_isText q.1 = .ok q.2 := by decide +kernel
def tX7_wantsNext_0 : List (Nat × (Instr × Nat)) := [(0, (.aload_n 0, 1)), (1, (.iload_n 1, 1)), (2, (.invokevirtual 72, 3)), (5, (.ifCond .ne 38, 3)), (8, (.iload_n 1, 1)), (9, (.iconst 1, 1)), (10, (.iadd, 1)), (11, (.aload_n 0, 1)), (12, (.getfield 7, 3)), (15, (.iconst 1, 1)), (16, (.iaload, 1)), (17, (.if_icmp .eq 26, 3)), (20, (.aload_n 0, 1)), (21, (.iload_n 1, 1)), (22, (.iconst 1, 1)), (23, (.iadd, 1)), (24, (.bipush 8, 2)), (26, (.invokevirtual 62, 3)), (29, (.iconst (-1), 1)), (30, (.if_icmp .ne 13, 3)), (33, (.aload_n 0, 1)), (34, (.iload_n 1, 1)), (35, (.iconst 1, 1)), (36, (.iadd, 1)), (37, (.invokevirtual 76, 3)), (40, (.ifCond .eq 5, 3)), (43, (.iconst 0, 1)), (44, (.ireturn, 1)), (45, (.aload_n 0, 1)), (46, (.iload_n 1, 1)), (47, (.invokevirtual 76, 3)), (50, (.ifCond .ne 27, 3)), (53, (.aload_n 0, 1)), (54, (.iload_n 1, 1)), (55, (.iconst 1, 1)), (56, (.iadd, 1)), (57, (.iconst 0, 1)), (58, (.invokevirtual 62, 3)), (61, (.iconst 4, 1)), (62, (.if_icmp .eq 15, 3)), (65, (.aload_n 0, 1)), (66, (.iload_n 1, 1)), (67, (.iconst 1, 1)), (68, (.iadd, 1)), (69, (.iconst 0, 1)), (70, (.invokevirtual 62, 3)), (73, (.iconst 3, 1)), (74, (.if_icmp .ne 7, 3)), (77, (.iconst 1, 1)), (78, (.goto 4, 3)), (81, (.iconst 0, 1)), (82, (.ireturn, 1))]
theorem hX7_wantsNext_0 : ∀ q ∈ tX7_wantsNext_0, decode cX7_wantsNext q.1 = .ok q.2 := by decide +kernel
def tX7_need_0 : List (Nat × (Instr × Nat)) := [(0, (.iload_n 1, 1)), (1, (.istore_n 2, 1)), (2, (.iconst 0, 1)), (3, (.istore_n 3, 1)), (4, (.aload_n 0, 1)), (5, (.iload_n 2, 1)), (6, (.invokevirtual 79, 3)), (9, (.ifCond .eq 25, 3)), (12, (.iload_n 3, 1)), (13, (.aload_n 0, 1)), (14, (.iload_n 2, 1)), (15, (.invokevirtual 69, 3)), (18, (.aload_n 0, 1)), (19, (.iload_n 2, 1)), (20, (.iconst 1, 1)), (21, (.iadd, 1)), (22, (.invokevirtual 82, 3)), (25, (.iadd, 1)), (26, (.iadd, 1)), (27, (.istore_n 3, 1)), (28, (.iinc 2 1, 3)), (31, (.goto (-27), 3)), (34, (.iload_n 3, 1)), (35, (.aload_n 0, 1)), (36, (.iload_n 2, 1)), (37, (.invokevirtual 85, 3)), (40, (.iadd, 1)), (41, (.ireturn, 1))]
theorem hX7_need_0 : ∀ q ∈ tX7_need_0, decode cX7_need q.1 = .ok q.2 := by decide +kernel
def tX7_sceneMany_0 : List (Nat × (Instr × Nat)) := [(0, (.iconst 0, 1)), (1, (.istore_n 1, 1)), (2, (.iconst 0, 1)), (3, (.istore_n 2, 1)), (4, (.iload_n 2, 1)), (5, (.aload_n 0, 1)), (6, (.getfield 7, 3)), (9, (.iconst 1, 1)), (10, (.iaload, 1)), (11, (.if_icmp .ge 25, 3)), (14, (.iload_n 1, 1)), (15, (.aload_n 0, 1)), (16, (.iload_n 2, 1)), (17, (.invokevirtual 76, 3)), (20, (.ifCond .eq 7, 3)), (23, (.iconst 1, 1)), (24, (.goto 4, 3)), (27, (.iconst 0, 1)), (28, (.iadd, 1)), (29, (.istore_n 1, 1)), (30, (.iinc 2 1, 3)), (33, (.goto (-29), 3)), (36, (.iload_n 1, 1)), (37, (.ireturn, 1))]
theorem hX7_sceneMany_0 : ∀ q ∈ tX7_sceneMany_0, decode cX7_sceneMany q.1 = .ok q.2 := by decide +kernel
def tX7_headingOf_0 : List (Nat × (Instr × Nat)) := [(0, (.iload_n 1, 1)), (1, (.istore_n 2, 1)), (2, (.iconst 0, 1)), (3, (.istore_n 3, 1)), (4, (.iload_n 3, 1)), (5, (.aload_n 0, 1)), (6, (.getfield 7, 3)), (9, (.iconst 1, 1)), (10, (.iaload, 1)), (11, (.if_icmp .ge 26, 3)), (14, (.aload_n 0, 1)), (15, (.iload_n 3, 1)), (16, (.invokevirtual 76, 3)), (19, (.ifCond .eq 12, 3)), (22, (.iload_n 2, 1)), (23, (.ifCond .ne 5, 3)), (26, (.iload_n 3, 1)), (27, (.ireturn, 1)), (28, (.iinc 2 (-1), 3)), (31, (.iinc 3 1, 3)), (34, (.goto (-30), 3)), (37, (.aload_n 0, 1)), (38, (.getfield 7, 3)), (41, (.iconst 1, 1)), (42, (.iaload, 1)), (43, (.ireturn, 1))]
theorem hX7_headingOf_0 : ∀ q ∈ tX7_headingOf_0, decode cX7_headingOf q.1 = .ok q.2 := by decide +kernel
def tX7_sceneOf_0 : List (Nat × (Instr × Nat)) := [(0, (.iconst (-1), 1)), (1, (.istore_n 2, 1)), (2, (.iconst 0, 1)), (3, (.istore_n 3, 1)), (4, (.iload_n 3, 1)), (5, (.iload_n 1, 1)), (6, (.if_icmp .gt 25, 3)), (9, (.iload_n 2, 1)), (10, (.aload_n 0, 1)), (11, (.iload_n 3, 1)), (12, (.invokevirtual 76, 3)), (15, (.ifCond .eq 7, 3)), (18, (.iconst 1, 1)), (19, (.goto 4, 3)), (22, (.iconst 0, 1)), (23, (.iadd, 1)), (24, (.istore_n 2, 1)), (25, (.iinc 3 1, 3)), (28, (.goto (-24), 3)), (31, (.iload_n 2, 1)), (32, (.ireturn, 1))]
theorem hX7_sceneOf_0 : ∀ q ∈ tX7_sceneOf_0, decode cX7_sceneOf q.1 = .ok q.2 := by decide +kernel
def tX7_isLocked_0 : List (Nat × (Instr × Nat)) := [(0, (.aload_n 0, 1)), (1, (.iload_n 1, 1)), (2, (.invokevirtual 76, 3)), (5, (.ifCond .eq 17, 3)), (8, (.aload_n 0, 1)), (9, (.iload_n 1, 1)), (10, (.iconst 4, 1)), (11, (.invokevirtual 62, 3)), (14, (.iconst 1, 1)), (15, (.if_icmp .ne 7, 3)), (18, (.iconst 1, 1)), (19, (.goto 4, 3)), (22, (.iconst 0, 1)), (23, (.ireturn, 1))]
theorem hX7_isLocked_0 : ∀ q ∈ tX7_isLocked_0, decode cX7_isLocked q.1 = .ok q.2 := by decide +kernel
def tX7_label_0 : List (Nat × (Instr × Nat)) := [(0, (.aload_n 0, 1)), (1, (.iload_n 1, 1)), (2, (.invokevirtual 88, 3)), (5, (.ifCond .eq 12, 3)), (8, (.aload_n 0, 1)), (9, (.iload_n 1, 1)), (10, (.iconst 5, 1)), (11, (.iload_n 2, 1)), (12, (.iadd, 1)), (13, (.invokevirtual 62, 3)), (16, (.ireturn, 1)), (17, (.iconst 0, 1)), (18, (.istore_n 3, 1)), (19, (.iload_n 1, 1)), (20, (.istore 4, 2)), (22, (.iload 4, 2)), (24, (.ifCond .lt 35, 3)), (27, (.aload_n 0, 1)), (28, (.iload 4, 2)), (30, (.invokevirtual 88, 3)), (33, (.ifCond .ne 26, 3)), (36, (.iload_n 3, 1)), (37, (.aload_n 0, 1)), (38, (.iload 4, 2)), (40, (.invokevirtual 76, 3)), (43, (.ifCond .eq 7, 3)), (46, (.iconst 1, 1)), (47, (.goto 4, 3)), (50, (.iconst 0, 1)), (51, (.iadd, 1)), (52, (.istore_n 3, 1)), (53, (.iinc 4 (-1), 3)), (56, (.goto (-34), 3)), (59, (.iload_n 1, 1)), (60, (.istore 5, 2)), (62, (.iload 5, 2)), (64, (.aload_n 0, 1)), (65, (.getfield 7, 3)), (68, (.iconst 1, 1)), (69, (.iaload, 1)), (70, (.if_icmp .ge 18, 3)), (73, (.aload_n 0, 1)), (74, (.iload 5, 2)), (76, (.invokevirtual 88, 3)), (79, (.ifCond .ne 9, 3)), (82, (.iinc 5 1, 3)), (85, (.goto (-23), 3)), (88, (.iload 4, 2)), (90, (.ifCond .lt 7, 3)), (93, (.iconst 1, 1)), (94, (.goto 4, 3)), (97, (.iconst 0, 1)), (98, (.istore 6, 2)), (100, (.iload 5, 2)), (102, (.aload_n 0, 1)), (103, (.getfield 7, 3)), (106, (.iconst 1, 1)), (107, (.iaload, 1)), (108, (.if_icmp .ne 7, 3)), (111, (.iconst 1, 1))]
theorem hX7_label_0 : ∀ q ∈ tX7_label_0, decode cX7_label q.1 = .ok q.2 := by decide +kernel
def tX7_label_1 : List (Nat × (Instr × Nat)) := [(112, (.goto 4, 3)), (115, (.iconst 0, 1)), (116, (.istore 7, 2)), (118, (.iload 6, 2)), (120, (.ifCond .ne 18, 3)), (123, (.iload 7, 2)), (125, (.ifCond .eq 13, 3)), (128, (.iload_n 2, 1)), (129, (.ifCond .ne 7, 3)), (132, (.iload_n 3, 1)), (133, (.goto 4, 3)), (136, (.iconst 0, 1)), (137, (.ireturn, 1)), (138, (.iload 6, 2)), (140, (.ifCond .eq 13, 3)), (143, (.aload_n 0, 1)), (144, (.iload 4, 2)), (146, (.iconst 5, 1)), (147, (.invokevirtual 62, 3)), (150, (.goto 4, 3)), (153, (.iconst 0, 1)), (154, (.istore 8, 2)), (156, (.iload 6, 2)), (158, (.ifCond .eq 15, 3)), (161, (.aload_n 0, 1)), (162, (.iload 4, 2)), (164, (.iconst 5, 1)), (165, (.iload_n 2, 1)), (166, (.iadd, 1)), (167, (.invokevirtual 62, 3)), (170, (.goto 4, 3)), (173, (.iconst 0, 1)), (174, (.istore 9, 2)), (176, (.iload 7, 2)), (178, (.ifCond .ne 19, 3)), (181, (.aload_n 0, 1)), (182, (.iload 5, 2)), (184, (.iconst 5, 1)), (185, (.invokevirtual 62, 3)), (188, (.iload 8, 2)), (190, (.if_icmp .ne 7, 3)), (193, (.iconst 1, 1)), (194, (.goto 4, 3)), (197, (.iconst 0, 1)), (198, (.istore 10, 2)), (200, (.iload_n 2, 1)), (201, (.ifCond .ne 6, 3)), (204, (.iload 8, 2)), (206, (.ireturn, 1)), (207, (.iload 10, 2)), (209, (.ifCond .eq 19, 3)), (212, (.iload 9, 2)), (214, (.iload_n 2, 1)), (215, (.iconst 2, 1)), (216, (.if_icmp .ne 7, 3)), (219, (.iload_n 3, 1)), (220, (.goto 4, 3)), (223, (.iconst 0, 1)), (224, (.iadd, 1)), (225, (.goto 16, 3))]
theorem hX7_label_1 : ∀ q ∈ tX7_label_1, decode cX7_label q.1 = .ok q.2 := by decide +kernel
def tX7_label_2 : List (Nat × (Instr × Nat)) := [(228, (.iload_n 2, 1)), (229, (.iconst 1, 1)), (230, (.if_icmp .ne 10, 3)), (233, (.iload 9, 2)), (235, (.iload_n 3, 1)), (236, (.iadd, 1)), (237, (.goto 4, 3)), (240, (.iconst 0, 1)), (241, (.ireturn, 1))]
theorem hX7_label_2 : ∀ q ∈ tX7_label_2, decode cX7_label q.1 = .ok q.2 := by decide +kernel
def tX7_areTwo_0 : List (Nat × (Instr × Nat)) := [(0, (.aload_n 0, 1)), (1, (.iload_n 1, 1)), (2, (.iconst 0, 1)), (3, (.invokevirtual 91, 3)), (6, (.aload_n 0, 1)), (7, (.iload_n 2, 1)), (8, (.iconst 0, 1)), (9, (.invokevirtual 91, 3)), (12, (.if_icmp .ne 37, 3)), (15, (.aload_n 0, 1)), (16, (.iload_n 1, 1)), (17, (.iconst 1, 1)), (18, (.invokevirtual 91, 3)), (21, (.aload_n 0, 1)), (22, (.iload_n 2, 1)), (23, (.iconst 1, 1)), (24, (.invokevirtual 91, 3)), (27, (.if_icmp .ne 22, 3)), (30, (.aload_n 0, 1)), (31, (.iload_n 1, 1)), (32, (.iconst 2, 1)), (33, (.invokevirtual 91, 3)), (36, (.aload_n 0, 1)), (37, (.iload_n 2, 1)), (38, (.iconst 2, 1)), (39, (.invokevirtual 91, 3)), (42, (.if_icmp .ne 7, 3)), (45, (.iconst 1, 1)), (46, (.goto 4, 3)), (49, (.iconst 0, 1)), (50, (.ireturn, 1))]
theorem hX7_areTwo_0 : ∀ q ∈ tX7_areTwo_0, decode cX7_areTwo q.1 = .ok q.2 := by decide +kernel
def tX7_hasTwo_0 : List (Nat × (Instr × Nat)) := [(0, (.iconst 0, 1)), (1, (.istore_n 1, 1)), (2, (.iconst 0, 1)), (3, (.istore_n 2, 1)), (4, (.iload_n 2, 1)), (5, (.aload_n 0, 1)), (6, (.getfield 7, 3)), (9, (.iconst 1, 1)), (10, (.iaload, 1)), (11, (.if_icmp .ge 57, 3)), (14, (.iconst 0, 1)), (15, (.istore_n 3, 1)), (16, (.iload_n 3, 1)), (17, (.iload_n 2, 1)), (18, (.if_icmp .ge 44, 3)), (21, (.iload_n 1, 1)), (22, (.ifCond .ne 28, 3)), (25, (.aload_n 0, 1)), (26, (.iload_n 2, 1)), (27, (.invokevirtual 76, 3)), (30, (.ifCond .eq 24, 3)), (33, (.aload_n 0, 1)), (34, (.iload_n 3, 1)), (35, (.invokevirtual 76, 3)), (38, (.ifCond .eq 16, 3)), (41, (.aload_n 0, 1)), (42, (.iload_n 3, 1)), (43, (.iload_n 2, 1)), (44, (.invokevirtual 94, 3)), (47, (.ifCond .eq 7, 3)), (50, (.iconst 1, 1)), (51, (.goto 4, 3)), (54, (.iconst 0, 1)), (55, (.istore_n 1, 1)), (56, (.iinc 3 1, 3)), (59, (.goto (-43), 3)), (62, (.iinc 2 1, 3)), (65, (.goto (-61), 3)), (68, (.iload_n 1, 1)), (69, (.ireturn, 1))]
theorem hX7_hasTwo_0 : ∀ q ∈ tX7_hasTwo_0, decode cX7_hasTwo q.1 = .ok q.2 := by decide +kernel
def tX7_isCarried_0 : List (Nat × (Instr × Nat)) := [(0, (.aload_n 0, 1)), (1, (.iload_n 1, 1)), (2, (.iconst 0, 1)), (3, (.invokevirtual 62, 3)), (6, (.iconst 2, 1)), (7, (.if_icmp .ne 12, 3)), (10, (.aload_n 0, 1)), (11, (.iload_n 1, 1)), (12, (.invokevirtual 98, 3)), (15, (.iconst (-1), 1)), (16, (.if_icmp .ne 5, 3)), (19, (.iconst 0, 1)), (20, (.ireturn, 1)), (21, (.iload_n 1, 1)), (22, (.iconst 1, 1)), (23, (.isub, 1)), (24, (.istore_n 2, 1)), (25, (.aload_n 0, 1)), (26, (.iload_n 2, 1)), (27, (.invokevirtual 76, 3)), (30, (.ifCond .ne 19, 3)), (33, (.aload_n 0, 1)), (34, (.iload_n 2, 1)), (35, (.iconst 0, 1)), (36, (.invokevirtual 62, 3)), (39, (.iconst 2, 1)), (40, (.if_icmp .eq 9, 3)), (43, (.iinc 2 (-1), 3)), (46, (.goto (-21), 3)), (49, (.aload_n 0, 1)), (50, (.iload_n 2, 1)), (51, (.invokevirtual 76, 3)), (54, (.ifCond .ne 22, 3)), (57, (.aload_n 0, 1)), (58, (.iload_n 2, 1)), (59, (.iconst 2, 1)), (60, (.invokevirtual 62, 3)), (63, (.aload_n 0, 1)), (64, (.iload_n 1, 1)), (65, (.iconst 2, 1)), (66, (.invokevirtual 62, 3)), (69, (.if_icmp .ne 7, 3)), (72, (.iconst 1, 1)), (73, (.goto 4, 3)), (76, (.iconst 0, 1)), (77, (.ireturn, 1))]
theorem hX7_isCarried_0 : ∀ q ∈ tX7_isCarried_0, decode cX7_isCarried q.1 = .ok q.2 := by decide +kernel
def tX7_newPage_0 : List (Nat × (Instr × Nat)) := [(0, (.aload_n 0, 1)), (1, (.getfield 31, 3)), (4, (.aload_n 0, 1)), (5, (.getfield 101, 3)), (8, (.iconst 0, 1)), (9, (.iastore, 1)), (10, (.aload_n 0, 1)), (11, (.getfield 34, 3)), (14, (.aload_n 0, 1)), (15, (.getfield 101, 3)), (18, (.iconst (-1), 1)), (19, (.iastore, 1)), (20, (.aload_n 0, 1)), (21, (.getfield 37, 3)), (24, (.aload_n 0, 1)), (25, (.getfield 101, 3)), (28, (.iconst 0, 1)), (29, (.iastore, 1)), (30, (.aload_n 0, 1)), (31, (.dup, 1)), (32, (.getfield 101, 3)), (35, (.iconst 1, 1)), (36, (.iadd, 1)), (37, (.putfield 101, 3)), (40, (.return_, 1))]
theorem hX7_newPage_0 : ∀ q ∈ tX7_newPage_0, decode cX7_newPage q.1 = .ok q.2 := by decide +kernel
def tX7_sets_0 : List (Nat × (Instr × Nat)) := [(0, (.aload_n 0, 1)), (1, (.getfield 101, 3)), (4, (.iconst 1, 1)), (5, (.isub, 1)), (6, (.istore_n 3, 1)), (7, (.aload_n 0, 1)), (8, (.iload_n 1, 1)), (9, (.bipush 8, 2)), (11, (.invokevirtual 62, 3)), (14, (.iconst (-1), 1)), (15, (.if_icmp .eq 16, 3)), (18, (.aload_n 0, 1)), (19, (.getfield 31, 3)), (22, (.iload_n 3, 1)), (23, (.iaload, 1)), (24, (.ifCond .le 7, 3)), (27, (.iconst 1, 1)), (28, (.goto 4, 3)), (31, (.iconst 0, 1)), (32, (.istore 4, 2)), (34, (.aload_n 0, 1)), (35, (.getfield 31, 3)), (38, (.iload_n 3, 1)), (39, (.iaload, 1)), (40, (.ifCond .le 29, 3)), (43, (.aload_n 0, 1)), (44, (.iload_n 1, 1)), (45, (.invokevirtual 82, 3)), (48, (.aload_n 0, 1)), (49, (.iload_n 1, 1)), (50, (.invokevirtual 104, 3)), (53, (.iadd, 1)), (54, (.iload_n 2, 1)), (55, (.aload_n 0, 1)), (56, (.getfield 31, 3)), (59, (.iload_n 3, 1)), (60, (.iaload, 1)), (61, (.isub, 1)), (62, (.if_icmp .le 7, 3)), (65, (.iconst 1, 1)), (66, (.goto 4, 3)), (69, (.iconst 0, 1)), (70, (.istore 5, 2)), (72, (.iload 4, 2)), (74, (.ifCond .ne 8, 3)), (77, (.iload 5, 2)), (79, (.ifCond .eq 10, 3)), (82, (.aload_n 0, 1)), (83, (.invokevirtual 107, 3)), (86, (.iinc 3 1, 3)), (89, (.aload_n 0, 1)), (90, (.iload_n 1, 1)), (91, (.invokevirtual 69, 3)), (94, (.istore 6, 2)), (96, (.aload_n 0, 1)), (97, (.getfield 31, 3)), (100, (.iload_n 3, 1)), (101, (.iaload, 1)), (102, (.ifCond .ne 7, 3)), (105, (.iconst 0, 1))]
theorem hX7_sets_0 : ∀ q ∈ tX7_sets_0, decode cX7_sets q.1 = .ok q.2 := by decide +kernel
def tX7_sets_1 : List (Nat × (Instr × Nat)) := [(106, (.goto 15, 3)), (109, (.aload_n 0, 1)), (110, (.getfield 31, 3)), (113, (.iload_n 3, 1)), (114, (.iaload, 1)), (115, (.aload_n 0, 1)), (116, (.iload_n 1, 1)), (117, (.invokevirtual 82, 3)), (120, (.iadd, 1)), (121, (.istore 7, 2)), (123, (.iload_n 2, 1)), (124, (.iload 7, 2)), (126, (.isub, 1)), (127, (.istore 8, 2)), (129, (.aload_n 0, 1)), (130, (.iload_n 1, 1)), (131, (.iconst 0, 1)), (132, (.invokevirtual 62, 3)), (135, (.iconst 3, 1)), (136, (.if_icmp .ne 7, 3)), (139, (.iconst 1, 1)), (140, (.goto 4, 3)), (143, (.iconst 0, 1)), (144, (.istore 9, 2)), (146, (.iload 6, 2)), (148, (.iload 8, 2)), (150, (.if_icmp .gt 8, 3)), (153, (.iload 6, 2)), (155, (.goto 27, 3)), (158, (.iload 8, 2)), (160, (.iload 9, 2)), (162, (.isub, 1)), (163, (.iload 6, 2)), (165, (.iconst 2, 1)), (166, (.isub, 1)), (167, (.if_icmp .ge 11, 3)), (170, (.iload 8, 2)), (172, (.iload 9, 2)), (174, (.isub, 1)), (175, (.goto 7, 3)), (178, (.iload 6, 2)), (180, (.iconst 2, 1)), (181, (.isub, 1)), (182, (.istore 10, 2)), (184, (.aload_n 0, 1)), (185, (.getfield 22, 3)), (188, (.iload_n 1, 1)), (189, (.iload_n 3, 1)), (190, (.iastore, 1)), (191, (.aload_n 0, 1)), (192, (.getfield 25, 3)), (195, (.iload_n 1, 1)), (196, (.iload 7, 2)), (198, (.iastore, 1)), (199, (.aload_n 0, 1)), (200, (.getfield 28, 3)), (203, (.iload_n 1, 1)), (204, (.iload 10, 2)), (206, (.iastore, 1)), (207, (.aload_n 0, 1))]
theorem hX7_sets_1 : ∀ q ∈ tX7_sets_1, decode cX7_sets q.1 = .ok q.2 := by decide +kernel
def tX7_sets_2 : List (Nat × (Instr × Nat)) := [(208, (.getfield 34, 3)), (211, (.iload_n 3, 1)), (212, (.aload_n 0, 1)), (213, (.getfield 34, 3)), (216, (.iload_n 3, 1)), (217, (.iaload, 1)), (218, (.iconst (-1), 1)), (219, (.if_icmp .ne 7, 3)), (222, (.iload_n 1, 1)), (223, (.goto 9, 3)), (226, (.aload_n 0, 1)), (227, (.getfield 34, 3)), (230, (.iload_n 3, 1)), (231, (.iaload, 1)), (232, (.iastore, 1)), (233, (.aload_n 0, 1)), (234, (.getfield 37, 3)), (237, (.iload_n 3, 1)), (238, (.dup2, 1)), (239, (.iaload, 1)), (240, (.iconst 1, 1)), (241, (.iadd, 1)), (242, (.iastore, 1)), (243, (.aload_n 0, 1)), (244, (.getfield 31, 3)), (247, (.iload_n 3, 1)), (248, (.iload 7, 2)), (250, (.iload 10, 2)), (252, (.iadd, 1)), (253, (.iastore, 1)), (254, (.iload 10, 2)), (256, (.iload 6, 2)), (258, (.if_icmp .ge 44, 3)), (261, (.aload_n 0, 1)), (262, (.getfield 31, 3)), (265, (.iload_n 3, 1)), (266, (.dup2, 1)), (267, (.iaload, 1)), (268, (.iload 9, 2)), (270, (.iadd, 1)), (271, (.iastore, 1)), (272, (.aload_n 0, 1)), (273, (.dup, 1)), (274, (.getfield 110, 3)), (277, (.iconst 1, 1)), (278, (.iadd, 1)), (279, (.putfield 110, 3)), (282, (.aload_n 0, 1)), (283, (.invokevirtual 107, 3)), (286, (.aload_n 0, 1)), (287, (.getfield 31, 3)), (290, (.iload_n 3, 1)), (291, (.iconst 1, 1)), (292, (.iadd, 1)), (293, (.iload 6, 2)), (295, (.iload 10, 2)), (297, (.isub, 1)), (298, (.iload 9, 2)), (300, (.iadd, 1)), (301, (.iastore, 1))]
theorem hX7_sets_2 : ∀ q ∈ tX7_sets_2, decode cX7_sets q.1 = .ok q.2 := by decide +kernel
def tX7_sets_3 : List (Nat × (Instr × Nat)) := [(302, (.return_, 1))]
theorem hX7_sets_3 : ∀ q ∈ tX7_sets_3, decode cX7_sets q.1 = .ok q.2 := by decide +kernel
def tX7_setsAll_0 : List (Nat × (Instr × Nat)) := [(0, (.aload_n 0, 1)), (1, (.iconst 0, 1)), (2, (.putfield 101, 3)), (5, (.aload_n 0, 1)), (6, (.iconst 0, 1)), (7, (.putfield 110, 3)), (10, (.iconst 0, 1)), (11, (.istore_n 2, 1)), (12, (.iload_n 2, 1)), (13, (.aload_n 0, 1)), (14, (.getfield 7, 3)), (17, (.iconst 1, 1)), (18, (.iaload, 1)), (19, (.if_icmp .ge 23, 3)), (22, (.iload_n 2, 1)), (23, (.ifCond .ne 7, 3)), (26, (.aload_n 0, 1)), (27, (.invokevirtual 107, 3)), (30, (.aload_n 0, 1)), (31, (.iload_n 2, 1)), (32, (.iload_n 1, 1)), (33, (.invokevirtual 113, 3)), (36, (.iinc 2 1, 3)), (39, (.goto (-27), 3)), (42, (.return_, 1))]
theorem hX7_setsAll_0 : ∀ q ∈ tX7_setsAll_0, decode cX7_setsAll q.1 = .ok q.2 := by decide +kernel
def tX7_pagesIf_0 : List (Nat × (Instr × Nat)) := [(0, (.aload_n 0, 1)), (1, (.iload_n 1, 1)), (2, (.invokevirtual 117, 3)), (5, (.aload_n 0, 1)), (6, (.getfield 101, 3)), (9, (.ireturn, 1))]
theorem hX7_pagesIf_0 : ∀ q ∈ tX7_pagesIf_0, decode cX7_pagesIf q.1 = .ok q.2 := by decide +kernel
def tX7_marks_0 : List (Nat × (Instr × Nat)) := [(0, (.iconst 0, 1)), (1, (.istore_n 1, 1)), (2, (.iconst 0, 1)), (3, (.istore_n 2, 1)), (4, (.iload_n 2, 1)), (5, (.aload_n 0, 1)), (6, (.getfield 7, 3)), (9, (.iconst 1, 1)), (10, (.iaload, 1)), (11, (.if_icmp .ge 28, 3)), (14, (.iload_n 1, 1)), (15, (.aload_n 0, 1)), (16, (.iload_n 2, 1)), (17, (.bipush 8, 2)), (19, (.invokevirtual 62, 3)), (22, (.iconst (-1), 1)), (23, (.if_icmp .ne 7, 3)), (26, (.iconst 0, 1)), (27, (.goto 4, 3)), (30, (.iconst 1, 1)), (31, (.iadd, 1)), (32, (.istore_n 1, 1)), (33, (.iinc 2 1, 3)), (36, (.goto (-32), 3)), (39, (.iload_n 1, 1)), (40, (.ireturn, 1))]
theorem hX7_marks_0 : ∀ q ∈ tX7_marks_0, decode cX7_marks q.1 = .ok q.2 := by decide +kernel
def tX7_pageLabel_0 : List (Nat × (Instr × Nat)) := [(0, (.aload_n 0, 1)), (1, (.invokevirtual 121, 3)), (4, (.ifCond .ne 15, 3)), (7, (.iload_n 2, 1)), (8, (.ifCond .ne 9, 3)), (11, (.iload_n 1, 1)), (12, (.iconst 1, 1)), (13, (.iadd, 1)), (14, (.goto 4, 3)), (17, (.iconst 0, 1)), (18, (.ireturn, 1)), (19, (.iload_n 1, 1)), (20, (.istore_n 3, 1)), (21, (.iload_n 3, 1)), (22, (.ifCond .lt 35, 3)), (25, (.aload_n 0, 1)), (26, (.getfield 34, 3)), (29, (.iload_n 3, 1)), (30, (.iaload, 1)), (31, (.iconst (-1), 1)), (32, (.if_icmp .eq 19, 3)), (35, (.aload_n 0, 1)), (36, (.aload_n 0, 1)), (37, (.getfield 34, 3)), (40, (.iload_n 3, 1)), (41, (.iaload, 1)), (42, (.bipush 8, 2)), (44, (.invokevirtual 62, 3)), (47, (.iconst (-1), 1)), (48, (.if_icmp .ne 9, 3)), (51, (.iinc 3 (-1), 3)), (54, (.goto (-33), 3)), (57, (.iload_n 3, 1)), (58, (.ifCond .ge 13, 3)), (61, (.iload_n 2, 1)), (62, (.ifCond .ne 7, 3)), (65, (.iconst 0, 1)), (66, (.goto 4, 3)), (69, (.iload_n 1, 1)), (70, (.ireturn, 1)), (71, (.iload_n 2, 1)), (72, (.ifCond .ne 18, 3)), (75, (.aload_n 0, 1)), (76, (.aload_n 0, 1)), (77, (.getfield 34, 3)), (80, (.iload_n 3, 1)), (81, (.iaload, 1)), (82, (.bipush 8, 2)), (84, (.invokevirtual 62, 3)), (87, (.goto 6, 3)), (90, (.iload_n 1, 1)), (91, (.iload_n 3, 1)), (92, (.isub, 1)), (93, (.ireturn, 1))]
theorem hX7_pageLabel_0 : ∀ q ∈ tX7_pageLabel_0, decode cX7_pageLabel q.1 = .ok q.2 := by decide +kernel
def tX7_comes_0 : List (Nat × (Instr × Nat)) := [(0, (.iconst 2, 1)), (1, (.bipush 9, 2)), (3, (.aload_n 0, 1)), (4, (.getfield 7, 3)), (7, (.iconst 1, 1)), (8, (.iaload, 1)), (9, (.imul, 1)), (10, (.iadd, 1)), (11, (.iconst 1, 1)), (12, (.isub, 1)), (13, (.istore 5, 2)), (15, (.iload 5, 2)), (17, (.iconst 2, 1)), (18, (.bipush 9, 2)), (20, (.iload_n 1, 1)), (21, (.imul, 1)), (22, (.iadd, 1)), (23, (.if_icmp .lt 26, 3)), (26, (.aload_n 0, 1)), (27, (.getfield 7, 3)), (30, (.iload 5, 2)), (32, (.bipush 9, 2)), (34, (.iadd, 1)), (35, (.aload_n 0, 1)), (36, (.getfield 7, 3)), (39, (.iload 5, 2)), (41, (.iaload, 1)), (42, (.iastore, 1)), (43, (.iinc 5 (-1), 3)), (46, (.goto (-31), 3)), (49, (.iconst 0, 1)), (50, (.istore 5, 2)), (52, (.iload 5, 2)), (54, (.bipush 9, 2)), (56, (.if_icmp .ge 17, 3)), (59, (.aload_n 0, 1)), (60, (.iload_n 1, 1)), (61, (.iload 5, 2)), (63, (.iconst 0, 1)), (64, (.invokevirtual 125, 3)), (67, (.iinc 5 1, 3)), (70, (.goto (-18), 3)), (73, (.aload_n 0, 1)), (74, (.iload_n 1, 1)), (75, (.iconst 0, 1)), (76, (.iload_n 2, 1)), (77, (.invokevirtual 125, 3)), (80, (.aload_n 0, 1)), (81, (.iload_n 1, 1)), (82, (.iconst 1, 1)), (83, (.iload_n 3, 1)), (84, (.invokevirtual 125, 3)), (87, (.aload_n 0, 1)), (88, (.iload_n 1, 1)), (89, (.iconst 2, 1)), (90, (.iload 4, 2)), (92, (.invokevirtual 125, 3)), (95, (.aload_n 0, 1)), (96, (.iload_n 1, 1)), (97, (.bipush 8, 2))]
theorem hX7_comes_0 : ∀ q ∈ tX7_comes_0, decode cX7_comes q.1 = .ok q.2 := by decide +kernel
def tX7_comes_1 : List (Nat × (Instr × Nat)) := [(99, (.iconst (-1), 1)), (100, (.invokevirtual 125, 3)), (103, (.aload_n 0, 1)), (104, (.getfield 7, 3)), (107, (.iconst 1, 1)), (108, (.dup2, 1)), (109, (.iaload, 1)), (110, (.iconst 1, 1)), (111, (.iadd, 1)), (112, (.iastore, 1)), (113, (.return_, 1))]
theorem hX7_comes_1 : ∀ q ∈ tX7_comes_1, decode cX7_comes q.1 = .ok q.2 := by decide +kernel
def tX7_goes_0 : List (Nat × (Instr × Nat)) := [(0, (.aload_n 0, 1)), (1, (.iload_n 1, 1)), (2, (.bipush 8, 2)), (4, (.invokevirtual 62, 3)), (7, (.istore_n 2, 1)), (8, (.aload_n 0, 1)), (9, (.getfield 7, 3)), (12, (.iconst 1, 1)), (13, (.dup2, 1)), (14, (.iaload, 1)), (15, (.iconst 1, 1)), (16, (.isub, 1)), (17, (.iastore, 1)), (18, (.iconst 2, 1)), (19, (.bipush 9, 2)), (21, (.iload_n 1, 1)), (22, (.imul, 1)), (23, (.iadd, 1)), (24, (.istore_n 3, 1)), (25, (.iload_n 3, 1)), (26, (.iconst 2, 1)), (27, (.bipush 9, 2)), (29, (.aload_n 0, 1)), (30, (.getfield 7, 3)), (33, (.iconst 1, 1)), (34, (.iaload, 1)), (35, (.imul, 1)), (36, (.iadd, 1)), (37, (.if_icmp .ge 24, 3)), (40, (.aload_n 0, 1)), (41, (.getfield 7, 3)), (44, (.iload_n 3, 1)), (45, (.aload_n 0, 1)), (46, (.getfield 7, 3)), (49, (.iload_n 3, 1)), (50, (.bipush 9, 2)), (52, (.iadd, 1)), (53, (.iaload, 1)), (54, (.iastore, 1)), (55, (.iinc 3 1, 3)), (58, (.goto (-33), 3)), (61, (.iload_n 2, 1)), (62, (.iconst (-1), 1)), (63, (.if_icmp .eq 32, 3)), (66, (.iload_n 1, 1)), (67, (.aload_n 0, 1)), (68, (.getfield 7, 3)), (71, (.iconst 1, 1)), (72, (.iaload, 1)), (73, (.if_icmp .ge 22, 3)), (76, (.aload_n 0, 1)), (77, (.iload_n 1, 1)), (78, (.bipush 8, 2)), (80, (.invokevirtual 62, 3)), (83, (.iconst (-1), 1)), (84, (.if_icmp .ne 11, 3)), (87, (.aload_n 0, 1)), (88, (.iload_n 1, 1)), (89, (.bipush 8, 2)), (91, (.iload_n 2, 1))]
theorem hX7_goes_0 : ∀ q ∈ tX7_goes_0, decode cX7_goes q.1 = .ok q.2 := by decide +kernel
def tX7_goes_1 : List (Nat × (Instr × Nat)) := [(92, (.invokevirtual 125, 3)), (95, (.return_, 1))]
theorem hX7_goes_1 : ∀ q ∈ tX7_goes_1, decode cX7_goes q.1 = .ok q.2 := by decide +kernel
def tX7_isLength_0 : List (Nat × (Instr × Nat)) := [(0, (.iload_n 0, 1)), (1, (.iconst 1, 1)), (2, (.sipush 400, 3)), (5, (.invokestatic 58, 3)), (8, (.ireturn, 1))]
theorem hX7_isLength_0 : ∀ q ∈ tX7_isLength_0, decode cX7_isLength q.1 = .ok q.2 := by decide +kernel
def tX7_insert_0 : List (Nat × (Instr × Nat)) := [(0, (.iload_n 1, 1)), (1, (.iconst 0, 1)), (2, (.aload_n 0, 1)), (3, (.getfield 7, 3)), (6, (.iconst 1, 1)), (7, (.iaload, 1)), (8, (.invokestatic 58, 3)), (11, (.ifCond .ne 9, 3)), (14, (.aload_n 0, 1)), (15, (.iconst 1, 1)), (16, (.invokevirtual 129, 3)), (19, (.ireturn, 1)), (20, (.iload_n 2, 1)), (21, (.iconst 0, 1)), (22, (.iconst 4, 1)), (23, (.invokestatic 58, 3)), (26, (.ifCond .eq 35, 3)), (29, (.iload_n 3, 1)), (30, (.invokestatic 132, 3)), (33, (.ifCond .eq 28, 3)), (36, (.iload_n 2, 1)), (37, (.iconst 2, 1)), (38, (.if_icmp .ne 17, 3)), (41, (.iload 4, 2)), (43, (.iconst 0, 1)), (44, (.bipush 9, 2)), (46, (.invokestatic 58, 3)), (49, (.ifCond .eq 12, 3)), (52, (.goto 15, 3)), (55, (.iload 4, 2)), (57, (.iconst (-1), 1)), (58, (.if_icmp .eq 9, 3)), (61, (.aload_n 0, 1)), (62, (.iconst 2, 1)), (63, (.invokevirtual 129, 3)), (66, (.ireturn, 1)), (67, (.aload_n 0, 1)), (68, (.getfield 7, 3)), (71, (.iconst 1, 1)), (72, (.iaload, 1)), (73, (.bipush 60, 2)), (75, (.if_icmp .ne 9, 3)), (78, (.aload_n 0, 1)), (79, (.iconst 3, 1)), (80, (.invokevirtual 129, 3)), (83, (.ireturn, 1)), (84, (.aload_n 0, 1)), (85, (.invokevirtual 135, 3)), (88, (.aload_n 0, 1)), (89, (.iload_n 1, 1)), (90, (.iload_n 2, 1)), (91, (.iload_n 3, 1)), (92, (.iload 4, 2)), (94, (.invokevirtual 138, 3)), (97, (.iload_n 2, 1)), (98, (.ifCond .ne 27, 3)), (101, (.aload_n 0, 1)), (102, (.invokevirtual 142, 3)), (105, (.ifCond .eq 20, 3)), (108, (.aload_n 0, 1))]
theorem hX7_insert_0 : ∀ q ∈ tX7_insert_0, decode cX7_insert q.1 = .ok q.2 := by decide +kernel
def tX7_insert_1 : List (Nat × (Instr × Nat)) := [(109, (.getfield 7, 3)), (112, (.aload_n 0, 1)), (113, (.getfield 16, 3)), (116, (.invokestatic 47, 3)), (119, (.aload_n 0, 1)), (120, (.iconst 3, 1)), (121, (.invokevirtual 129, 3)), (124, (.ireturn, 1)), (125, (.aload_n 0, 1)), (126, (.aload_n 0, 1)), (127, (.getfield 7, 3)), (130, (.iconst 1, 1)), (131, (.iaload, 1)), (132, (.invokevirtual 146, 3)), (135, (.ireturn, 1))]
theorem hX7_insert_1 : ∀ q ∈ tX7_insert_1, decode cX7_insert q.1 = .ok q.2 := by decide +kernel
def tX7_remove_0 : List (Nat × (Instr × Nat)) := [(0, (.aload_n 0, 1)), (1, (.iload_n 1, 1)), (2, (.invokevirtual 149, 3)), (5, (.ifCond .ne 9, 3)), (8, (.aload_n 0, 1)), (9, (.iconst 1, 1)), (10, (.invokevirtual 129, 3)), (13, (.ireturn, 1)), (14, (.aload_n 0, 1)), (15, (.iload_n 1, 1)), (16, (.invokevirtual 88, 3)), (19, (.ifCond .eq 9, 3)), (22, (.aload_n 0, 1)), (23, (.iconst 2, 1)), (24, (.invokevirtual 129, 3)), (27, (.ireturn, 1)), (28, (.aload_n 0, 1)), (29, (.invokevirtual 135, 3)), (32, (.aload_n 0, 1)), (33, (.iload_n 1, 1)), (34, (.invokevirtual 152, 3)), (37, (.aload_n 0, 1)), (38, (.aload_n 0, 1)), (39, (.getfield 7, 3)), (42, (.iconst 1, 1)), (43, (.iaload, 1)), (44, (.invokevirtual 146, 3)), (47, (.ireturn, 1))]
theorem hX7_remove_0 : ∀ q ∈ tX7_remove_0, decode cX7_remove q.1 = .ok q.2 := by decide +kernel
def tX7_setLength_0 : List (Nat × (Instr × Nat)) := [(0, (.aload_n 0, 1)), (1, (.iload_n 1, 1)), (2, (.invokevirtual 149, 3)), (5, (.ifCond .ne 9, 3)), (8, (.aload_n 0, 1)), (9, (.iconst 1, 1)), (10, (.invokevirtual 129, 3)), (13, (.ireturn, 1)), (14, (.iload_n 2, 1)), (15, (.invokestatic 132, 3)), (18, (.ifCond .ne 9, 3)), (21, (.aload_n 0, 1)), (22, (.iconst 2, 1)), (23, (.invokevirtual 129, 3)), (26, (.ireturn, 1)), (27, (.aload_n 0, 1)), (28, (.invokevirtual 135, 3)), (31, (.aload_n 0, 1)), (32, (.iload_n 1, 1)), (33, (.iconst 1, 1)), (34, (.iload_n 2, 1)), (35, (.invokevirtual 125, 3)), (38, (.aload_n 0, 1)), (39, (.aload_n 0, 1)), (40, (.iload_n 1, 1)), (41, (.invokevirtual 69, 3)), (44, (.invokevirtual 146, 3)), (47, (.ireturn, 1))]
theorem hX7_setLength_0 : ∀ q ∈ tX7_setLength_0, decode cX7_setLength q.1 = .ok q.2 := by decide +kernel
def tX7_isPage_0 : List (Nat × (Instr × Nat)) := [(0, (.iload_n 0, 1)), (1, (.bipush 20, 2)), (3, (.bipush 60, 2)), (5, (.invokestatic 58, 3)), (8, (.ireturn, 1))]
theorem hX7_isPage_0 : ∀ q ∈ tX7_isPage_0, decode cX7_isPage q.1 = .ok q.2 := by decide +kernel
def tX7_setPage_0 : List (Nat × (Instr × Nat)) := [(0, (.iload_n 1, 1)), (1, (.invokestatic 155, 3)), (4, (.ifCond .ne 9, 3)), (7, (.aload_n 0, 1)), (8, (.iconst 1, 1)), (9, (.invokevirtual 129, 3)), (12, (.ireturn, 1)), (13, (.aload_n 0, 1)), (14, (.invokevirtual 135, 3)), (17, (.aload_n 0, 1)), (18, (.getfield 7, 3)), (21, (.iconst 0, 1)), (22, (.iaload, 1)), (23, (.istore_n 2, 1)), (24, (.aload_n 0, 1)), (25, (.getfield 7, 3)), (28, (.iconst 0, 1)), (29, (.iload_n 1, 1)), (30, (.iastore, 1)), (31, (.aload_n 0, 1)), (32, (.iload_n 2, 1)), (33, (.invokevirtual 146, 3)), (36, (.ireturn, 1))]
theorem hX7_setPage_0 : ∀ q ∈ tX7_setPage_0, decode cX7_setPage q.1 = .ok q.2 := by decide +kernel
def tX7_lockScenes_0 : List (Nat × (Instr × Nat)) := [(0, (.aload_n 0, 1)), (1, (.invokevirtual 135, 3)), (4, (.iconst 0, 1)), (5, (.istore_n 1, 1)), (6, (.iconst 0, 1)), (7, (.istore_n 2, 1)), (8, (.iload_n 2, 1)), (9, (.iconst 3, 1)), (10, (.aload_n 0, 1)), (11, (.getfield 7, 3)), (14, (.iconst 1, 1)), (15, (.iaload, 1)), (16, (.imul, 1)), (17, (.if_icmp .ge 39, 3)), (20, (.aload_n 0, 1)), (21, (.getfield 40, 3)), (24, (.iload_n 2, 1)), (25, (.aload_n 0, 1)), (26, (.iload_n 2, 1)), (27, (.iconst 3, 1)), (28, (.idiv, 1)), (29, (.invokevirtual 76, 3)), (32, (.ifCond .eq 16, 3)), (35, (.aload_n 0, 1)), (36, (.iload_n 2, 1)), (37, (.iconst 3, 1)), (38, (.idiv, 1)), (39, (.iload_n 2, 1)), (40, (.iconst 3, 1)), (41, (.irem, 1)), (42, (.invokevirtual 91, 3)), (45, (.goto 4, 3)), (48, (.iconst 0, 1)), (49, (.iastore, 1)), (50, (.iinc 2 1, 3)), (53, (.goto (-45), 3)), (56, (.iconst 0, 1)), (57, (.istore_n 2, 1)), (58, (.iload_n 2, 1)), (59, (.aload_n 0, 1)), (60, (.getfield 7, 3)), (63, (.iconst 1, 1)), (64, (.iaload, 1)), (65, (.if_icmp .ge 73, 3)), (68, (.aload_n 0, 1)), (69, (.iload_n 2, 1)), (70, (.invokevirtual 76, 3)), (73, (.ifCond .eq 59, 3)), (76, (.iload_n 1, 1)), (77, (.aload_n 0, 1)), (78, (.iload_n 2, 1)), (79, (.iconst 4, 1)), (80, (.invokevirtual 62, 3)), (83, (.iconst 1, 1)), (84, (.if_icmp .ne 7, 3)), (87, (.iconst 0, 1)), (88, (.goto 4, 3)), (91, (.iconst 1, 1)), (92, (.iadd, 1)), (93, (.istore_n 1, 1))]
theorem hX7_lockScenes_0 : ∀ q ∈ tX7_lockScenes_0, decode cX7_lockScenes q.1 = .ok q.2 := by decide +kernel
def tX7_lockScenes_1 : List (Nat × (Instr × Nat)) := [(94, (.aload_n 0, 1)), (95, (.iload_n 2, 1)), (96, (.iconst 4, 1)), (97, (.iconst 1, 1)), (98, (.invokevirtual 125, 3)), (101, (.iconst 0, 1)), (102, (.istore_n 3, 1)), (103, (.iload_n 3, 1)), (104, (.iconst 3, 1)), (105, (.if_icmp .ge 27, 3)), (108, (.aload_n 0, 1)), (109, (.iload_n 2, 1)), (110, (.iconst 5, 1)), (111, (.iload_n 3, 1)), (112, (.iadd, 1)), (113, (.aload_n 0, 1)), (114, (.getfield 40, 3)), (117, (.iconst 3, 1)), (118, (.iload_n 2, 1)), (119, (.imul, 1)), (120, (.iload_n 3, 1)), (121, (.iadd, 1)), (122, (.iaload, 1)), (123, (.invokevirtual 125, 3)), (126, (.iinc 3 1, 3)), (129, (.goto (-26), 3)), (132, (.iinc 2 1, 3)), (135, (.goto (-77), 3)), (138, (.aload_n 0, 1)), (139, (.iload_n 1, 1)), (140, (.invokevirtual 146, 3)), (143, (.ireturn, 1))]
theorem hX7_lockScenes_1 : ∀ q ∈ tX7_lockScenes_1, decode cX7_lockScenes q.1 = .ok q.2 := by decide +kernel
def tX7_omit_0 : List (Nat × (Instr × Nat)) := [(0, (.iload_n 1, 1)), (1, (.iconst 0, 1)), (2, (.aload_n 0, 1)), (3, (.invokevirtual 158, 3)), (6, (.iconst 1, 1)), (7, (.isub, 1)), (8, (.invokestatic 58, 3)), (11, (.ifCond .ne 9, 3)), (14, (.aload_n 0, 1)), (15, (.iconst 1, 1)), (16, (.invokevirtual 129, 3)), (19, (.ireturn, 1)), (20, (.aload_n 0, 1)), (21, (.iload_n 1, 1)), (22, (.invokevirtual 161, 3)), (25, (.istore_n 2, 1)), (26, (.aload_n 0, 1)), (27, (.iload_n 2, 1)), (28, (.invokevirtual 88, 3)), (31, (.ifCond .eq 13, 3)), (34, (.aload_n 0, 1)), (35, (.iload_n 2, 1)), (36, (.iconst 3, 1)), (37, (.invokevirtual 62, 3)), (40, (.iconst 1, 1)), (41, (.if_icmp .ne 9, 3)), (44, (.aload_n 0, 1)), (45, (.iconst 2, 1)), (46, (.invokevirtual 129, 3)), (49, (.ireturn, 1)), (50, (.aload_n 0, 1)), (51, (.invokevirtual 135, 3)), (54, (.iconst 0, 1)), (55, (.istore_n 3, 1)), (56, (.iload_n 2, 1)), (57, (.iconst 1, 1)), (58, (.iadd, 1)), (59, (.aload_n 0, 1)), (60, (.getfield 7, 3)), (63, (.iconst 1, 1)), (64, (.iaload, 1)), (65, (.if_icmp .ge 26, 3)), (68, (.aload_n 0, 1)), (69, (.iload_n 2, 1)), (70, (.iconst 1, 1)), (71, (.iadd, 1)), (72, (.invokevirtual 76, 3)), (75, (.ifCond .ne 16, 3)), (78, (.aload_n 0, 1)), (79, (.iload_n 2, 1)), (80, (.iconst 1, 1)), (81, (.iadd, 1)), (82, (.invokevirtual 152, 3)), (85, (.iinc 3 1, 3)), (88, (.goto (-32), 3)), (91, (.aload_n 0, 1)), (92, (.iload_n 2, 1)), (93, (.iconst 3, 1)), (94, (.iconst 1, 1)), (95, (.invokevirtual 125, 3))]
theorem hX7_omit_0 : ∀ q ∈ tX7_omit_0, decode cX7_omit q.1 = .ok q.2 := by decide +kernel
def tX7_omit_1 : List (Nat × (Instr × Nat)) := [(98, (.aload_n 0, 1)), (99, (.iload_n 3, 1)), (100, (.invokevirtual 146, 3)), (103, (.ireturn, 1))]
theorem hX7_omit_1 : ∀ q ∈ tX7_omit_1, decode cX7_omit q.1 = .ok q.2 := by decide +kernel
def tX7_lockPages_0 : List (Nat × (Instr × Nat)) := [(0, (.aload_n 0, 1)), (1, (.invokevirtual 135, 3)), (4, (.aload_n 0, 1)), (5, (.aload_n 0, 1)), (6, (.getfield 7, 3)), (9, (.iconst 0, 1)), (10, (.iaload, 1)), (11, (.invokevirtual 117, 3)), (14, (.iconst 0, 1)), (15, (.istore_n 1, 1)), (16, (.iload_n 1, 1)), (17, (.aload_n 0, 1)), (18, (.getfield 7, 3)), (21, (.iconst 1, 1)), (22, (.iaload, 1)), (23, (.if_icmp .ge 17, 3)), (26, (.aload_n 0, 1)), (27, (.iload_n 1, 1)), (28, (.bipush 8, 2)), (30, (.iconst (-1), 1)), (31, (.invokevirtual 125, 3)), (34, (.iinc 1 1, 3)), (37, (.goto (-21), 3)), (40, (.iconst 0, 1)), (41, (.istore_n 1, 1)), (42, (.iconst 0, 1)), (43, (.istore_n 2, 1)), (44, (.iload_n 2, 1)), (45, (.aload_n 0, 1)), (46, (.getfield 101, 3)), (49, (.if_icmp .ge 35, 3)), (52, (.aload_n 0, 1)), (53, (.getfield 34, 3)), (56, (.iload_n 2, 1)), (57, (.iaload, 1)), (58, (.iconst (-1), 1)), (59, (.if_icmp .eq 19, 3)), (62, (.iinc 1 1, 3)), (65, (.aload_n 0, 1)), (66, (.aload_n 0, 1)), (67, (.getfield 34, 3)), (70, (.iload_n 2, 1)), (71, (.iaload, 1)), (72, (.bipush 8, 2)), (74, (.iload_n 1, 1)), (75, (.invokevirtual 125, 3)), (78, (.iinc 2 1, 3)), (81, (.goto (-37), 3)), (84, (.aload_n 0, 1)), (85, (.iload_n 1, 1)), (86, (.invokevirtual 146, 3)), (89, (.ireturn, 1))]
theorem hX7_lockPages_0 : ∀ q ∈ tX7_lockPages_0, decode cX7_lockPages q.1 = .ok q.2 := by decide +kernel
def tX7_lockedMany_0 : List (Nat × (Instr × Nat)) := [(0, (.iconst 0, 1)), (1, (.istore_n 1, 1)), (2, (.iconst 0, 1)), (3, (.istore_n 2, 1)), (4, (.iload_n 2, 1)), (5, (.aload_n 0, 1)), (6, (.getfield 7, 3)), (9, (.iconst 1, 1)), (10, (.iaload, 1)), (11, (.if_icmp .ge 25, 3)), (14, (.iload_n 1, 1)), (15, (.aload_n 0, 1)), (16, (.iload_n 2, 1)), (17, (.invokevirtual 88, 3)), (20, (.ifCond .eq 7, 3)), (23, (.iconst 1, 1)), (24, (.goto 4, 3)), (27, (.iconst 0, 1)), (28, (.iadd, 1)), (29, (.istore_n 1, 1)), (30, (.iinc 2 1, 3)), (33, (.goto (-29), 3)), (36, (.iload_n 1, 1)), (37, (.ireturn, 1))]
theorem hX7_lockedMany_0 : ∀ q ∈ tX7_lockedMany_0, decode cX7_lockedMany q.1 = .ok q.2 := by decide +kernel
def tX7_namesOf_0 : List (Nat × (Instr × Nat)) := [(0, (.iconst 0, 1)), (1, (.istore_n 3, 1)), (2, (.iconst 0, 1)), (3, (.istore 4, 2)), (5, (.iload 4, 2)), (7, (.aload_n 0, 1)), (8, (.getfield 7, 3)), (11, (.iconst 1, 1)), (12, (.iaload, 1)), (13, (.if_icmp .ge 69, 3)), (16, (.aload_n 0, 1)), (17, (.iload 4, 2)), (19, (.iconst 0, 1)), (20, (.invokevirtual 62, 3)), (23, (.iconst 2, 1)), (24, (.if_icmp .ne 23, 3)), (27, (.iload_n 1, 1)), (28, (.iconst (-1), 1)), (29, (.if_icmp .eq 14, 3)), (32, (.aload_n 0, 1)), (33, (.iload 4, 2)), (35, (.iconst 2, 1)), (36, (.invokevirtual 62, 3)), (39, (.iload_n 1, 1)), (40, (.if_icmp .ne 7, 3)), (43, (.iconst 1, 1)), (44, (.goto 4, 3)), (47, (.iconst 0, 1)), (48, (.istore 5, 2)), (50, (.iload_n 3, 1)), (51, (.iload 5, 2)), (53, (.ifCond .eq 20, 3)), (56, (.iload_n 2, 1)), (57, (.ifCond .eq 12, 3)), (60, (.aload_n 0, 1)), (61, (.iload 4, 2)), (63, (.invokevirtual 164, 3)), (66, (.ifCond .eq 7, 3)), (69, (.iconst 1, 1)), (70, (.goto 4, 3)), (73, (.iconst 0, 1)), (74, (.iadd, 1)), (75, (.istore_n 3, 1)), (76, (.iinc 4 1, 3)), (79, (.goto (-74), 3)), (82, (.iload_n 3, 1)), (83, (.ireturn, 1))]
theorem hX7_namesOf_0 : ∀ q ∈ tX7_namesOf_0, decode cX7_namesOf q.1 = .ok q.2 := by decide +kernel
def tX7_valueOf_0 : List (Nat × (Instr × Nat)) := [(0, (.iload_n 1, 1)), (1, (.tableswitch 84 0 6 #[43, 50, 55, 60, 67, 72, 77], 43)), (44, (.aload_n 0, 1)), (45, (.getfield 7, 3)), (48, (.iconst 1, 1)), (49, (.iaload, 1)), (50, (.ireturn, 1)), (51, (.aload_n 0, 1)), (52, (.invokevirtual 158, 3)), (55, (.ireturn, 1)), (56, (.aload_n 0, 1)), (57, (.getfield 101, 3)), (60, (.ireturn, 1)), (61, (.aload_n 0, 1)), (62, (.getfield 7, 3)), (65, (.iconst 0, 1)), (66, (.iaload, 1)), (67, (.ireturn, 1)), (68, (.aload_n 0, 1)), (69, (.invokevirtual 167, 3)), (72, (.ireturn, 1)), (73, (.aload_n 0, 1)), (74, (.invokevirtual 121, 3)), (77, (.ireturn, 1)), (78, (.aload_n 0, 1)), (79, (.iconst (-1), 1)), (80, (.iconst 1, 1)), (81, (.invokevirtual 170, 3)), (84, (.ireturn, 1)), (85, (.aload_n 0, 1)), (86, (.getfield 110, 3)), (89, (.ireturn, 1))]
theorem hX7_valueOf_0 : ∀ q ∈ tX7_valueOf_0, decode cX7_valueOf q.1 = .ok q.2 := by decide +kernel
def tX7_value_0 : List (Nat × (Instr × Nat)) := [(0, (.aload_n 0, 1)), (1, (.aload_n 0, 1)), (2, (.getfield 7, 3)), (5, (.iconst 0, 1)), (6, (.iaload, 1)), (7, (.invokevirtual 117, 3)), (10, (.iload_n 1, 1)), (11, (.iconst 0, 1)), (12, (.bipush 7, 2)), (14, (.invokestatic 58, 3)), (17, (.ifCond .eq 15, 3)), (20, (.aload_n 0, 1)), (21, (.aload_n 0, 1)), (22, (.iload_n 1, 1)), (23, (.invokevirtual 174, 3)), (26, (.invokevirtual 54, 3)), (29, (.goto 8, 3)), (32, (.aload_n 0, 1)), (33, (.iconst 1, 1)), (34, (.invokevirtual 129, 3)), (37, (.ireturn, 1))]
theorem hX7_value_0 : ∀ q ∈ tX7_value_0, decode cX7_value q.1 = .ok q.2 := by decide +kernel
def tX7_elementOf_0 : List (Nat × (Instr × Nat)) := [(0, (.iload_n 2, 1)), (1, (.tableswitch 98 3 9 #[43, 49, 55, 63, 70, 77, 84], 43)), (44, (.aload_n 0, 1)), (45, (.iload_n 1, 1)), (46, (.invokevirtual 69, 3)), (49, (.ireturn, 1)), (50, (.aload_n 0, 1)), (51, (.iload_n 1, 1)), (52, (.invokevirtual 98, 3)), (55, (.ireturn, 1)), (56, (.aload_n 0, 1)), (57, (.iload_n 1, 1)), (58, (.bipush 8, 2)), (60, (.invokevirtual 62, 3)), (63, (.ireturn, 1)), (64, (.aload_n 0, 1)), (65, (.getfield 22, 3)), (68, (.iload_n 1, 1)), (69, (.iaload, 1)), (70, (.ireturn, 1)), (71, (.aload_n 0, 1)), (72, (.getfield 25, 3)), (75, (.iload_n 1, 1)), (76, (.iaload, 1)), (77, (.ireturn, 1)), (78, (.aload_n 0, 1)), (79, (.getfield 28, 3)), (82, (.iload_n 1, 1)), (83, (.iaload, 1)), (84, (.ireturn, 1)), (85, (.aload_n 0, 1)), (86, (.iload_n 1, 1)), (87, (.invokevirtual 164, 3)), (90, (.ifCond .eq 7, 3)), (93, (.iconst 1, 1)), (94, (.goto 4, 3)), (97, (.iconst 0, 1)), (98, (.ireturn, 1)), (99, (.aload_n 0, 1)), (100, (.iload_n 1, 1)), (101, (.iload_n 2, 1)), (102, (.invokevirtual 62, 3)), (105, (.ireturn, 1))]
theorem hX7_elementOf_0 : ∀ q ∈ tX7_elementOf_0, decode cX7_elementOf q.1 = .ok q.2 := by decide +kernel
def tX7_element_0 : List (Nat × (Instr × Nat)) := [(0, (.aload_n 0, 1)), (1, (.iload_n 1, 1)), (2, (.invokevirtual 149, 3)), (5, (.ifCond .ne 9, 3)), (8, (.aload_n 0, 1)), (9, (.iconst 1, 1)), (10, (.invokevirtual 129, 3)), (13, (.ireturn, 1)), (14, (.aload_n 0, 1)), (15, (.aload_n 0, 1)), (16, (.getfield 7, 3)), (19, (.iconst 0, 1)), (20, (.iaload, 1)), (21, (.invokevirtual 117, 3)), (24, (.iload_n 2, 1)), (25, (.iconst 0, 1)), (26, (.bipush 9, 2)), (28, (.invokestatic 58, 3)), (31, (.ifCond .eq 16, 3)), (34, (.aload_n 0, 1)), (35, (.aload_n 0, 1)), (36, (.iload_n 1, 1)), (37, (.iload_n 2, 1)), (38, (.invokevirtual 177, 3)), (41, (.invokevirtual 54, 3)), (44, (.goto 8, 3)), (47, (.aload_n 0, 1)), (48, (.iconst 2, 1)), (49, (.invokevirtual 129, 3)), (52, (.ireturn, 1))]
theorem hX7_element_0 : ∀ q ∈ tX7_element_0, decode cX7_element q.1 = .ok q.2 := by decide +kernel
def tX7_sceneTold_0 : List (Nat × (Instr × Nat)) := [(0, (.aload_n 0, 1)), (1, (.iload_n 1, 1)), (2, (.invokevirtual 161, 3)), (5, (.istore_n 3, 1)), (6, (.aload_n 0, 1)), (7, (.iload_n 1, 1)), (8, (.iconst 1, 1)), (9, (.iadd, 1)), (10, (.invokevirtual 161, 3)), (13, (.istore 4, 2)), (15, (.iconst 0, 1)), (16, (.istore 5, 2)), (18, (.iload_n 3, 1)), (19, (.istore 6, 2)), (21, (.iload 6, 2)), (23, (.iload 4, 2)), (25, (.if_icmp .ge 20, 3)), (28, (.iload 5, 2)), (30, (.aload_n 0, 1)), (31, (.iload 6, 2)), (33, (.invokevirtual 69, 3)), (36, (.iadd, 1)), (37, (.istore 5, 2)), (39, (.iinc 6 1, 3)), (42, (.goto (-21), 3)), (45, (.iload_n 2, 1)), (46, (.tableswitch 95 3 9 #[42, 49, 56, 58, 63, 66, 88], 42)), (88, (.aload_n 0, 1)), (89, (.iload_n 3, 1)), (90, (.iconst 4, 1)), (91, (.invokevirtual 62, 3)), (94, (.ireturn, 1)), (95, (.aload_n 0, 1)), (96, (.iload_n 3, 1)), (97, (.iconst 3, 1)), (98, (.invokevirtual 62, 3)), (101, (.ireturn, 1)), (102, (.iload_n 3, 1)), (103, (.ireturn, 1)), (104, (.iload 4, 2)), (106, (.iload_n 3, 1)), (107, (.isub, 1)), (108, (.ireturn, 1)), (109, (.iload 5, 2)), (111, (.ireturn, 1)), (112, (.iload 5, 2)), (114, (.bipush 8, 2)), (116, (.imul, 1)), (117, (.aload_n 0, 1)), (118, (.getfield 7, 3)), (121, (.iconst 0, 1)), (122, (.iaload, 1)), (123, (.iadd, 1)), (124, (.iconst 1, 1)), (125, (.isub, 1)), (126, (.aload_n 0, 1)), (127, (.getfield 7, 3)), (130, (.iconst 0, 1)), (131, (.iaload, 1)), (132, (.idiv, 1))]
theorem hX7_sceneTold_0 : ∀ q ∈ tX7_sceneTold_0, decode cX7_sceneTold q.1 = .ok q.2 := by decide +kernel
def tX7_sceneTold_1 : List (Nat × (Instr × Nat)) := [(133, (.ireturn, 1)), (134, (.aload_n 0, 1)), (135, (.getfield 22, 3)), (138, (.iload_n 3, 1)), (139, (.iaload, 1)), (140, (.ireturn, 1)), (141, (.aload_n 0, 1)), (142, (.iload_n 3, 1)), (143, (.iload_n 2, 1)), (144, (.invokevirtual 91, 3)), (147, (.ireturn, 1))]
theorem hX7_sceneTold_1 : ∀ q ∈ tX7_sceneTold_1, decode cX7_sceneTold q.1 = .ok q.2 := by decide +kernel
def tX7_scene_0 : List (Nat × (Instr × Nat)) := [(0, (.iload_n 1, 1)), (1, (.iconst 0, 1)), (2, (.aload_n 0, 1)), (3, (.invokevirtual 158, 3)), (6, (.iconst 1, 1)), (7, (.isub, 1)), (8, (.invokestatic 58, 3)), (11, (.ifCond .ne 9, 3)), (14, (.aload_n 0, 1)), (15, (.iconst 1, 1)), (16, (.invokevirtual 129, 3)), (19, (.ireturn, 1)), (20, (.aload_n 0, 1)), (21, (.aload_n 0, 1)), (22, (.getfield 7, 3)), (25, (.iconst 0, 1)), (26, (.iaload, 1)), (27, (.invokevirtual 117, 3)), (30, (.iload_n 2, 1)), (31, (.iconst 0, 1)), (32, (.bipush 9, 2)), (34, (.invokestatic 58, 3)), (37, (.ifCond .eq 16, 3)), (40, (.aload_n 0, 1)), (41, (.aload_n 0, 1)), (42, (.iload_n 1, 1)), (43, (.iload_n 2, 1)), (44, (.invokevirtual 180, 3)), (47, (.invokevirtual 54, 3)), (50, (.goto 8, 3)), (53, (.aload_n 0, 1)), (54, (.iconst 2, 1)), (55, (.invokevirtual 129, 3)), (58, (.ireturn, 1))]
theorem hX7_scene_0 : ∀ q ∈ tX7_scene_0, decode cX7_scene q.1 = .ok q.2 := by decide +kernel
def tX7_pageTold_0 : List (Nat × (Instr × Nat)) := [(0, (.iload_n 2, 1)), (1, (.tableswitch 48 2 4 #[27, 34, 41], 27)), (28, (.aload_n 0, 1)), (29, (.getfield 31, 3)), (32, (.iload_n 1, 1)), (33, (.iaload, 1)), (34, (.ireturn, 1)), (35, (.aload_n 0, 1)), (36, (.getfield 34, 3)), (39, (.iload_n 1, 1)), (40, (.iaload, 1)), (41, (.ireturn, 1)), (42, (.aload_n 0, 1)), (43, (.getfield 37, 3)), (46, (.iload_n 1, 1)), (47, (.iaload, 1)), (48, (.ireturn, 1)), (49, (.aload_n 0, 1)), (50, (.iload_n 1, 1)), (51, (.iload_n 2, 1)), (52, (.invokevirtual 183, 3)), (55, (.ireturn, 1))]
theorem hX7_pageTold_0 : ∀ q ∈ tX7_pageTold_0, decode cX7_pageTold q.1 = .ok q.2 := by decide +kernel
def tX7_page_0 : List (Nat × (Instr × Nat)) := [(0, (.aload_n 0, 1)), (1, (.aload_n 0, 1)), (2, (.getfield 7, 3)), (5, (.iconst 0, 1)), (6, (.iaload, 1)), (7, (.invokevirtual 117, 3)), (10, (.iload_n 1, 1)), (11, (.iconst 0, 1)), (12, (.aload_n 0, 1)), (13, (.getfield 101, 3)), (16, (.iconst 1, 1)), (17, (.isub, 1)), (18, (.invokestatic 58, 3)), (21, (.ifCond .ne 9, 3)), (24, (.aload_n 0, 1)), (25, (.iconst 1, 1)), (26, (.invokevirtual 129, 3)), (29, (.ireturn, 1)), (30, (.iload_n 2, 1)), (31, (.iconst 0, 1)), (32, (.iconst 4, 1)), (33, (.invokestatic 58, 3)), (36, (.ifCond .eq 16, 3)), (39, (.aload_n 0, 1)), (40, (.aload_n 0, 1)), (41, (.iload_n 1, 1)), (42, (.iload_n 2, 1)), (43, (.invokevirtual 186, 3)), (46, (.invokevirtual 54, 3)), (49, (.goto 8, 3)), (52, (.aload_n 0, 1)), (53, (.iconst 2, 1)), (54, (.invokevirtual 129, 3)), (57, (.ireturn, 1))]
theorem hX7_page_0 : ∀ q ∈ tX7_page_0, decode cX7_page q.1 = .ok q.2 := by decide +kernel
def tX7_find_0 : List (Nat × (Instr × Nat)) := [(0, (.aload_n 0, 1)), (1, (.invokevirtual 158, 3)), (4, (.istore 4, 2)), (6, (.iconst 0, 1)), (7, (.istore 5, 2)), (9, (.iload 5, 2)), (11, (.iload 4, 2)), (13, (.if_icmp .ge 57, 3)), (16, (.aload_n 0, 1)), (17, (.iload 5, 2)), (19, (.invokevirtual 161, 3)), (22, (.istore 6, 2)), (24, (.aload_n 0, 1)), (25, (.iload 6, 2)), (27, (.iconst 0, 1)), (28, (.invokevirtual 91, 3)), (31, (.iload_n 1, 1)), (32, (.if_icmp .ne 32, 3)), (35, (.aload_n 0, 1)), (36, (.iload 6, 2)), (38, (.iconst 1, 1)), (39, (.invokevirtual 91, 3)), (42, (.iload_n 2, 1)), (43, (.if_icmp .ne 21, 3)), (46, (.aload_n 0, 1)), (47, (.iload 6, 2)), (49, (.iconst 2, 1)), (50, (.invokevirtual 91, 3)), (53, (.iload_n 3, 1)), (54, (.if_icmp .ne 10, 3)), (57, (.aload_n 0, 1)), (58, (.iload 5, 2)), (60, (.invokevirtual 54, 3)), (63, (.ireturn, 1)), (64, (.iinc 5 1, 3)), (67, (.goto (-58), 3)), (70, (.aload_n 0, 1)), (71, (.iconst (-1), 1)), (72, (.invokevirtual 54, 3)), (75, (.ireturn, 1))]
theorem hX7_find_0 : ∀ q ∈ tX7_find_0, decode cX7_find q.1 = .ok q.2 := by decide +kernel
def tX7_names_0 : List (Nat × (Instr × Nat)) := [(0, (.iload_n 1, 1)), (1, (.iconst 0, 1)), (2, (.bipush 9, 2)), (4, (.invokestatic 58, 3)), (7, (.ifCond .eq 16, 3)), (10, (.aload_n 0, 1)), (11, (.aload_n 0, 1)), (12, (.iload_n 1, 1)), (13, (.iload_n 2, 1)), (14, (.invokevirtual 170, 3)), (17, (.invokevirtual 54, 3)), (20, (.goto 8, 3)), (23, (.aload_n 0, 1)), (24, (.iconst 1, 1)), (25, (.invokevirtual 129, 3)), (28, (.ireturn, 1))]
theorem hX7_names_0 : ∀ q ∈ tX7_names_0, decode cX7_names q.1 = .ok q.2 := by decide +kernel
def tX7_used_0 : List (Nat × (Instr × Nat)) := [(0, (.aload_n 0, 1)), (1, (.iconst 0, 1)), (2, (.putfield 43, 3)), (5, (.aload_n 0, 1)), (6, (.aload_n 0, 1)), (7, (.getfield 7, 3)), (10, (.iconst 0, 1)), (11, (.iaload, 1)), (12, (.invokevirtual 117, 3)), (15, (.iconst 0, 1)), (16, (.istore_n 1, 1)), (17, (.iconst 0, 1)), (18, (.istore_n 2, 1)), (19, (.iload_n 2, 1)), (20, (.aload_n 0, 1)), (21, (.getfield 101, 3)), (24, (.if_icmp .ge 18, 3)), (27, (.iload_n 1, 1)), (28, (.aload_n 0, 1)), (29, (.getfield 31, 3)), (32, (.iload_n 2, 1)), (33, (.iaload, 1)), (34, (.iadd, 1)), (35, (.istore_n 1, 1)), (36, (.iinc 2 1, 3)), (39, (.goto (-20), 3)), (42, (.aload_n 0, 1)), (43, (.getfield 101, 3)), (46, (.ifCond .ne 7, 3)), (49, (.dconst 0, 1)), (50, (.goto 18, 3)), (53, (.iload_n 1, 1)), (54, (.i2d, 1)), (55, (.aload_n 0, 1)), (56, (.getfield 7, 3)), (59, (.iconst 0, 1)), (60, (.iaload, 1)), (61, (.aload_n 0, 1)), (62, (.getfield 101, 3)), (65, (.imul, 1)), (66, (.i2d, 1)), (67, (.ddiv, 1)), (68, (.dreturn, 1))]
theorem hX7_used_0 : ∀ q ∈ tX7_used_0, decode cX7_used q.1 = .ok q.2 := by decide +kernel
def tX7_pagesWith_0 : List (Nat × (Instr × Nat)) := [(0, (.iload_n 1, 1)), (1, (.invokestatic 155, 3)), (4, (.ifCond .eq 15, 3)), (7, (.aload_n 0, 1)), (8, (.aload_n 0, 1)), (9, (.iload_n 1, 1)), (10, (.invokevirtual 189, 3)), (13, (.invokevirtual 54, 3)), (16, (.goto 8, 3)), (19, (.aload_n 0, 1)), (20, (.iconst 1, 1)), (21, (.invokevirtual 129, 3)), (24, (.ireturn, 1))]
theorem hX7_pagesWith_0 : ∀ q ∈ tX7_pagesWith_0, decode cX7_pagesWith q.1 = .ok q.2 := by decide +kernel
def tX7_smallestPage_0 : List (Nat × (Instr × Nat)) := [(0, (.iload_n 1, 1)), (1, (.iconst 0, 1)), (2, (.bipush 60, 2)), (4, (.invokestatic 58, 3)), (7, (.ifCond .ne 9, 3)), (10, (.aload_n 0, 1)), (11, (.iconst 1, 1)), (12, (.invokevirtual 129, 3)), (15, (.ireturn, 1)), (16, (.bipush 20, 2)), (18, (.istore_n 2, 1)), (19, (.iload_n 2, 1)), (20, (.bipush 60, 2)), (22, (.if_icmp .gt 24, 3)), (25, (.aload_n 0, 1)), (26, (.iload_n 2, 1)), (27, (.invokevirtual 189, 3)), (30, (.iload_n 1, 1)), (31, (.if_icmp .gt 9, 3)), (34, (.aload_n 0, 1)), (35, (.iload_n 2, 1)), (36, (.invokevirtual 54, 3)), (39, (.ireturn, 1)), (40, (.iinc 2 1, 3)), (43, (.goto (-24), 3)), (46, (.aload_n 0, 1)), (47, (.iconst (-1), 1)), (48, (.invokevirtual 54, 3)), (51, (.ireturn, 1))]
theorem hX7_smallestPage_0 : ∀ q ∈ tX7_smallestPage_0, decode cX7_smallestPage q.1 = .ok q.2 := by decide +kernel
def tX7_pagesBehind_0 : List (Nat × (Instr × Nat)) := [(0, (.aload_n 0, 1)), (1, (.iload_n 1, 1)), (2, (.iconst 1, 1)), (3, (.invokevirtual 62, 3)), (6, (.istore_n 3, 1)), (7, (.aload_n 0, 1)), (8, (.iload_n 1, 1)), (9, (.iconst 1, 1)), (10, (.iload_n 2, 1)), (11, (.invokevirtual 125, 3)), (14, (.aload_n 0, 1)), (15, (.aload_n 0, 1)), (16, (.getfield 7, 3)), (19, (.iconst 0, 1)), (20, (.iaload, 1)), (21, (.invokevirtual 189, 3)), (24, (.istore 4, 2)), (26, (.aload_n 0, 1)), (27, (.iload_n 1, 1)), (28, (.iconst 1, 1)), (29, (.iload_n 3, 1)), (30, (.invokevirtual 125, 3)), (33, (.iload 4, 2)), (35, (.ireturn, 1))]
theorem hX7_pagesBehind_0 : ∀ q ∈ tX7_pagesBehind_0, decode cX7_pagesBehind q.1 = .ok q.2 := by decide +kernel
def tX7_pagesBy_0 : List (Nat × (Instr × Nat)) := [(0, (.aload_n 0, 1)), (1, (.iload_n 1, 1)), (2, (.invokevirtual 149, 3)), (5, (.ifCond .ne 9, 3)), (8, (.aload_n 0, 1)), (9, (.iconst 1, 1)), (10, (.invokevirtual 129, 3)), (13, (.ireturn, 1)), (14, (.iload_n 2, 1)), (15, (.invokestatic 132, 3)), (18, (.ifCond .eq 16, 3)), (21, (.aload_n 0, 1)), (22, (.aload_n 0, 1)), (23, (.iload_n 1, 1)), (24, (.iload_n 2, 1)), (25, (.invokevirtual 192, 3)), (28, (.invokevirtual 54, 3)), (31, (.goto 8, 3)), (34, (.aload_n 0, 1)), (35, (.iconst 2, 1)), (36, (.invokevirtual 129, 3)), (39, (.ireturn, 1))]
theorem hX7_pagesBy_0 : ∀ q ∈ tX7_pagesBy_0, decode cX7_pagesBy q.1 = .ok q.2 := by decide +kernel
def tX7_greatestLength_0 : List (Nat × (Instr × Nat)) := [(0, (.aload_n 0, 1)), (1, (.iload_n 1, 1)), (2, (.invokevirtual 149, 3)), (5, (.ifCond .ne 9, 3)), (8, (.aload_n 0, 1)), (9, (.iconst 1, 1)), (10, (.invokevirtual 129, 3)), (13, (.ireturn, 1)), (14, (.aload_n 0, 1)), (15, (.aload_n 0, 1)), (16, (.getfield 7, 3)), (19, (.iconst 0, 1)), (20, (.iaload, 1)), (21, (.invokevirtual 189, 3)), (24, (.istore_n 2, 1)), (25, (.sipush 400, 3)), (28, (.istore_n 3, 1)), (29, (.aload_n 0, 1)), (30, (.iload_n 1, 1)), (31, (.iload_n 3, 1)), (32, (.invokevirtual 192, 3)), (35, (.iload_n 2, 1)), (36, (.if_icmp .le 9, 3)), (39, (.iinc 3 (-1), 3)), (42, (.goto (-13), 3)), (45, (.aload_n 0, 1)), (46, (.iload_n 3, 1)), (47, (.invokevirtual 54, 3)), (50, (.ireturn, 1))]
theorem hX7_greatestLength_0 : ∀ q ∈ tX7_greatestLength_0, decode cX7_greatestLength q.1 = .ok q.2 := by decide +kernel
def tX7_append_0 : List (Nat × (Instr × Nat)) := [(0, (.iload_n 1, 1)), (1, (.iconst 0, 1)), (2, (.bipush 127, 2)), (4, (.invokestatic 58, 3)), (7, (.ifCond .ne 9, 3)), (10, (.aload_n 0, 1)), (11, (.iconst 1, 1)), (12, (.invokevirtual 129, 3)), (15, (.ireturn, 1)), (16, (.aload_n 0, 1)), (17, (.getfield 195, 3)), (20, (.sipush 200, 3)), (23, (.if_icmp .ne 9, 3)), (26, (.aload_n 0, 1)), (27, (.iconst 2, 1)), (28, (.invokevirtual 129, 3)), (31, (.ireturn, 1)), (32, (.aload_n 0, 1)), (33, (.getfield 19, 3)), (36, (.aload_n 0, 1)), (37, (.getfield 195, 3)), (40, (.iload_n 1, 1)), (41, (.iastore, 1)), (42, (.aload_n 0, 1)), (43, (.dup, 1)), (44, (.getfield 195, 3)), (47, (.iconst 1, 1)), (48, (.iadd, 1)), (49, (.putfield 195, 3)), (52, (.aload_n 0, 1)), (53, (.aload_n 0, 1)), (54, (.getfield 195, 3)), (57, (.invokevirtual 54, 3)), (60, (.ireturn, 1))]
theorem hX7_append_0 : ∀ q ∈ tX7_append_0, decode cX7_append q.1 = .ok q.2 := by decide +kernel
def tX7_clearText_0 : List (Nat × (Instr × Nat)) := [(0, (.aload_n 0, 1)), (1, (.getfield 195, 3)), (4, (.istore_n 1, 1)), (5, (.aload_n 0, 1)), (6, (.iconst 0, 1)), (7, (.putfield 195, 3)), (10, (.aload_n 0, 1)), (11, (.iload_n 1, 1)), (12, (.invokevirtual 54, 3)), (15, (.ireturn, 1))]
theorem hX7_clearText_0 : ∀ q ∈ tX7_clearText_0, decode cX7_clearText q.1 = .ok q.2 := by decide +kernel
def tX7_isAt_0 : List (Nat × (Instr × Nat)) := [(0, (.aload_n 0, 1)), (1, (.getfield 198, 3)), (4, (.aload_n 0, 1)), (5, (.getfield 195, 3)), (8, (.if_icmp .ge 24, 3)), (11, (.aload_n 0, 1)), (12, (.getfield 19, 3)), (15, (.aload_n 0, 1)), (16, (.getfield 198, 3)), (19, (.iaload, 1)), (20, (.iload_n 1, 1)), (21, (.iload_n 2, 1)), (22, (.invokestatic 58, 3)), (25, (.ifCond .eq 7, 3)), (28, (.iconst 1, 1)), (29, (.goto 4, 3)), (32, (.iconst 0, 1)), (33, (.ireturn, 1))]
theorem hX7_isAt_0 : ∀ q ∈ tX7_isAt_0, decode cX7_isAt q.1 = .ok q.2 := by decide +kernel
def tX7_takes_0 : List (Nat × (Instr × Nat)) := [(0, (.aload_n 0, 1)), (1, (.iload_n 1, 1)), (2, (.iload_n 1, 1)), (3, (.invokevirtual 201, 3)), (6, (.istore_n 2, 1)), (7, (.aload_n 0, 1)), (8, (.dup, 1)), (9, (.getfield 198, 3)), (12, (.iload_n 2, 1)), (13, (.ifCond .eq 7, 3)), (16, (.iconst 1, 1)), (17, (.goto 4, 3)), (20, (.iconst 0, 1)), (21, (.iadd, 1)), (22, (.putfield 198, 3)), (25, (.iload_n 2, 1)), (26, (.ireturn, 1))]
theorem hX7_takes_0 : ∀ q ∈ tX7_takes_0, decode cX7_takes q.1 = .ok q.2 := by decide +kernel
def tX7_isNumber_0 : List (Nat × (Instr × Nat)) := [(0, (.aload_n 0, 1)), (1, (.getfield 198, 3)), (4, (.istore_n 1, 1)), (5, (.aload_n 0, 1)), (6, (.iconst 0, 1)), (7, (.putfield 204, 3)), (10, (.aload_n 0, 1)), (11, (.getfield 198, 3)), (14, (.iload_n 1, 1)), (15, (.isub, 1)), (16, (.iconst 3, 1)), (17, (.if_icmp .ge 51, 3)), (20, (.aload_n 0, 1)), (21, (.bipush 48, 2)), (23, (.bipush 57, 2)), (25, (.invokevirtual 201, 3)), (28, (.ifCond .eq 40, 3)), (31, (.aload_n 0, 1)), (32, (.bipush 10, 2)), (34, (.aload_n 0, 1)), (35, (.getfield 204, 3)), (38, (.imul, 1)), (39, (.aload_n 0, 1)), (40, (.getfield 19, 3)), (43, (.aload_n 0, 1)), (44, (.getfield 198, 3)), (47, (.iaload, 1)), (48, (.iadd, 1)), (49, (.bipush 48, 2)), (51, (.isub, 1)), (52, (.putfield 204, 3)), (55, (.aload_n 0, 1)), (56, (.dup, 1)), (57, (.getfield 198, 3)), (60, (.iconst 1, 1)), (61, (.iadd, 1)), (62, (.putfield 198, 3)), (65, (.goto (-55), 3)), (68, (.aload_n 0, 1)), (69, (.getfield 198, 3)), (72, (.iload_n 1, 1)), (73, (.if_icmp .eq 14, 3)), (76, (.aload_n 0, 1)), (77, (.bipush 48, 2)), (79, (.bipush 57, 2)), (81, (.invokevirtual 201, 3)), (84, (.ifCond .eq 5, 3)), (87, (.iconst 0, 1)), (88, (.ireturn, 1)), (89, (.aload_n 0, 1)), (90, (.getfield 204, 3)), (93, (.invokestatic 132, 3)), (96, (.istore_n 2, 1)), (97, (.aload_n 0, 1)), (98, (.iload_n 2, 1)), (99, (.ifCond .eq 10, 3)), (102, (.aload_n 0, 1)), (103, (.getfield 198, 3)), (106, (.goto 4, 3)), (109, (.iload_n 1, 1))]
theorem hX7_isNumber_0 : ∀ q ∈ tX7_isNumber_0, decode cX7_isNumber q.1 = .ok q.2 := by decide +kernel
def tX7_isNumber_1 : List (Nat × (Instr × Nat)) := [(110, (.putfield 198, 3)), (113, (.iload_n 2, 1)), (114, (.ireturn, 1))]
theorem hX7_isNumber_1 : ∀ q ∈ tX7_isNumber_1, decode cX7_isNumber q.1 = .ok q.2 := by decide +kernel
def tX7_kindOf_0 : List (Nat × (Instr × Nat)) := [(0, (.iload_n 0, 1)), (1, (.lookupswitch 61 #[(97, 53), (104, 51), (110, 55), (114, 59), (115, 57)], 51)), (52, (.iconst 0, 1)), (53, (.ireturn, 1)), (54, (.iconst 1, 1)), (55, (.ireturn, 1)), (56, (.iconst 2, 1)), (57, (.ireturn, 1)), (58, (.iconst 3, 1)), (59, (.ireturn, 1)), (60, (.iconst 4, 1)), (61, (.ireturn, 1)), (62, (.iconst (-1), 1)), (63, (.ireturn, 1))]
theorem hX7_kindOf_0 : ∀ q ∈ tX7_kindOf_0, decode cX7_kindOf q.1 = .ok q.2 := by decide +kernel
def tX7_isItem_0 : List (Nat × (Instr × Nat)) := [(0, (.aload_n 0, 1)), (1, (.getfield 19, 3)), (4, (.aload_n 0, 1)), (5, (.getfield 198, 3)), (8, (.iaload, 1)), (9, (.invokestatic 207, 3)), (12, (.istore_n 1, 1)), (13, (.iload_n 1, 1)), (14, (.iconst (-1), 1)), (15, (.if_icmp .eq 14, 3)), (18, (.aload_n 0, 1)), (19, (.getfield 7, 3)), (22, (.iconst 1, 1)), (23, (.iaload, 1)), (24, (.bipush 60, 2)), (26, (.if_icmp .ne 5, 3)), (29, (.iconst 0, 1)), (30, (.ireturn, 1)), (31, (.aload_n 0, 1)), (32, (.dup, 1)), (33, (.getfield 198, 3)), (36, (.iconst 1, 1)), (37, (.iadd, 1)), (38, (.putfield 198, 3)), (41, (.iconst (-1), 1)), (42, (.istore_n 2, 1)), (43, (.iload_n 1, 1)), (44, (.iconst 2, 1)), (45, (.if_icmp .ne 45, 3)), (48, (.aload_n 0, 1)), (49, (.bipush 48, 2)), (51, (.bipush 57, 2)), (53, (.invokevirtual 201, 3)), (56, (.ifCond .ne 5, 3)), (59, (.iconst 0, 1)), (60, (.ireturn, 1)), (61, (.aload_n 0, 1)), (62, (.getfield 19, 3)), (65, (.aload_n 0, 1)), (66, (.getfield 198, 3)), (69, (.iaload, 1)), (70, (.bipush 48, 2)), (72, (.isub, 1)), (73, (.istore_n 2, 1)), (74, (.aload_n 0, 1)), (75, (.dup, 1)), (76, (.getfield 198, 3)), (79, (.iconst 1, 1)), (80, (.iadd, 1)), (81, (.putfield 198, 3)), (84, (.aload_n 0, 1)), (85, (.bipush 10, 2)), (87, (.putfield 204, 3)), (90, (.iload_n 1, 1)), (91, (.iconst 2, 1)), (92, (.if_icmp .ne 12, 3)), (95, (.aload_n 0, 1)), (96, (.bipush 44, 2)), (98, (.invokevirtual 210, 3)), (101, (.ifCond .eq 12, 3))]
theorem hX7_isItem_0 : ∀ q ∈ tX7_isItem_0, decode cX7_isItem q.1 = .ok q.2 := by decide +kernel
def tX7_isItem_1 : List (Nat × (Instr × Nat)) := [(104, (.aload_n 0, 1)), (105, (.invokevirtual 213, 3)), (108, (.ifCond .ne 5, 3)), (111, (.iconst 0, 1)), (112, (.ireturn, 1)), (113, (.aload_n 0, 1)), (114, (.bipush 59, 2)), (116, (.invokevirtual 210, 3)), (119, (.ifCond .ne 5, 3)), (122, (.iconst 0, 1)), (123, (.ireturn, 1)), (124, (.aload_n 0, 1)), (125, (.aload_n 0, 1)), (126, (.getfield 7, 3)), (129, (.iconst 1, 1)), (130, (.iaload, 1)), (131, (.iload_n 1, 1)), (132, (.aload_n 0, 1)), (133, (.getfield 204, 3)), (136, (.iload_n 2, 1)), (137, (.invokevirtual 138, 3)), (140, (.iconst 1, 1)), (141, (.ireturn, 1))]
theorem hX7_isItem_1 : ∀ q ∈ tX7_isItem_1, decode cX7_isItem q.1 = .ok q.2 := by decide +kernel
def tX7_parse_0 : List (Nat × (Instr × Nat)) := [(0, (.aload_n 0, 1)), (1, (.iconst 0, 1)), (2, (.putfield 43, 3)), (5, (.aload_n 0, 1)), (6, (.invokevirtual 135, 3)), (9, (.aload_n 0, 1)), (10, (.getfield 7, 3)), (13, (.iconst 1, 1)), (14, (.iconst 0, 1)), (15, (.iastore, 1)), (16, (.aload_n 0, 1)), (17, (.iconst 0, 1)), (18, (.putfield 198, 3)), (21, (.aload_n 0, 1)), (22, (.getfield 198, 3)), (25, (.aload_n 0, 1)), (26, (.getfield 195, 3)), (29, (.if_icmp .ge 29, 3)), (32, (.aload_n 0, 1)), (33, (.invokevirtual 216, 3)), (36, (.ifCond .ne (-15), 3)), (39, (.aload_n 0, 1)), (40, (.getfield 7, 3)), (43, (.aload_n 0, 1)), (44, (.getfield 16, 3)), (47, (.invokestatic 47, 3)), (50, (.bipush (-10), 2)), (52, (.aload_n 0, 1)), (53, (.getfield 198, 3)), (56, (.isub, 1)), (57, (.ireturn, 1)), (58, (.aload_n 0, 1)), (59, (.aload_n 0, 1)), (60, (.getfield 7, 3)), (63, (.iconst 1, 1)), (64, (.iaload, 1)), (65, (.invokevirtual 146, 3)), (68, (.ireturn, 1))]
theorem hX7_parse_0 : ∀ q ∈ tX7_parse_0, decode cX7_parse q.1 = .ok q.2 := by decide +kernel
def tX7_undo_0 : List (Nat × (Instr × Nat)) := [(0, (.aload_n 0, 1)), (1, (.getfield 51, 3)), (4, (.ifCond .ne 9, 3)), (7, (.aload_n 0, 1)), (8, (.iconst 1, 1)), (9, (.invokevirtual 129, 3)), (12, (.ireturn, 1)), (13, (.aload_n 0, 1)), (14, (.dup, 1)), (15, (.getfield 51, 3)), (18, (.iconst 1, 1)), (19, (.isub, 1)), (20, (.putfield 51, 3)), (23, (.iconst 0, 1)), (24, (.istore_n 1, 1)), (25, (.iload_n 1, 1)), (26, (.sipush 542, 3)), (29, (.if_icmp .ge 30, 3)), (32, (.aload_n 0, 1)), (33, (.getfield 7, 3)), (36, (.iload_n 1, 1)), (37, (.aload_n 0, 1)), (38, (.getfield 13, 3)), (41, (.sipush 542, 3)), (44, (.aload_n 0, 1)), (45, (.getfield 51, 3)), (48, (.imul, 1)), (49, (.iload_n 1, 1)), (50, (.iadd, 1)), (51, (.iaload, 1)), (52, (.iastore, 1)), (53, (.iinc 1 1, 3)), (56, (.goto (-31), 3)), (59, (.aload_n 0, 1)), (60, (.aload_n 0, 1)), (61, (.getfield 51, 3)), (64, (.invokevirtual 54, 3)), (67, (.ireturn, 1))]
theorem hX7_undo_0 : ∀ q ∈ tX7_undo_0, decode cX7_undo q.1 = .ok q.2 := by decide +kernel
def tX7_mix_0 : List (Nat × (Instr × Nat)) := [(0, (.aload_n 0, 1)), (1, (.ldc2_w 219, 3)), (4, (.aload_n 0, 1)), (5, (.getfield 221, 3)), (8, (.lmul, 1)), (9, (.iload_n 1, 1)), (10, (.i2l, 1)), (11, (.ladd, 1)), (12, (.putfield 221, 3)), (15, (.return_, 1))]
theorem hX7_mix_0 : ∀ q ∈ tX7_mix_0, decode cX7_mix q.1 = .ok q.2 := by decide +kernel
def tX7_digest_0 : List (Nat × (Instr × Nat)) := [(0, (.aload_n 0, 1)), (1, (.iconst 0, 1)), (2, (.putfield 43, 3)), (5, (.aload_n 0, 1)), (6, (.aload_n 0, 1)), (7, (.getfield 7, 3)), (10, (.iconst 0, 1)), (11, (.iaload, 1)), (12, (.invokevirtual 117, 3)), (15, (.aload_n 0, 1)), (16, (.ldc2_w 225, 3)), (19, (.putfield 221, 3)), (22, (.aload_n 0, 1)), (23, (.aload_n 0, 1)), (24, (.getfield 195, 3)), (27, (.invokevirtual 227, 3)), (30, (.iconst 0, 1)), (31, (.istore_n 1, 1)), (32, (.iload_n 1, 1)), (33, (.bipush 8, 2)), (35, (.if_icmp .ge 18, 3)), (38, (.aload_n 0, 1)), (39, (.aload_n 0, 1)), (40, (.iload_n 1, 1)), (41, (.invokevirtual 174, 3)), (44, (.invokevirtual 227, 3)), (47, (.iinc 1 1, 3)), (50, (.goto (-18), 3)), (53, (.iconst 0, 1)), (54, (.istore_n 1, 1)), (55, (.iload_n 1, 1)), (56, (.bipush 10, 2)), (58, (.aload_n 0, 1)), (59, (.getfield 7, 3)), (62, (.iconst 1, 1)), (63, (.iaload, 1)), (64, (.imul, 1)), (65, (.if_icmp .ge 25, 3)), (68, (.aload_n 0, 1)), (69, (.aload_n 0, 1)), (70, (.iload_n 1, 1)), (71, (.bipush 10, 2)), (73, (.idiv, 1)), (74, (.iload_n 1, 1)), (75, (.bipush 10, 2)), (77, (.irem, 1)), (78, (.invokevirtual 177, 3)), (81, (.invokevirtual 227, 3)), (84, (.iinc 1 1, 3)), (87, (.goto (-32), 3)), (90, (.aload_n 0, 1)), (91, (.invokevirtual 158, 3)), (94, (.istore_n 1, 1)), (95, (.iconst 0, 1)), (96, (.istore_n 2, 1)), (97, (.iload_n 2, 1)), (98, (.bipush 10, 2)), (100, (.iload_n 1, 1)), (101, (.imul, 1)), (102, (.if_icmp .ge 25, 3))]
theorem hX7_digest_0 : ∀ q ∈ tX7_digest_0, decode cX7_digest q.1 = .ok q.2 := by decide +kernel
def tX7_digest_1 : List (Nat × (Instr × Nat)) := [(105, (.aload_n 0, 1)), (106, (.aload_n 0, 1)), (107, (.iload_n 2, 1)), (108, (.bipush 10, 2)), (110, (.idiv, 1)), (111, (.iload_n 2, 1)), (112, (.bipush 10, 2)), (114, (.irem, 1)), (115, (.invokevirtual 180, 3)), (118, (.invokevirtual 227, 3)), (121, (.iinc 2 1, 3)), (124, (.goto (-27), 3)), (127, (.iconst 0, 1)), (128, (.istore_n 2, 1)), (129, (.iload_n 2, 1)), (130, (.iconst 5, 1)), (131, (.aload_n 0, 1)), (132, (.getfield 101, 3)), (135, (.imul, 1)), (136, (.if_icmp .ge 23, 3)), (139, (.aload_n 0, 1)), (140, (.aload_n 0, 1)), (141, (.iload_n 2, 1)), (142, (.iconst 5, 1)), (143, (.idiv, 1)), (144, (.iload_n 2, 1)), (145, (.iconst 5, 1)), (146, (.irem, 1)), (147, (.invokevirtual 186, 3)), (150, (.invokevirtual 227, 3)), (153, (.iinc 2 1, 3)), (156, (.goto (-27), 3)), (159, (.aload_n 0, 1)), (160, (.aload_n 0, 1)), (161, (.getfield 51, 3)), (164, (.invokevirtual 227, 3)), (167, (.aload_n 0, 1)), (168, (.getfield 221, 3)), (171, (.lreturn, 1))]
theorem hX7_digest_1 : ∀ q ∈ tX7_digest_1, decode cX7_digest q.1 = .ok q.2 := by decide +kernel
end
section
def tL_insert_0 : List (Nat × (Instr × Nat)) := [(0, (.aload 5, 2)), (2, (.iconst 0, 1)), (3, (.aload_n 0, 1)), (4, (.iload_n 1, 1)), (5, (.iload_n 2, 1)), (6, (.iload_n 3, 1)), (7, (.iload 4, 2)), (9, (.invokevirtual 7, 3)), (12, (.i2l, 1)), (13, (.lastore, 1)), (14, (.goto 15, 3)), (17, (.astore 6, 2)), (19, (.iconst 1, 1)), (20, (.ireturn, 1)), (21, (.astore 6, 2)), (23, (.iconst 2, 1)), (24, (.ireturn, 1)), (25, (.astore 6, 2)), (27, (.iconst 3, 1)), (28, (.ireturn, 1)), (29, (.iconst 0, 1)), (30, (.ireturn, 1))]
theorem hL_insert_0 : ∀ q ∈ tL_insert_0, decode cL_insert q.1 = .ok q.2 := by decide +kernel
def tL_remove_0 : List (Nat × (Instr × Nat)) := [(0, (.aload_n 2, 1)), (1, (.iconst 0, 1)), (2, (.aload_n 0, 1)), (3, (.iload_n 1, 1)), (4, (.invokevirtual 19, 3)), (7, (.i2l, 1)), (8, (.lastore, 1)), (9, (.goto 9, 3)), (12, (.astore_n 3, 1)), (13, (.iconst 1, 1)), (14, (.ireturn, 1)), (15, (.astore_n 3, 1)), (16, (.iconst 2, 1)), (17, (.ireturn, 1)), (18, (.iconst 0, 1)), (19, (.ireturn, 1))]
theorem hL_remove_0 : ∀ q ∈ tL_remove_0, decode cL_remove q.1 = .ok q.2 := by decide +kernel
def tL_setLength_0 : List (Nat × (Instr × Nat)) := [(0, (.aload_n 3, 1)), (1, (.iconst 0, 1)), (2, (.aload_n 0, 1)), (3, (.iload_n 1, 1)), (4, (.iload_n 2, 1)), (5, (.invokevirtual 23, 3)), (8, (.i2l, 1)), (9, (.lastore, 1)), (10, (.goto 11, 3)), (13, (.astore 4, 2)), (15, (.iconst 1, 1)), (16, (.ireturn, 1)), (17, (.astore 4, 2)), (19, (.iconst 2, 1)), (20, (.ireturn, 1)), (21, (.iconst 0, 1)), (22, (.ireturn, 1))]
theorem hL_setLength_0 : ∀ q ∈ tL_setLength_0, decode cL_setLength q.1 = .ok q.2 := by decide +kernel
def tL_setPage_0 : List (Nat × (Instr × Nat)) := [(0, (.aload_n 2, 1)), (1, (.iconst 0, 1)), (2, (.aload_n 0, 1)), (3, (.iload_n 1, 1)), (4, (.invokevirtual 27, 3)), (7, (.i2l, 1)), (8, (.lastore, 1)), (9, (.goto 6, 3)), (12, (.astore_n 3, 1)), (13, (.iconst 1, 1)), (14, (.ireturn, 1)), (15, (.iconst 0, 1)), (16, (.ireturn, 1))]
theorem hL_setPage_0 : ∀ q ∈ tL_setPage_0, decode cL_setPage q.1 = .ok q.2 := by decide +kernel
def tL_omit_0 : List (Nat × (Instr × Nat)) := [(0, (.aload_n 2, 1)), (1, (.iconst 0, 1)), (2, (.aload_n 0, 1)), (3, (.iload_n 1, 1)), (4, (.invokevirtual 30, 3)), (7, (.i2l, 1)), (8, (.lastore, 1)), (9, (.goto 9, 3)), (12, (.astore_n 3, 1)), (13, (.iconst 1, 1)), (14, (.ireturn, 1)), (15, (.astore_n 3, 1)), (16, (.iconst 2, 1)), (17, (.ireturn, 1)), (18, (.iconst 0, 1)), (19, (.ireturn, 1))]
theorem hL_omit_0 : ∀ q ∈ tL_omit_0, decode cL_omit q.1 = .ok q.2 := by decide +kernel
def tL_value_0 : List (Nat × (Instr × Nat)) := [(0, (.aload_n 2, 1)), (1, (.iconst 0, 1)), (2, (.aload_n 0, 1)), (3, (.iload_n 1, 1)), (4, (.invokevirtual 33, 3)), (7, (.i2l, 1)), (8, (.lastore, 1)), (9, (.goto 6, 3)), (12, (.astore_n 3, 1)), (13, (.iconst 1, 1)), (14, (.ireturn, 1)), (15, (.iconst 0, 1)), (16, (.ireturn, 1))]
theorem hL_value_0 : ∀ q ∈ tL_value_0, decode cL_value q.1 = .ok q.2 := by decide +kernel
def tL_element_0 : List (Nat × (Instr × Nat)) := [(0, (.aload_n 3, 1)), (1, (.iconst 0, 1)), (2, (.aload_n 0, 1)), (3, (.iload_n 1, 1)), (4, (.iload_n 2, 1)), (5, (.invokevirtual 36, 3)), (8, (.i2l, 1)), (9, (.lastore, 1)), (10, (.goto 11, 3)), (13, (.astore 4, 2)), (15, (.iconst 1, 1)), (16, (.ireturn, 1)), (17, (.astore 4, 2)), (19, (.iconst 2, 1)), (20, (.ireturn, 1)), (21, (.iconst 0, 1)), (22, (.ireturn, 1))]
theorem hL_element_0 : ∀ q ∈ tL_element_0, decode cL_element q.1 = .ok q.2 := by decide +kernel
def tL_scene_0 : List (Nat × (Instr × Nat)) := [(0, (.aload_n 3, 1)), (1, (.iconst 0, 1)), (2, (.aload_n 0, 1)), (3, (.iload_n 1, 1)), (4, (.iload_n 2, 1)), (5, (.invokevirtual 39, 3)), (8, (.i2l, 1)), (9, (.lastore, 1)), (10, (.goto 11, 3)), (13, (.astore 4, 2)), (15, (.iconst 1, 1)), (16, (.ireturn, 1)), (17, (.astore 4, 2)), (19, (.iconst 2, 1)), (20, (.ireturn, 1)), (21, (.iconst 0, 1)), (22, (.ireturn, 1))]
theorem hL_scene_0 : ∀ q ∈ tL_scene_0, decode cL_scene q.1 = .ok q.2 := by decide +kernel
def tL_page_0 : List (Nat × (Instr × Nat)) := [(0, (.aload_n 3, 1)), (1, (.iconst 0, 1)), (2, (.aload_n 0, 1)), (3, (.iload_n 1, 1)), (4, (.iload_n 2, 1)), (5, (.invokevirtual 42, 3)), (8, (.i2l, 1)), (9, (.lastore, 1)), (10, (.goto 11, 3)), (13, (.astore 4, 2)), (15, (.iconst 1, 1)), (16, (.ireturn, 1)), (17, (.astore 4, 2)), (19, (.iconst 2, 1)), (20, (.ireturn, 1)), (21, (.iconst 0, 1)), (22, (.ireturn, 1))]
theorem hL_page_0 : ∀ q ∈ tL_page_0, decode cL_page q.1 = .ok q.2 := by decide +kernel
def tL_names_0 : List (Nat × (Instr × Nat)) := [(0, (.aload_n 3, 1)), (1, (.iconst 0, 1)), (2, (.aload_n 0, 1)), (3, (.iload_n 1, 1)), (4, (.iload_n 2, 1)), (5, (.invokevirtual 45, 3)), (8, (.i2l, 1)), (9, (.lastore, 1)), (10, (.goto 7, 3)), (13, (.astore 4, 2)), (15, (.iconst 1, 1)), (16, (.ireturn, 1)), (17, (.iconst 0, 1)), (18, (.ireturn, 1))]
theorem hL_names_0 : ∀ q ∈ tL_names_0, decode cL_names q.1 = .ok q.2 := by decide +kernel
def tL_pagesWith_0 : List (Nat × (Instr × Nat)) := [(0, (.aload_n 2, 1)), (1, (.iconst 0, 1)), (2, (.aload_n 0, 1)), (3, (.iload_n 1, 1)), (4, (.invokevirtual 49, 3)), (7, (.i2l, 1)), (8, (.lastore, 1)), (9, (.goto 6, 3)), (12, (.astore_n 3, 1)), (13, (.iconst 1, 1)), (14, (.ireturn, 1)), (15, (.iconst 0, 1)), (16, (.ireturn, 1))]
theorem hL_pagesWith_0 : ∀ q ∈ tL_pagesWith_0, decode cL_pagesWith q.1 = .ok q.2 := by decide +kernel
def tL_smallestPage_0 : List (Nat × (Instr × Nat)) := [(0, (.aload_n 2, 1)), (1, (.iconst 0, 1)), (2, (.aload_n 0, 1)), (3, (.iload_n 1, 1)), (4, (.invokevirtual 52, 3)), (7, (.i2l, 1)), (8, (.lastore, 1)), (9, (.goto 6, 3)), (12, (.astore_n 3, 1)), (13, (.iconst 1, 1)), (14, (.ireturn, 1)), (15, (.iconst 0, 1)), (16, (.ireturn, 1))]
theorem hL_smallestPage_0 : ∀ q ∈ tL_smallestPage_0, decode cL_smallestPage q.1 = .ok q.2 := by decide +kernel
def tL_pagesBy_0 : List (Nat × (Instr × Nat)) := [(0, (.aload_n 3, 1)), (1, (.iconst 0, 1)), (2, (.aload_n 0, 1)), (3, (.iload_n 1, 1)), (4, (.iload_n 2, 1)), (5, (.invokevirtual 55, 3)), (8, (.i2l, 1)), (9, (.lastore, 1)), (10, (.goto 11, 3)), (13, (.astore 4, 2)), (15, (.iconst 1, 1)), (16, (.ireturn, 1)), (17, (.astore 4, 2)), (19, (.iconst 2, 1)), (20, (.ireturn, 1)), (21, (.iconst 0, 1)), (22, (.ireturn, 1))]
theorem hL_pagesBy_0 : ∀ q ∈ tL_pagesBy_0, decode cL_pagesBy q.1 = .ok q.2 := by decide +kernel
def tL_greatestLength_0 : List (Nat × (Instr × Nat)) := [(0, (.aload_n 2, 1)), (1, (.iconst 0, 1)), (2, (.aload_n 0, 1)), (3, (.iload_n 1, 1)), (4, (.invokevirtual 58, 3)), (7, (.i2l, 1)), (8, (.lastore, 1)), (9, (.goto 6, 3)), (12, (.astore_n 3, 1)), (13, (.iconst 1, 1)), (14, (.ireturn, 1)), (15, (.iconst 0, 1)), (16, (.ireturn, 1))]
theorem hL_greatestLength_0 : ∀ q ∈ tL_greatestLength_0, decode cL_greatestLength q.1 = .ok q.2 := by decide +kernel
def tL_append_0 : List (Nat × (Instr × Nat)) := [(0, (.aload_n 2, 1)), (1, (.iconst 0, 1)), (2, (.aload_n 0, 1)), (3, (.iload_n 1, 1)), (4, (.invokevirtual 61, 3)), (7, (.i2l, 1)), (8, (.lastore, 1)), (9, (.goto 9, 3)), (12, (.astore_n 3, 1)), (13, (.iconst 1, 1)), (14, (.ireturn, 1)), (15, (.astore_n 3, 1)), (16, (.iconst 2, 1)), (17, (.ireturn, 1)), (18, (.iconst 0, 1)), (19, (.ireturn, 1))]
theorem hL_append_0 : ∀ q ∈ tL_append_0, decode cL_append q.1 = .ok q.2 := by decide +kernel
def tL_undo_0 : List (Nat × (Instr × Nat)) := [(0, (.aload_n 1, 1)), (1, (.iconst 0, 1)), (2, (.aload_n 0, 1)), (3, (.invokevirtual 64, 3)), (6, (.i2l, 1)), (7, (.lastore, 1)), (8, (.goto 6, 3)), (11, (.astore_n 2, 1)), (12, (.iconst 1, 1)), (13, (.ireturn, 1)), (14, (.iconst 0, 1)), (15, (.ireturn, 1))]
theorem hL_undo_0 : ∀ q ∈ tL_undo_0, decode cL_undo q.1 = .ok q.2 := by decide +kernel
def tL_law_0 : List (Nat × (Instr × Nat)) := [(0, (.new 8, 3)), (3, (.dup, 1)), (4, (.invokespecial 68, 3)), (7, (.astore_n 1, 1)), (8, (.new 69, 3)), (11, (.dup, 1)), (12, (.invokespecial 71, 3)), (15, (.astore_n 2, 1)), (16, (.iconst 1, 1)), (17, (.newarray .long, 2)), (19, (.astore_n 3, 1)), (20, (.iconst 0, 1)), (21, (.istore 4, 2)), (23, (.iload 4, 2)), (25, (.aload_n 0, 1)), (26, (.arraylength, 1)), (27, (.iconst 5, 1)), (28, (.isub, 1)), (29, (.if_icmp .gt 1285, 3)), (32, (.aload_n 0, 1)), (33, (.iload 4, 2)), (35, (.iaload, 1)), (36, (.bipush 31, 2)), (38, (.iand, 1)), (39, (.tableswitch 1269 0 22 #[105, 197, 253, 321, 377, 390, 446, 459, 515, 583, 651, 719, 768, 852, 893, 949, 1005, 1073, 1129, 1185, 1198, 1211, 1255], 105)), (144, (.aload_n 1, 1)), (145, (.aload_n 0, 1)), (146, (.iload 4, 2)), (148, (.iconst 1, 1)), (149, (.iadd, 1)), (150, (.iaload, 1)), (151, (.aload_n 0, 1)), (152, (.iload 4, 2)), (154, (.iconst 2, 1)), (155, (.iadd, 1)), (156, (.iaload, 1)), (157, (.aload_n 0, 1)), (158, (.iload 4, 2)), (160, (.iconst 3, 1)), (161, (.iadd, 1)), (162, (.iaload, 1)), (163, (.aload_n 0, 1)), (164, (.iload 4, 2)), (166, (.iconst 4, 1)), (167, (.iadd, 1)), (168, (.iaload, 1)), (169, (.aload_n 3, 1)), (170, (.invokestatic 72, 3)), (173, (.istore 5, 2)), (175, (.aload_n 2, 1)), (176, (.aload_n 0, 1)), (177, (.iload 4, 2)), (179, (.iconst 1, 1)), (180, (.iadd, 1)), (181, (.iaload, 1)), (182, (.aload_n 0, 1)), (183, (.iload 4, 2)), (185, (.iconst 2, 1)), (186, (.iadd, 1)), (187, (.iaload, 1))]
theorem hL_law_0 : ∀ q ∈ tL_law_0, decode cL_law q.1 = .ok q.2 := by decide +kernel
def tL_law_1 : List (Nat × (Instr × Nat)) := [(188, (.aload_n 0, 1)), (189, (.iload 4, 2)), (191, (.iconst 3, 1)), (192, (.iadd, 1)), (193, (.iaload, 1)), (194, (.aload_n 0, 1)), (195, (.iload 4, 2)), (197, (.iconst 4, 1)), (198, (.iadd, 1)), (199, (.iaload, 1)), (200, (.invokevirtual 77, 3)), (203, (.istore 6, 2)), (205, (.aload_n 2, 1)), (206, (.invokevirtual 78, 3)), (209, (.iload 5, 2)), (211, (.if_icmp .eq 5, 3)), (214, (.iconst 0, 1)), (215, (.ireturn, 1)), (216, (.iload 5, 2)), (218, (.ifCond .ne 15, 3)), (221, (.aload_n 3, 1)), (222, (.iconst 0, 1)), (223, (.laload, 1)), (224, (.iload 6, 2)), (226, (.i2l, 1)), (227, (.lcmp, 1)), (228, (.ifCond .eq 5, 3)), (231, (.iconst 0, 1)), (232, (.ireturn, 1)), (233, (.goto 1075, 3)), (236, (.aload_n 1, 1)), (237, (.aload_n 0, 1)), (238, (.iload 4, 2)), (240, (.iconst 1, 1)), (241, (.iadd, 1)), (242, (.iaload, 1)), (243, (.aload_n 3, 1)), (244, (.invokestatic 81, 3)), (247, (.istore 5, 2)), (249, (.aload_n 2, 1)), (250, (.aload_n 0, 1)), (251, (.iload 4, 2)), (253, (.iconst 1, 1)), (254, (.iadd, 1)), (255, (.iaload, 1)), (256, (.invokevirtual 84, 3)), (259, (.istore 6, 2)), (261, (.aload_n 2, 1)), (262, (.invokevirtual 78, 3)), (265, (.iload 5, 2)), (267, (.if_icmp .eq 5, 3)), (270, (.iconst 0, 1)), (271, (.ireturn, 1)), (272, (.iload 5, 2)), (274, (.ifCond .ne 15, 3)), (277, (.aload_n 3, 1)), (278, (.iconst 0, 1)), (279, (.laload, 1)), (280, (.iload 6, 2)), (282, (.i2l, 1))]
theorem hL_law_1 : ∀ q ∈ tL_law_1, decode cL_law q.1 = .ok q.2 := by decide +kernel
def tL_law_2 : List (Nat × (Instr × Nat)) := [(283, (.lcmp, 1)), (284, (.ifCond .eq 5, 3)), (287, (.iconst 0, 1)), (288, (.ireturn, 1)), (289, (.goto 1019, 3)), (292, (.aload_n 1, 1)), (293, (.aload_n 0, 1)), (294, (.iload 4, 2)), (296, (.iconst 1, 1)), (297, (.iadd, 1)), (298, (.iaload, 1)), (299, (.aload_n 0, 1)), (300, (.iload 4, 2)), (302, (.iconst 2, 1)), (303, (.iadd, 1)), (304, (.iaload, 1)), (305, (.aload_n 3, 1)), (306, (.invokestatic 85, 3)), (309, (.istore 5, 2)), (311, (.aload_n 2, 1)), (312, (.aload_n 0, 1)), (313, (.iload 4, 2)), (315, (.iconst 1, 1)), (316, (.iadd, 1)), (317, (.iaload, 1)), (318, (.aload_n 0, 1)), (319, (.iload 4, 2)), (321, (.iconst 2, 1)), (322, (.iadd, 1)), (323, (.iaload, 1)), (324, (.invokevirtual 88, 3)), (327, (.istore 6, 2)), (329, (.aload_n 2, 1)), (330, (.invokevirtual 78, 3)), (333, (.iload 5, 2)), (335, (.if_icmp .eq 5, 3)), (338, (.iconst 0, 1)), (339, (.ireturn, 1)), (340, (.iload 5, 2)), (342, (.ifCond .ne 15, 3)), (345, (.aload_n 3, 1)), (346, (.iconst 0, 1)), (347, (.laload, 1)), (348, (.iload 6, 2)), (350, (.i2l, 1)), (351, (.lcmp, 1)), (352, (.ifCond .eq 5, 3)), (355, (.iconst 0, 1)), (356, (.ireturn, 1)), (357, (.goto 951, 3)), (360, (.aload_n 1, 1)), (361, (.aload_n 0, 1)), (362, (.iload 4, 2)), (364, (.iconst 1, 1)), (365, (.iadd, 1)), (366, (.iaload, 1)), (367, (.aload_n 3, 1)), (368, (.invokestatic 89, 3)), (371, (.istore 5, 2)), (373, (.aload_n 2, 1))]
theorem hL_law_2 : ∀ q ∈ tL_law_2, decode cL_law q.1 = .ok q.2 := by decide +kernel
def tL_law_3 : List (Nat × (Instr × Nat)) := [(374, (.aload_n 0, 1)), (375, (.iload 4, 2)), (377, (.iconst 1, 1)), (378, (.iadd, 1)), (379, (.iaload, 1)), (380, (.invokevirtual 91, 3)), (383, (.istore 6, 2)), (385, (.aload_n 2, 1)), (386, (.invokevirtual 78, 3)), (389, (.iload 5, 2)), (391, (.if_icmp .eq 5, 3)), (394, (.iconst 0, 1)), (395, (.ireturn, 1)), (396, (.iload 5, 2)), (398, (.ifCond .ne 15, 3)), (401, (.aload_n 3, 1)), (402, (.iconst 0, 1)), (403, (.laload, 1)), (404, (.iload 6, 2)), (406, (.i2l, 1)), (407, (.lcmp, 1)), (408, (.ifCond .eq 5, 3)), (411, (.iconst 0, 1)), (412, (.ireturn, 1)), (413, (.goto 895, 3)), (416, (.aload_n 1, 1)), (417, (.invokevirtual 92, 3)), (420, (.aload_n 2, 1)), (421, (.invokevirtual 95, 3)), (424, (.if_icmp .eq 884, 3)), (427, (.iconst 0, 1)), (428, (.ireturn, 1)), (429, (.aload_n 1, 1)), (430, (.aload_n 0, 1)), (431, (.iload 4, 2)), (433, (.iconst 1, 1)), (434, (.iadd, 1)), (435, (.iaload, 1)), (436, (.aload_n 3, 1)), (437, (.invokestatic 96, 3)), (440, (.istore 5, 2)), (442, (.aload_n 2, 1)), (443, (.aload_n 0, 1)), (444, (.iload 4, 2)), (446, (.iconst 1, 1)), (447, (.iadd, 1)), (448, (.iaload, 1)), (449, (.invokevirtual 98, 3)), (452, (.istore 6, 2)), (454, (.aload_n 2, 1)), (455, (.invokevirtual 78, 3)), (458, (.iload 5, 2)), (460, (.if_icmp .eq 5, 3)), (463, (.iconst 0, 1)), (464, (.ireturn, 1)), (465, (.iload 5, 2)), (467, (.ifCond .ne 15, 3)), (470, (.aload_n 3, 1)), (471, (.iconst 0, 1)), (472, (.laload, 1))]
theorem hL_law_3 : ∀ q ∈ tL_law_3, decode cL_law q.1 = .ok q.2 := by decide +kernel
def tL_law_4 : List (Nat × (Instr × Nat)) := [(473, (.iload 6, 2)), (475, (.i2l, 1)), (476, (.lcmp, 1)), (477, (.ifCond .eq 5, 3)), (480, (.iconst 0, 1)), (481, (.ireturn, 1)), (482, (.goto 826, 3)), (485, (.aload_n 1, 1)), (486, (.invokevirtual 99, 3)), (489, (.aload_n 2, 1)), (490, (.invokevirtual 102, 3)), (493, (.if_icmp .eq 815, 3)), (496, (.iconst 0, 1)), (497, (.ireturn, 1)), (498, (.aload_n 1, 1)), (499, (.aload_n 0, 1)), (500, (.iload 4, 2)), (502, (.iconst 1, 1)), (503, (.iadd, 1)), (504, (.iaload, 1)), (505, (.aload_n 3, 1)), (506, (.invokestatic 103, 3)), (509, (.istore 5, 2)), (511, (.aload_n 2, 1)), (512, (.aload_n 0, 1)), (513, (.iload 4, 2)), (515, (.iconst 1, 1)), (516, (.iadd, 1)), (517, (.iaload, 1)), (518, (.invokevirtual 105, 3)), (521, (.istore 6, 2)), (523, (.aload_n 2, 1)), (524, (.invokevirtual 78, 3)), (527, (.iload 5, 2)), (529, (.if_icmp .eq 5, 3)), (532, (.iconst 0, 1)), (533, (.ireturn, 1)), (534, (.iload 5, 2)), (536, (.ifCond .ne 15, 3)), (539, (.aload_n 3, 1)), (540, (.iconst 0, 1)), (541, (.laload, 1)), (542, (.iload 6, 2)), (544, (.i2l, 1)), (545, (.lcmp, 1)), (546, (.ifCond .eq 5, 3)), (549, (.iconst 0, 1)), (550, (.ireturn, 1)), (551, (.goto 757, 3)), (554, (.aload_n 1, 1)), (555, (.aload_n 0, 1)), (556, (.iload 4, 2)), (558, (.iconst 1, 1)), (559, (.iadd, 1)), (560, (.iaload, 1)), (561, (.aload_n 0, 1)), (562, (.iload 4, 2)), (564, (.iconst 2, 1)), (565, (.iadd, 1)), (566, (.iaload, 1))]
theorem hL_law_4 : ∀ q ∈ tL_law_4, decode cL_law q.1 = .ok q.2 := by decide +kernel
def tL_law_5 : List (Nat × (Instr × Nat)) := [(567, (.aload_n 3, 1)), (568, (.invokestatic 106, 3)), (571, (.istore 5, 2)), (573, (.aload_n 2, 1)), (574, (.aload_n 0, 1)), (575, (.iload 4, 2)), (577, (.iconst 1, 1)), (578, (.iadd, 1)), (579, (.iaload, 1)), (580, (.aload_n 0, 1)), (581, (.iload 4, 2)), (583, (.iconst 2, 1)), (584, (.iadd, 1)), (585, (.iaload, 1)), (586, (.invokevirtual 108, 3)), (589, (.istore 6, 2)), (591, (.aload_n 2, 1)), (592, (.invokevirtual 78, 3)), (595, (.iload 5, 2)), (597, (.if_icmp .eq 5, 3)), (600, (.iconst 0, 1)), (601, (.ireturn, 1)), (602, (.iload 5, 2)), (604, (.ifCond .ne 15, 3)), (607, (.aload_n 3, 1)), (608, (.iconst 0, 1)), (609, (.laload, 1)), (610, (.iload 6, 2)), (612, (.i2l, 1)), (613, (.lcmp, 1)), (614, (.ifCond .eq 5, 3)), (617, (.iconst 0, 1)), (618, (.ireturn, 1)), (619, (.goto 689, 3)), (622, (.aload_n 1, 1)), (623, (.aload_n 0, 1)), (624, (.iload 4, 2)), (626, (.iconst 1, 1)), (627, (.iadd, 1)), (628, (.iaload, 1)), (629, (.aload_n 0, 1)), (630, (.iload 4, 2)), (632, (.iconst 2, 1)), (633, (.iadd, 1)), (634, (.iaload, 1)), (635, (.aload_n 3, 1)), (636, (.invokestatic 109, 3)), (639, (.istore 5, 2)), (641, (.aload_n 2, 1)), (642, (.aload_n 0, 1)), (643, (.iload 4, 2)), (645, (.iconst 1, 1)), (646, (.iadd, 1)), (647, (.iaload, 1)), (648, (.aload_n 0, 1)), (649, (.iload 4, 2)), (651, (.iconst 2, 1)), (652, (.iadd, 1)), (653, (.iaload, 1)), (654, (.invokevirtual 111, 3))]
theorem hL_law_5 : ∀ q ∈ tL_law_5, decode cL_law q.1 = .ok q.2 := by decide +kernel
def tL_law_6 : List (Nat × (Instr × Nat)) := [(657, (.istore 6, 2)), (659, (.aload_n 2, 1)), (660, (.invokevirtual 78, 3)), (663, (.iload 5, 2)), (665, (.if_icmp .eq 5, 3)), (668, (.iconst 0, 1)), (669, (.ireturn, 1)), (670, (.iload 5, 2)), (672, (.ifCond .ne 15, 3)), (675, (.aload_n 3, 1)), (676, (.iconst 0, 1)), (677, (.laload, 1)), (678, (.iload 6, 2)), (680, (.i2l, 1)), (681, (.lcmp, 1)), (682, (.ifCond .eq 5, 3)), (685, (.iconst 0, 1)), (686, (.ireturn, 1)), (687, (.goto 621, 3)), (690, (.aload_n 1, 1)), (691, (.aload_n 0, 1)), (692, (.iload 4, 2)), (694, (.iconst 1, 1)), (695, (.iadd, 1)), (696, (.iaload, 1)), (697, (.aload_n 0, 1)), (698, (.iload 4, 2)), (700, (.iconst 2, 1)), (701, (.iadd, 1)), (702, (.iaload, 1)), (703, (.aload_n 3, 1)), (704, (.invokestatic 112, 3)), (707, (.istore 5, 2)), (709, (.aload_n 2, 1)), (710, (.aload_n 0, 1)), (711, (.iload 4, 2)), (713, (.iconst 1, 1)), (714, (.iadd, 1)), (715, (.iaload, 1)), (716, (.aload_n 0, 1)), (717, (.iload 4, 2)), (719, (.iconst 2, 1)), (720, (.iadd, 1)), (721, (.iaload, 1)), (722, (.invokevirtual 114, 3)), (725, (.istore 6, 2)), (727, (.aload_n 2, 1)), (728, (.invokevirtual 78, 3)), (731, (.iload 5, 2)), (733, (.if_icmp .eq 5, 3)), (736, (.iconst 0, 1)), (737, (.ireturn, 1)), (738, (.iload 5, 2)), (740, (.ifCond .ne 15, 3)), (743, (.aload_n 3, 1)), (744, (.iconst 0, 1)), (745, (.laload, 1)), (746, (.iload 6, 2)), (748, (.i2l, 1)), (749, (.lcmp, 1))]
theorem hL_law_6 : ∀ q ∈ tL_law_6, decode cL_law q.1 = .ok q.2 := by decide +kernel
def tL_law_7 : List (Nat × (Instr × Nat)) := [(750, (.ifCond .eq 5, 3)), (753, (.iconst 0, 1)), (754, (.ireturn, 1)), (755, (.goto 553, 3)), (758, (.aload_n 1, 1)), (759, (.aload_n 0, 1)), (760, (.iload 4, 2)), (762, (.iconst 1, 1)), (763, (.iadd, 1)), (764, (.iaload, 1)), (765, (.aload_n 0, 1)), (766, (.iload 4, 2)), (768, (.iconst 2, 1)), (769, (.iadd, 1)), (770, (.iaload, 1)), (771, (.aload_n 0, 1)), (772, (.iload 4, 2)), (774, (.iconst 3, 1)), (775, (.iadd, 1)), (776, (.iaload, 1)), (777, (.invokevirtual 115, 3)), (780, (.aload_n 2, 1)), (781, (.aload_n 0, 1)), (782, (.iload 4, 2)), (784, (.iconst 1, 1)), (785, (.iadd, 1)), (786, (.iaload, 1)), (787, (.aload_n 0, 1)), (788, (.iload 4, 2)), (790, (.iconst 2, 1)), (791, (.iadd, 1)), (792, (.iaload, 1)), (793, (.aload_n 0, 1)), (794, (.iload 4, 2)), (796, (.iconst 3, 1)), (797, (.iadd, 1)), (798, (.iaload, 1)), (799, (.invokevirtual 119, 3)), (802, (.if_icmp .eq 506, 3)), (805, (.iconst 0, 1)), (806, (.ireturn, 1)), (807, (.aload_n 1, 1)), (808, (.aload_n 0, 1)), (809, (.iload 4, 2)), (811, (.iconst 1, 1)), (812, (.iadd, 1)), (813, (.iaload, 1)), (814, (.aload_n 0, 1)), (815, (.iload 4, 2)), (817, (.iconst 2, 1)), (818, (.iadd, 1)), (819, (.iaload, 1)), (820, (.ifCond .eq 7, 3)), (823, (.iconst 1, 1)), (824, (.goto 4, 3)), (827, (.iconst 0, 1)), (828, (.aload_n 3, 1)), (829, (.invokestatic 120, 3)), (832, (.istore 5, 2)), (834, (.aload_n 2, 1))]
theorem hL_law_7 : ∀ q ∈ tL_law_7, decode cL_law q.1 = .ok q.2 := by decide +kernel
def tL_law_8 : List (Nat × (Instr × Nat)) := [(835, (.aload_n 0, 1)), (836, (.iload 4, 2)), (838, (.iconst 1, 1)), (839, (.iadd, 1)), (840, (.iaload, 1)), (841, (.aload_n 0, 1)), (842, (.iload 4, 2)), (844, (.iconst 2, 1)), (845, (.iadd, 1)), (846, (.iaload, 1)), (847, (.ifCond .eq 7, 3)), (850, (.iconst 1, 1)), (851, (.goto 4, 3)), (854, (.iconst 0, 1)), (855, (.invokevirtual 123, 3)), (858, (.istore 6, 2)), (860, (.aload_n 2, 1)), (861, (.invokevirtual 78, 3)), (864, (.iload 5, 2)), (866, (.if_icmp .eq 5, 3)), (869, (.iconst 0, 1)), (870, (.ireturn, 1)), (871, (.iload 5, 2)), (873, (.ifCond .ne 15, 3)), (876, (.aload_n 3, 1)), (877, (.iconst 0, 1)), (878, (.laload, 1)), (879, (.iload 6, 2)), (881, (.i2l, 1)), (882, (.lcmp, 1)), (883, (.ifCond .eq 5, 3)), (886, (.iconst 0, 1)), (887, (.ireturn, 1)), (888, (.goto 420, 3)), (891, (.aload_n 1, 1)), (892, (.invokevirtual 124, 3)), (895, (.dstore 5, 2)), (897, (.aload_n 2, 1)), (898, (.invokevirtual 128, 3)), (901, (.dstore 7, 2)), (903, (.dload 5, 2)), (905, (.dload 7, 2)), (907, (.dcmp .l, 1)), (908, (.ifCond .eq 21, 3)), (911, (.dload 5, 2)), (913, (.dload 5, 2)), (915, (.dcmp .l, 1)), (916, (.ifCond .eq 11, 3)), (919, (.dload 7, 2)), (921, (.dload 7, 2)), (923, (.dcmp .l, 1)), (924, (.ifCond .ne 5, 3)), (927, (.iconst 0, 1)), (928, (.ireturn, 1)), (929, (.goto 379, 3)), (932, (.aload_n 1, 1)), (933, (.aload_n 0, 1)), (934, (.iload 4, 2)), (936, (.iconst 1, 1)), (937, (.iadd, 1))]
theorem hL_law_8 : ∀ q ∈ tL_law_8, decode cL_law q.1 = .ok q.2 := by decide +kernel
def tL_law_9 : List (Nat × (Instr × Nat)) := [(938, (.iaload, 1)), (939, (.aload_n 3, 1)), (940, (.invokestatic 129, 3)), (943, (.istore 5, 2)), (945, (.aload_n 2, 1)), (946, (.aload_n 0, 1)), (947, (.iload 4, 2)), (949, (.iconst 1, 1)), (950, (.iadd, 1)), (951, (.iaload, 1)), (952, (.invokevirtual 131, 3)), (955, (.istore 6, 2)), (957, (.aload_n 2, 1)), (958, (.invokevirtual 78, 3)), (961, (.iload 5, 2)), (963, (.if_icmp .eq 5, 3)), (966, (.iconst 0, 1)), (967, (.ireturn, 1)), (968, (.iload 5, 2)), (970, (.ifCond .ne 15, 3)), (973, (.aload_n 3, 1)), (974, (.iconst 0, 1)), (975, (.laload, 1)), (976, (.iload 6, 2)), (978, (.i2l, 1)), (979, (.lcmp, 1)), (980, (.ifCond .eq 5, 3)), (983, (.iconst 0, 1)), (984, (.ireturn, 1)), (985, (.goto 323, 3)), (988, (.aload_n 1, 1)), (989, (.aload_n 0, 1)), (990, (.iload 4, 2)), (992, (.iconst 1, 1)), (993, (.iadd, 1)), (994, (.iaload, 1)), (995, (.aload_n 3, 1)), (996, (.invokestatic 132, 3)), (999, (.istore 5, 2)), (1001, (.aload_n 2, 1)), (1002, (.aload_n 0, 1)), (1003, (.iload 4, 2)), (1005, (.iconst 1, 1)), (1006, (.iadd, 1)), (1007, (.iaload, 1)), (1008, (.invokevirtual 134, 3)), (1011, (.istore 6, 2)), (1013, (.aload_n 2, 1)), (1014, (.invokevirtual 78, 3)), (1017, (.iload 5, 2)), (1019, (.if_icmp .eq 5, 3)), (1022, (.iconst 0, 1)), (1023, (.ireturn, 1)), (1024, (.iload 5, 2)), (1026, (.ifCond .ne 15, 3)), (1029, (.aload_n 3, 1)), (1030, (.iconst 0, 1)), (1031, (.laload, 1)), (1032, (.iload 6, 2)), (1034, (.i2l, 1))]
theorem hL_law_9 : ∀ q ∈ tL_law_9, decode cL_law q.1 = .ok q.2 := by decide +kernel
def tL_law_10 : List (Nat × (Instr × Nat)) := [(1035, (.lcmp, 1)), (1036, (.ifCond .eq 5, 3)), (1039, (.iconst 0, 1)), (1040, (.ireturn, 1)), (1041, (.goto 267, 3)), (1044, (.aload_n 1, 1)), (1045, (.aload_n 0, 1)), (1046, (.iload 4, 2)), (1048, (.iconst 1, 1)), (1049, (.iadd, 1)), (1050, (.iaload, 1)), (1051, (.aload_n 0, 1)), (1052, (.iload 4, 2)), (1054, (.iconst 2, 1)), (1055, (.iadd, 1)), (1056, (.iaload, 1)), (1057, (.aload_n 3, 1)), (1058, (.invokestatic 135, 3)), (1061, (.istore 5, 2)), (1063, (.aload_n 2, 1)), (1064, (.aload_n 0, 1)), (1065, (.iload 4, 2)), (1067, (.iconst 1, 1)), (1068, (.iadd, 1)), (1069, (.iaload, 1)), (1070, (.aload_n 0, 1)), (1071, (.iload 4, 2)), (1073, (.iconst 2, 1)), (1074, (.iadd, 1)), (1075, (.iaload, 1)), (1076, (.invokevirtual 137, 3)), (1079, (.istore 6, 2)), (1081, (.aload_n 2, 1)), (1082, (.invokevirtual 78, 3)), (1085, (.iload 5, 2)), (1087, (.if_icmp .eq 5, 3)), (1090, (.iconst 0, 1)), (1091, (.ireturn, 1)), (1092, (.iload 5, 2)), (1094, (.ifCond .ne 15, 3)), (1097, (.aload_n 3, 1)), (1098, (.iconst 0, 1)), (1099, (.laload, 1)), (1100, (.iload 6, 2)), (1102, (.i2l, 1)), (1103, (.lcmp, 1)), (1104, (.ifCond .eq 5, 3)), (1107, (.iconst 0, 1)), (1108, (.ireturn, 1)), (1109, (.goto 199, 3)), (1112, (.aload_n 1, 1)), (1113, (.aload_n 0, 1)), (1114, (.iload 4, 2)), (1116, (.iconst 1, 1)), (1117, (.iadd, 1)), (1118, (.iaload, 1)), (1119, (.aload_n 3, 1)), (1120, (.invokestatic 138, 3)), (1123, (.istore 5, 2)), (1125, (.aload_n 2, 1))]
theorem hL_law_10 : ∀ q ∈ tL_law_10, decode cL_law q.1 = .ok q.2 := by decide +kernel
def tL_law_11 : List (Nat × (Instr × Nat)) := [(1126, (.aload_n 0, 1)), (1127, (.iload 4, 2)), (1129, (.iconst 1, 1)), (1130, (.iadd, 1)), (1131, (.iaload, 1)), (1132, (.invokevirtual 140, 3)), (1135, (.istore 6, 2)), (1137, (.aload_n 2, 1)), (1138, (.invokevirtual 78, 3)), (1141, (.iload 5, 2)), (1143, (.if_icmp .eq 5, 3)), (1146, (.iconst 0, 1)), (1147, (.ireturn, 1)), (1148, (.iload 5, 2)), (1150, (.ifCond .ne 15, 3)), (1153, (.aload_n 3, 1)), (1154, (.iconst 0, 1)), (1155, (.laload, 1)), (1156, (.iload 6, 2)), (1158, (.i2l, 1)), (1159, (.lcmp, 1)), (1160, (.ifCond .eq 5, 3)), (1163, (.iconst 0, 1)), (1164, (.ireturn, 1)), (1165, (.goto 143, 3)), (1168, (.aload_n 1, 1)), (1169, (.aload_n 0, 1)), (1170, (.iload 4, 2)), (1172, (.iconst 1, 1)), (1173, (.iadd, 1)), (1174, (.iaload, 1)), (1175, (.aload_n 3, 1)), (1176, (.invokestatic 141, 3)), (1179, (.istore 5, 2)), (1181, (.aload_n 2, 1)), (1182, (.aload_n 0, 1)), (1183, (.iload 4, 2)), (1185, (.iconst 1, 1)), (1186, (.iadd, 1)), (1187, (.iaload, 1)), (1188, (.invokevirtual 143, 3)), (1191, (.istore 6, 2)), (1193, (.aload_n 2, 1)), (1194, (.invokevirtual 78, 3)), (1197, (.iload 5, 2)), (1199, (.if_icmp .eq 5, 3)), (1202, (.iconst 0, 1)), (1203, (.ireturn, 1)), (1204, (.iload 5, 2)), (1206, (.ifCond .ne 15, 3)), (1209, (.aload_n 3, 1)), (1210, (.iconst 0, 1)), (1211, (.laload, 1)), (1212, (.iload 6, 2)), (1214, (.i2l, 1)), (1215, (.lcmp, 1)), (1216, (.ifCond .eq 5, 3)), (1219, (.iconst 0, 1)), (1220, (.ireturn, 1)), (1221, (.goto 87, 3))]
theorem hL_law_11 : ∀ q ∈ tL_law_11, decode cL_law q.1 = .ok q.2 := by decide +kernel
def tL_law_12 : List (Nat × (Instr × Nat)) := [(1224, (.aload_n 1, 1)), (1225, (.invokevirtual 144, 3)), (1228, (.aload_n 2, 1)), (1229, (.invokevirtual 147, 3)), (1232, (.if_icmp .eq 76, 3)), (1235, (.iconst 0, 1)), (1236, (.ireturn, 1)), (1237, (.aload_n 1, 1)), (1238, (.invokevirtual 148, 3)), (1241, (.aload_n 2, 1)), (1242, (.invokevirtual 151, 3)), (1245, (.if_icmp .eq 63, 3)), (1248, (.iconst 0, 1)), (1249, (.ireturn, 1)), (1250, (.aload_n 1, 1)), (1251, (.aload_n 3, 1)), (1252, (.invokestatic 152, 3)), (1255, (.istore 5, 2)), (1257, (.aload_n 2, 1)), (1258, (.invokevirtual 155, 3)), (1261, (.istore 6, 2)), (1263, (.aload_n 2, 1)), (1264, (.invokevirtual 78, 3)), (1267, (.iload 5, 2)), (1269, (.if_icmp .eq 5, 3)), (1272, (.iconst 0, 1)), (1273, (.ireturn, 1)), (1274, (.iload 5, 2)), (1276, (.ifCond .ne 15, 3)), (1279, (.aload_n 3, 1)), (1280, (.iconst 0, 1)), (1281, (.laload, 1)), (1282, (.iload 6, 2)), (1284, (.i2l, 1)), (1285, (.lcmp, 1)), (1286, (.ifCond .eq 5, 3)), (1289, (.iconst 0, 1)), (1290, (.ireturn, 1)), (1291, (.goto 17, 3)), (1294, (.aload_n 1, 1)), (1295, (.invokevirtual 156, 3)), (1298, (.aload_n 2, 1)), (1299, (.invokevirtual 160, 3)), (1302, (.lcmp, 1)), (1303, (.ifCond .eq 5, 3)), (1306, (.iconst 0, 1)), (1307, (.ireturn, 1)), (1308, (.iinc 4 5, 3)), (1311, (.goto (-1288), 3)), (1314, (.iconst 1, 1)), (1315, (.ireturn, 1))]
theorem hL_law_12 : ∀ q ∈ tL_law_12, decode cL_law q.1 = .ok q.2 := by decide +kernel
end
section
-- worlds of this claim, loops, and what the walks need beside the wrappers
abbrev Rw : Type := Nat → Int32
abbrev t_Reader : Type := Int32 × Int32 × Int32
def w_Row (cI : ClassId) (n a q : Nat) (f : Rw) : va_W := [(a, .inr (3, [.ref q])), (q, .inl (cI, n, .inl f))]
def w_Arr (cI : ClassId) (n a : Nat) (f : Rw) : va_W := [(a, .inl (cI, n, .inl f))]
def w_Reader (a t : Nat) (S : t_Reader) : va_W := [(a, .inr (2, [.ref t, .int S.1, .int S.2.1, .int S.2.2]))]
abbrev t_Script : Type := Int32 × Int32 × Rw × Rw × Rw × Rw × Rw × Rw × Rw × Rw
def l_Script (cI : ClassId) (A : Nat → Nat) (x0 : Int32) (x1 : Int32) (x2 : Rw) (x3 : Rw) (x4 : Rw) (x5 : Rw) (x6 : Rw) (x7 : Rw) (x8 : Rw) (x9 : Rw) : List va_W := [[(A 0, .inr (5, [.int x0, .int x1, .ref (A 1), .ref (A 3), .ref (A 5), .ref (A 7), .ref (A 9), .ref (A 11), .ref (A 13), .ref (A 15)]))], w_Row cI 60 (A 1) (A 2) x2, w_Row cI 60 (A 3) (A 4) x3, w_Row cI 60 (A 5) (A 6) x4, w_Row cI 60 (A 7) (A 8) x5, w_Row cI 60 (A 9) (A 10) x6, w_Row cI 60 (A 11) (A 12) x7, w_Row cI 60 (A 13) (A 14) x8, w_Row cI 60 (A 15) (A 16) x9]
def w_Script (cI : ClassId) (A : Nat → Nat) (S : t_Script) : va_W := (l_Script cI A S.1 S.2.1 S.2.2.1 S.2.2.2.1 S.2.2.2.2.1 S.2.2.2.2.2.1 S.2.2.2.2.2.2.1 S.2.2.2.2.2.2.2.1 S.2.2.2.2.2.2.2.2.1 S.2.2.2.2.2.2.2.2.2).flatten
abbrev t_Scenes : Type := Int32 × Int32 × Int32 × Rw × Rw × Rw × Rw × Rw × Rw × Rw × Rw × Rw
def l_Scenes (cI : ClassId) (A : Nat → Nat) (x0 : Int32) (x1 : Int32) (x2 : Int32) (x3 : Rw) (x4 : Rw) (x5 : Rw) (x6 : Rw) (x7 : Rw) (x8 : Rw) (x9 : Rw) (x10 : Rw) (x11 : Rw) : List va_W := [[(A 0, .inr (4, [.int x0, .int x1, .int x2, .ref (A 1), .ref (A 3), .ref (A 5), .ref (A 7), .ref (A 9), .ref (A 11), .ref (A 13), .ref (A 15), .ref (A 17)]))], w_Row cI 60 (A 1) (A 2) x3, w_Row cI 60 (A 3) (A 4) x4, w_Row cI 60 (A 5) (A 6) x5, w_Row cI 60 (A 7) (A 8) x6, w_Row cI 60 (A 9) (A 10) x7, w_Row cI 60 (A 11) (A 12) x8, w_Row cI 60 (A 13) (A 14) x9, w_Row cI 60 (A 15) (A 16) x10, w_Row cI 60 (A 17) (A 18) x11]
def w_Scenes (cI : ClassId) (A : Nat → Nat) (S : t_Scenes) : va_W := (l_Scenes cI A S.1 S.2.1 S.2.2.1 S.2.2.2.1 S.2.2.2.2.1 S.2.2.2.2.2.1 S.2.2.2.2.2.2.1 S.2.2.2.2.2.2.2.1 S.2.2.2.2.2.2.2.2.1 S.2.2.2.2.2.2.2.2.2.1 S.2.2.2.2.2.2.2.2.2.2.1 S.2.2.2.2.2.2.2.2.2.2.2).flatten
abbrev t_Pages : Type := Int32 × Int32 × Int32 × Int32 × Int32 × Rw × Rw × Rw × Rw × Rw × Rw × Rw × Rw × Rw
def l_Pages (cI : ClassId) (A : Nat → Nat) (x0 : Int32) (x1 : Int32) (x2 : Int32) (x3 : Int32) (x4 : Int32) (x5 : Rw) (x6 : Rw) (x7 : Rw) (x8 : Rw) (x9 : Rw) (x10 : Rw) (x11 : Rw) (x12 : Rw) (x13 : Rw) : List va_W := [[(A 0, .inr (1, [.int x0, .int x1, .int x2, .int x3, .int x4, .ref (A 1), .ref (A 3), .ref (A 5), .ref (A 7), .ref (A 9), .ref (A 11), .ref (A 13), .ref (A 15), .ref (A 17)]))], w_Row cI 60 (A 1) (A 2) x5, w_Row cI 60 (A 3) (A 4) x6, w_Row cI 60 (A 5) (A 6) x7, w_Row cI 60 (A 7) (A 8) x8, w_Row cI 60 (A 9) (A 10) x9, w_Row cI 60 (A 11) (A 12) x10, w_Row cI 60 (A 13) (A 14) x11, w_Row cI 60 (A 15) (A 16) x12, w_Row cI 60 (A 17) (A 18) x13]
def w_Pages (cI : ClassId) (A : Nat → Nat) (S : t_Pages) : va_W := (l_Pages cI A S.1 S.2.1 S.2.2.1 S.2.2.2.1 S.2.2.2.2.1 S.2.2.2.2.2.1 S.2.2.2.2.2.2.1 S.2.2.2.2.2.2.2.1 S.2.2.2.2.2.2.2.2.1 S.2.2.2.2.2.2.2.2.2.1 S.2.2.2.2.2.2.2.2.2.2.1 S.2.2.2.2.2.2.2.2.2.2.2.1 S.2.2.2.2.2.2.2.2.2.2.2.2.1 S.2.2.2.2.2.2.2.2.2.2.2.2.2).flatten
abbrev t_Model : Type := Rw × Rw × Rw × Int32 × Rw × Int32 × Int32 × Int32 × Int32 × Rw × Rw × Rw × Rw × Rw × Rw × Rw × Int32 × Int32 × Int64
def l_Model (cI : ClassId) (A : Nat → Nat) (x0 : Rw) (x1 : Rw) (x2 : Rw) (x3 : Int32) (x4 : Rw) (x5 : Int32) (x6 : Int32) (x7 : Int32) (x8 : Int32) (x9 : Rw) (x10 : Rw) (x11 : Rw) (x12 : Rw) (x13 : Rw) (x14 : Rw) (x15 : Rw) (x16 : Int32) (x17 : Int32) (x18 : Int64) : List va_W := [[(A 0, .inr (7, [.ref (A 1), .ref (A 2), .ref (A 3), .int x3, .ref (A 4), .int x5, .int x6, .int x7, .int x8, .ref (A 5), .ref (A 6), .ref (A 7), .ref (A 8), .ref (A 9), .ref (A 10), .ref (A 11), .int x16, .int x17, .long x18]))], w_Arr cI 542 (A 1) x0, w_Arr cI 2168 (A 2) x1, w_Arr cI 542 (A 3) x2, w_Arr cI 200 (A 4) x4, w_Arr cI 60 (A 5) x9, w_Arr cI 60 (A 6) x10, w_Arr cI 60 (A 7) x11, w_Arr cI 130 (A 8) x12, w_Arr cI 130 (A 9) x13, w_Arr cI 130 (A 10) x14, w_Arr cI 180 (A 11) x15]
def w_Model (cI : ClassId) (A : Nat → Nat) (S : t_Model) : va_W := (l_Model cI A S.1 S.2.1 S.2.2.1 S.2.2.2.1 S.2.2.2.2.1 S.2.2.2.2.2.1 S.2.2.2.2.2.2.1 S.2.2.2.2.2.2.2.1 S.2.2.2.2.2.2.2.2.1 S.2.2.2.2.2.2.2.2.2.1 S.2.2.2.2.2.2.2.2.2.2.1 S.2.2.2.2.2.2.2.2.2.2.2.1 S.2.2.2.2.2.2.2.2.2.2.2.2.1 S.2.2.2.2.2.2.2.2.2.2.2.2.2.1 S.2.2.2.2.2.2.2.2.2.2.2.2.2.2.1 S.2.2.2.2.2.2.2.2.2.2.2.2.2.2.2.1 S.2.2.2.2.2.2.2.2.2.2.2.2.2.2.2.2.1 S.2.2.2.2.2.2.2.2.2.2.2.2.2.2.2.2.2.1 S.2.2.2.2.2.2.2.2.2.2.2.2.2.2.2.2.2.2).flatten
def FU : Nat := 3000
def zloop {σ τ : Type} (body : (σ → Option τ) → σ → Option τ) : Nat → σ → Option τ
  | 0, _ => none
  | n + 1, v => body (zloop body n) v
theorem z_loopE {σ τ : Type} {body : (σ → Option τ) → σ → Option τ} {G : σ → τ → Prop} (step : ∀ rec : σ → Option τ, (∀ v X, rec v = some X → G v X) → ∀ v X, body rec v = some X → G v X) : ∀ (n : Nat) (v : σ) (X : τ), zloop body n v = some X → G v X
  | 0, _, _, h => by cases h
  | n + 1, v, X, h => step (zloop body n) (z_loopE step n) v X h
theorem z_inl {α β γ : Type} {f : α → γ} {g : β → γ} {a : α} {R : γ} (e : Sum.elim f g (.inl a) = R) : f a = R := e
theorem z_inr {α β γ : Type} {f : α → γ} {g : β → γ} {a : β} {R : γ} (e : Sum.elim f g (.inr a) = R) : g a = R := e
def zbl {α : Type} (x : Int32) (e : Option α) : Option α := if x = 0 ∨ x = 1 then e else none
theorem z_bl {α : Type} {x : Int32} {y : Option α} {R : α} {G : Prop} (e : zbl x y = some R) (k : (x = 0 ∨ x = 1) → y = some R → G) : G := by
  unfold zbl at e
  by_cases h : x = 0 ∨ x = 1
  · rw [if_pos h] at e; exact k h e
  · rw [if_neg h] at e; cases e
theorem z_bool {x : Int32} (h : x = 0 ∨ x = 1) : narrow .boolean (.int x) = .int x := by rcases h with h | h <;> subst h <;> rfl
theorem zq_ro {v : Option Value} {a : Array Value} {st t : State} (h : va_F (fun _ => False) st t) : zQro v a st (.returned v) t := ⟨rfl, h⟩
theorem zq_mu {Z : zZ} {w w' : va_W} {v : Option Value} {a : Array Value} {st t : State} (hP : va_P Z.1 vwCl w' t.heap) (h : va_F (zA w) st t) : zQmu Z w w' v a st (.returned v) t := ⟨rfl, hP, h⟩
theorem zP_nil {D : va_G} {cl : List vw_C} {H : Heap} : va_P D cl [] H := fun k q h => by simp at h
theorem zfl_eq (l L : List va_W) : (l ++ L).flatten = (l.flatten :: L).flatten := by simp
theorem zfl {D : va_G} {cl : List vw_C} {l L : List va_W} {H : Heap} (h : va_P D cl (l ++ L).flatten H) : va_P D cl (l.flatten :: L).flatten H := by rw [← zfl_eq]; exact h
theorem zfr {D : va_G} {cl : List vw_C} {l L : List va_W} {H : Heap} (h : va_P D cl (l.flatten :: L).flatten H) : va_P D cl (l ++ L).flatten H := by rw [zfl_eq]; exact h
theorem zfrD {A : Nat → Prop} {l L : List va_W} (h : va_D A (l.flatten :: L).flatten) : va_D A (l ++ L).flatten := by rw [zfl_eq]; exact h
theorem zflD {A : Nat → Prop} {l L : List va_W} (h : va_D A (l ++ L).flatten) : va_D A (l.flatten :: L).flatten := by rw [← zfl_eq]; exact h
theorem zfw2 (a b : va_W) : List.flatten [a, b] = a ++ b := by simp
theorem zfw3 (a b c : va_W) : List.flatten [a, b, c] = a ++ (b ++ c) := by simp
theorem zP_r2 {D : va_G} {cl : List vw_C} {L : List va_W} {H : Heap} (h : va_P D cl L.flatten H) (i j : Nat) {a b : va_W} (hi : L[i]? = some a) (hj : L[j]? = some b) : va_P D cl (List.flatten [a, b]) H := by rw [zfw2]; exact zP_reg2 h i j hi hj
theorem zP_r3 {D : va_G} {cl : List vw_C} {L : List va_W} {H : Heap} (h : va_P D cl L.flatten H) (i j k : Nat) {a b c : va_W} (hi : L[i]? = some a) (hj : L[j]? = some b) (hk : L[k]? = some c) : va_P D cl (List.flatten [a, b, c]) H := by rw [zfw3]; exact zP_reg3 h i j k hi hj hk
theorem zD_r2 {A : Nat → Prop} {L : List va_W} (h : va_D A L.flatten) (i j : Nat) {a b : va_W} (hi : L[i]? = some a) (hj : L[j]? = some b) (hn : i ≠ j) : va_D A (List.flatten [a, b]) := by rw [zfw2]; exact zD_reg2 h i j hi hj hn
theorem zD_r3 {A : Nat → Prop} {L : List va_W} (h : va_D A L.flatten) (i j k : Nat) {a b c : va_W} (hi : L[i]? = some a) (hj : L[j]? = some b) (hk : L[k]? = some c) (h1 : i ≠ j) (h2 : i ≠ k) (h3 : j ≠ k) : va_D A (List.flatten [a, b, c]) := by rw [zfw3]; exact zD_reg3 h i j k hi hj hk h1 h2 h3
theorem zfl_eq2 (l L : List va_W) : (l ++ L).flatten = List.flatten [l.flatten, L.flatten] := by simp
theorem zfl2 {D : va_G} {cl : List vw_C} {l L : List va_W} {H : Heap} (h : va_P D cl (l ++ L).flatten H) : va_P D cl (List.flatten [l.flatten, L.flatten]) H := by rw [← zfl_eq2]; exact h
theorem zfr2 {D : va_G} {cl : List vw_C} {l L : List va_W} {H : Heap} (h : va_P D cl (List.flatten [l.flatten, L.flatten]) H) : va_P D cl (l ++ L).flatten H := by rw [zfl_eq2]; exact h
theorem zfr2D_ {A : Nat → Prop} {l L : List va_W} (h : va_D A (List.flatten [l.flatten, L.flatten])) : va_D A (l ++ L).flatten := by rw [zfl_eq2]; exact h
theorem adr_Script (cI : ClassId) (A : Nat → Nat) (S' S : t_Script) : (w_Script cI A S').map (·.1) = (w_Script cI A S).map (·.1) := rfl
theorem adr_Scenes (cI : ClassId) (A : Nat → Nat) (S' S : t_Scenes) : (w_Scenes cI A S').map (·.1) = (w_Scenes cI A S).map (·.1) := rfl
theorem adr_Pages (cI : ClassId) (A : Nat → Nat) (S' S : t_Pages) : (w_Pages cI A S').map (·.1) = (w_Pages cI A S).map (·.1) := rfl
theorem adr_Model (cI : ClassId) (A : Nat → Nat) (S' S : t_Model) : (w_Model cI A S').map (·.1) = (w_Model cI A S).map (·.1) := rfl
theorem zadr2 {a a' b b' : va_W} (h1 : a'.map (·.1) = a.map (·.1)) (h2 : b'.map (·.1) = b.map (·.1)) : (List.flatten [a', b']).map (·.1) = (List.flatten [a, b]).map (·.1) := by rw [zfw2, zfw2, List.map_append, List.map_append, h1, h2]
theorem zadr3 {a a' b b' c c' : va_W} (h1 : a'.map (·.1) = a.map (·.1)) (h2 : b'.map (·.1) = b.map (·.1)) (h3 : c'.map (·.1) = c.map (·.1)) : (List.flatten [a', b', c']).map (·.1) = (List.flatten [a, b, c]).map (·.1) := by rw [zfw3, zfw3, List.map_append, List.map_append, List.map_append, List.map_append, h1, h2, h3]
theorem zfl2D {A : Nat → Prop} {l L : List va_W} (h : va_D A (l ++ L).flatten) : va_D A (List.flatten [l.flatten, L.flatten]) := by rw [← zfl_eq2]; exact h
theorem zfr2D {A : Nat → Prop} {l L : List va_W} (h : va_D A (List.flatten [l.flatten, L.flatten])) : va_D A (l ++ L).flatten := by rw [zfl_eq2]; exact h
theorem zflat_at : ∀ {L : List va_W} {i : Nat} {x : Nat × va_E}, L[i]? = some [x] → L.flatten[(L.take i).flatten.length]? = some x
  | [], i, x, h => by simp at h
  | y :: L, 0, x, h => by
    simp only [List.getElem?_cons_zero, Option.some.injEq] at h
    subst h
    simp
  | y :: L, i + 1, x, h => by
    simp only [List.getElem?_cons_succ] at h
    rw [List.take_succ_cons, List.flatten_cons, List.flatten_cons, List.length_append, List.getElem?_append_right (by omega), Nat.add_sub_cancel_left]
    exact zflat_at h
theorem zflat_set : ∀ {L : List va_W} {i : Nat} {x y : Nat × va_E}, L[i]? = some [x] → L.flatten.set (L.take i).flatten.length y = (L.set i [y]).flatten
  | [], i, x, y, h => by simp at h
  | z :: L, 0, x, y, h => by
    simp only [List.getElem?_cons_zero, Option.some.injEq] at h
    subst h
    simp
  | z :: L, i + 1, x, y, h => by
    simp only [List.getElem?_cons_succ] at h
    rw [List.take_succ_cons, List.flatten_cons, List.flatten_cons, List.length_append, List.set_append_right _ _ (by omega), Nat.add_sub_cancel_left, zflat_set h, List.set_cons_succ, List.flatten_cons]
section ZPut
variable {p : Program} {l : Launch} {e : Env} {R : Room} {s : State} {m : MethodId} {args : Array Value} {below : List Frame} {meth : Method} {c : Code} {H : Heap} {locs : List Loc} {cells slots : Nat} {Q : State → Prop}
variable {cc : ByteArray} {pc : Nat} {ls : Array Slot} {rest : List Value} {A : Nat → Prop} {H0 : Heap} {Z : zZ} {L L' : List va_W} {a : Nat}
theorem z_put (hx : p.tables.exec = Jvm.exec) (hb : c.code = cc) {own ref C : String} {T : u_T} {N ci index : Nat} {Ts : List Cond} (hts : ∀ w ∈ Ts, w.before args s = true) (hin : ∀ w ∈ u_ws C T N, w ∈ Ts) (ty0 : Nat → FieldType) (hty : ∀ k, k < N → parseFieldDescriptor (T k).2.2.1 = some (ty0 k)) (hnm : ∀ a, a < N → ∀ b, b < N → a ≠ b → (T a).2.1 ≠ (T b).2.1) (hown : s.vm.findClass own = some m.cls) (hK : zK Z s) (hP : va_P Z.1 vwCl L.flatten H) (hD : va_D A L.flatten) (hS0 : va_S A H0 H locs) (i : Nat) {fs : List Value} (he : L[i]? = some [(a, .inr (ci, fs))]) (hc : vwCl[ci]? = some (C, T, N)) (k : Nat) (hk : k < N) (hlink : (Cond.fieldLink own index ref (T k).2.1 (T k).2.2.1).before args s = true) (hsame : ∀ x, s.fieldFound? (T k).1 (T k).2.1 (T k).2.2.1 = some x → s.fieldFound? ref (T k).2.1 (T k).2.2.1 = some x) (hfin : (T k).2.2.2 = false) {ty : FieldType} {v : Value} (hd : parseFieldDescriptor (T k).2.2.1 = some ty) (hn : narrow ty v = v) (hfit : fits ty v = true) (hl : k < fs.length) (hL : L.set i [(a, .inr (ci, fs.set k v))] = L')
    (hdg : decode cc pc = .ok (.putfield index, 3)) (kk : ∀ (H1 : Heap) (locs1 : List Loc), va_P Z.1 vwCl L'.flatten H1 → va_D A L'.flatten → va_S A H0 H1 locs1 → W p l e R s m args below meth c H1 locs1 cells slots Q (F0 m (pc + 3) ls rest)) : W p l e R s m args below meth c H locs cells slots Q (F0 m pc ls (v :: .ref a :: rest)) := by
  subst hL
  refine va_put (D := Z.1) (cl := vwCl) hx hb hts hin ty0 hty hnm hown hK.1 hP hD hS0 _ (zflat_at he) hc k hk hlink hsame hfin hd hn hfit hl hdg (fun H1 l1 h1 h2 h3 => ?_)
  rw [zflat_set he] at h1 h2
  exact kk H1 l1 h1 h2 h3
theorem z_putN (hx : p.tables.exec = Jvm.exec) (hb : c.code = cc) {own ref C host : String} {T : u_T} {N ci index : Nat} {Ts : List Cond} (hts : ∀ w ∈ Ts, w.before args s = true) (hin : ∀ w ∈ u_ws C T N, w ∈ Ts) (ty0 : Nat → FieldType) (hty : ∀ k, k < N → parseFieldDescriptor (T k).2.2.1 = some (ty0 k)) (hnm : ∀ a, a < N → ∀ b, b < N → a ≠ b → (T a).2.1 ≠ (T b).2.1) (hown : s.vm.findClass own = some m.cls) (hK : zK Z s) (hP : va_P Z.1 vwCl L.flatten H) (hD : va_D A L.flatten) (hS0 : va_S A H0 H locs) (i : Nat) {fs : List Value} (he : L[i]? = some [(a, .inr (ci, fs))]) (hc : vwCl[ci]? = some (C, T, N)) (k : Nat) (hk : k < N) (hlink : (Cond.fieldLinkNest own index ref (T k).2.1 (T k).2.2.1 host).before args s = true) (hsame : ∀ x, s.fieldFound? (T k).1 (T k).2.1 (T k).2.2.1 = some x → s.fieldFound? ref (T k).2.1 (T k).2.2.1 = some x) (hfin : (T k).2.2.2 = false) {ty : FieldType} {v : Value} (hd : parseFieldDescriptor (T k).2.2.1 = some ty) (hn : narrow ty v = v) (hfit : fits ty v = true) (hl : k < fs.length) (hL : L.set i [(a, .inr (ci, fs.set k v))] = L')
    (hdg : decode cc pc = .ok (.putfield index, 3)) (kk : ∀ (H1 : Heap) (locs1 : List Loc), va_P Z.1 vwCl L'.flatten H1 → va_D A L'.flatten → va_S A H0 H1 locs1 → W p l e R s m args below meth c H1 locs1 cells slots Q (F0 m (pc + 3) ls rest)) : W p l e R s m args below meth c H locs cells slots Q (F0 m pc ls (v :: .ref a :: rest)) := by
  subst hL
  refine va_putN (D := Z.1) (cl := vwCl) hx hb hts hin ty0 hty hnm hown hK.1 hP hD hS0 _ (zflat_at he) hc k hk hlink hsame hfin hd hn hfit hl hdg (fun H1 l1 h1 h2 h3 => ?_)
  rw [zflat_set he] at h1 h2
  exact kk H1 l1 h1 h2 h3
theorem z_iast (hx : p.tables.exec = Jvm.exec) (hb : c.code = cc) (hK : zK Z s) (hP : va_P Z.1 vwCl L.flatten H) (hD : va_D A L.flatten) (hS : va_S A H0 H locs) (q0 : Nat) {n : Nat} {f g : Nat → Int32} (ha : L[q0]? = some [(a, .inl (Z.2.1, n, .inl f))]) {i : Int32} {x : Int32} (hin : vp_in i n) (hg : upd f i.toNatClampNeg x = g) (hL : L.set q0 [(a, .inl (Z.2.1, n, .inl g))] = L') (hdg : decode cc pc = .ok (.iastore, 1))
    (kk : ∀ (H1 : Heap) (locs1 : List Loc), va_P Z.1 vwCl L'.flatten H1 → va_D A L'.flatten → va_S A H0 H1 locs1 → W p l e R s m args below meth c H1 locs1 cells slots Q (F0 m (pc + 1) ls rest)) : W p l e R s m args below meth c H locs cells slots Q (F0 m pc ls (.int x :: .int i :: .ref a :: rest)) := by
  subst hg; subst hL
  refine va_iast (D := Z.1) (cl := vwCl) hx hb hK.1 hP hD hS _ 0 (zflat_at ha) rfl hin hdg (fun H1 l1 h1 h2 h3 => ?_)
  rw [zflat_set ha] at h1 h2
  exact kk H1 l1 h1 h2 h3
theorem z_iastR {ws ws' : va_W} (hx : p.tables.exec = Jvm.exec) (hb : c.code = cc) (hK : zK Z s) (hP : va_P Z.1 vwCl ws H) (hD : va_D A ws) (hS : va_S A H0 H locs) (q0 : Nat) {n : Nat} {f g : Nat → Int32} (ha : ws[q0]? = some (a, .inl (Z.2.1, n, .inl f))) {i : Int32} {x : Int32} (hin : vp_in i n) (hg : upd f i.toNatClampNeg x = g) (hL : ws.set q0 (a, .inl (Z.2.1, n, .inl g)) = ws') (hdg : decode cc pc = .ok (.iastore, 1))
    (kk : ∀ (H1 : Heap) (locs1 : List Loc), va_P Z.1 vwCl ws' H1 → va_D A ws' → va_S A H0 H1 locs1 → W p l e R s m args below meth c H1 locs1 cells slots Q (F0 m (pc + 1) ls rest)) : W p l e R s m args below meth c H locs cells slots Q (F0 m pc ls (.int x :: .int i :: .ref a :: rest)) := by
  subst hg; subst hL
  exact va_iast (D := Z.1) (cl := vwCl) hx hb hK.1 hP hD hS q0 0 ha rfl hin hdg kk
theorem lv_topE {x y : Int32} (h : x = y) (k : W p l e R s m args below meth c H locs cells slots Q (F0 m pc ls (.int y :: rest))) : W p l e R s m args below meth c H locs cells slots Q (F0 m pc ls (.int x :: rest)) := by subst h; exact k
theorem lv_topEl {x y : Int64} (h : x = y) (k : W p l e R s m args below meth c H locs cells slots Q (F0 m pc ls (.long y :: rest))) : W p l e R s m args below meth c H locs cells slots Q (F0 m pc ls (.long x :: rest)) := by subst h; exact k
end ZPut
theorem z_ofi1 : Int32.ofInt 1 = 1 := by decide
theorem z_ofim1 : Int32.ofInt (-1) = -1 := by decide
theorem z_ofi5 : Int32.ofInt 5 = 5 := by decide
theorem z_inc1 {x a : Int32} (h : x + 1 = a) : x + Int32.ofInt 1 = a := by rw [z_ofi1]; exact h
theorem z_incm1 {x a : Int32} (h : x + (-1) = a) : x + Int32.ofInt (-1) = a := by rw [z_ofim1]; exact h
theorem z_inc5 {x a : Int32} (h : x + 5 = a) : x + Int32.ofInt 5 = a := by rw [z_ofi5]; exact h
end
section
def X3_at (n1 : Nat) (f1 : Rw) (p1 : Int32) : Option Int32 := if p1 < 0 then (some (-1)) else (if (Int32.ofNat n1) ≤ p1 then (some (-1)) else (zix p1 n1 (zlet (f1 p1.toNatClampNeg) fun u1 => some u1)))
def X3_put (n1 : Nat) (f1 : Rw) (p1 : Int32) (p2 : Int32) : Option Rw := if p1 < 0 then (some f1) else (if (Int32.ofNat n1) ≤ p1 then (some f1) else (zix p1 n1 (zlet (upd f1 p1.toNatClampNeg p2) fun g1 => some g1)))
def X3_plus (n1 : Nat) (f1 : Rw) (p1 : Int32) (p2 : Int32) : Option Rw := if p1 < 0 then (some f1) else (if (Int32.ofNat n1) ≤ p1 then (some f1) else (zix p1 n1 (zlet (f1 p1.toNatClampNeg) fun u1 => zlet (u1 + p2) fun u2 => zix p1 n1 (zlet (upd f1 p1.toNatClampNeg u2) fun g3 => some g3))))
def b_X3_openAt_19 (n1 : Nat) (p1 : Int32) (p2 : Int32) (x3 : Int32) (rec : (Rw × Int32) → Option (Rw)) (v : Rw × Int32) : Option (Rw) := if v.2 ≤ x3 then (some v.1) else (zlet (v.2 - 1) fun u2 => zix u2 n1 (zlet (v.1 u2.toNatClampNeg) fun u3 => zix v.2 n1 (zlet (upd v.1 v.2.toNatClampNeg u3) fun g4 => zlet (v.2 + (-1)) fun u5 => rec (g4, u5))))
def j_X3_openAt_9 (n1 : Nat) (p1 : Int32) (p2 : Int32)  (f1 : Rw) (z0 : Int32) : Option Rw := zlet ((Int32.ofNat n1) - 1) fun u1 => (zloop (b_X3_openAt_19 n1 p1 p2 z0) FU (f1, u1)).bind fun q6 => (X3_put n1 q6 p1 p2).bind fun q7 => some q7
def X3_openAt (n1 : Nat) (f1 : Rw) (p1 : Int32) (p2 : Int32) : Option Rw := if p1 ≤ 0 then (j_X3_openAt_9 n1 p1 p2 f1 0) else (j_X3_openAt_9 n1 p1 p2 f1 p1)
def b_X3_closeAt_14 (n1 : Nat) (p1 : Int32)  (rec : (Rw × Int32) → Option (Rw)) (v : Rw × Int32) : Option (Rw) := if (Int32.ofNat n1) ≤ v.2 then (some v.1) else (zlet (v.2 - 1) fun u2 => zix v.2 n1 (zlet (v.1 v.2.toNatClampNeg) fun u3 => zix u2 n1 (zlet (upd v.1 u2.toNatClampNeg u3) fun g4 => zlet (v.2 + 1) fun u5 => rec (g4, u5))))
def j_X3_closeAt_9 (n1 : Nat) (p1 : Int32)  (f1 : Rw) (z0 : Int32) : Option Rw := zlet (z0 + 1) fun u1 => (zloop (b_X3_closeAt_14 n1 p1) FU (f1, u1)).bind fun q6 => some q6
def X3_closeAt (n1 : Nat) (f1 : Rw) (p1 : Int32) : Option Rw := if p1 ≤ 0 then (j_X3_closeAt_9 n1 p1 f1 0) else (j_X3_closeAt_9 n1 p1 f1 p1)
def b_X3_copyFrom_2 (n1 : Nat) (n2 : Nat) (f2 : Rw)  (rec : (Rw × Int32) → Option (Rw)) (v : Rw × Int32) : Option (Rw) := if (Int32.ofNat n1) ≤ v.2 then (some v.1) else (if (Int32.ofNat n2) ≤ v.2 then (some v.1) else (zix v.2 n2 (zlet (f2 v.2.toNatClampNeg) fun u1 => zix v.2 n1 (zlet (upd v.1 v.2.toNatClampNeg u1) fun g2 => zlet (v.2 + 1) fun u3 => rec (g2, u3)))))
def X3_copyFrom (n1 : Nat) (n2 : Nat) (f1 : Rw) (f2 : Rw) : Option Rw := (zloop (b_X3_copyFrom_2 n1 n2 f2) FU (f1, 0)).bind fun q4 => some q4
end
section
theorem vt_X3_put : zVt yX3_put cX3_put 3 none 2 := ⟨zG_at 353 (by decide +kernel) (by decide +kernel), zG_at 354 (by decide +kernel) (by decide +kernel), zG_at 77 (by decide +kernel) (by decide +kernel), zG_at 355 (by decide +kernel) (by decide +kernel), by decide +kernel⟩
theorem k_f_X3_9 : Cond.fieldLink RX3 9 "ScriptPages$Row" "cells" "[I" ∈ zG := zG_at 110 (by decide +kernel) (by decide +kernel)
theorem k_m_X3_15 : Cond.methodLink RX3 15 yX3_put ∈ zG := zG_at 582 (by decide +kernel) (by decide +kernel)
def rm_X3_at : Room := { frames := 0, cells := 0, slots := 0, locals := 0 }
set_option maxRecDepth 100000 in
set_option maxHeartbeats 4000000 in
theorem c_X3_at (l : Launch) (Z : zZ) (n1 a1 b1 : Nat) (f1 : Rw) (p1 : Int32) (R : Int32) (hF : X3_at n1 f1 p1 = some R) : zRO l yX3_at (zw yX3_at cX3_at 2 (some .int)) rm_X3_at Z [.ref a1, .int p1] (w_Row Z.2.1 n1 a1 b1 f1) (some (.int R)) := by
  refine zRO_of (by decide) (Nat.le_of_ble_eq_true rfl) (fun p e s m below meth c hx hb hr hml hown hts hlocks hK Q hQ ls hl hP hS => ?_)
  unfold X3_at at hF
  have hl : lv_has ls 2 [(0, .ref a1), (1, .int p1)] := hl
  have hown : s.vm.findClass RX3 = some m.cls := hown
  refine lv_iload_n hx hb (z_d hX3_at_0 0 rfl) rfl (lv_at hl 1 rfl) ?_
  refine lv_if_lt (tgt := 22) hx hb (z_d hX3_at_0 1 rfl) (by decide) (fun hc1 => ?_) (fun hc1 => ?_)
  · have hF := z_pos hc1 hF
    refine lv_iconst (v := (-1)) hx hb (z_d hX3_at_0 12 rfl) (by decide) ?_
    obtain rfl := Option.some.inj hF
    subst hQ
    exact W.iret hx hb hr (fun t ht hW => zq_ro (hS.F ht)) hS.2.2 (z_d hX3_at_0 13 rfl)
  · have hF := z_neg hc1 hF
    refine lv_iload_n hx hb (z_d hX3_at_0 2 rfl) rfl (lv_at hl 1 rfl) ?_
    refine lv_aload_n hx hb (z_d hX3_at_0 3 rfl) rfl (lv_at hl 0 rfl) ?_
    refine va_get (D := Z.1) (ci := 3) (v := .ref b1) (C := RX3) (T := TX3) (N := 1) hx hb hts zinX3 hown hK.1 hP 0 rfl rfl 0 (by decide) (hts _ k_f_X3_9) (fun _ h9 => h9) rfl (z_d hX3_at_0 4 rfl) ?_
    refine va_alen (v := Int32.ofNat n1) (ty := .int) hx hb hK.1 hP 1 0 rfl rfl rfl (z_d hX3_at_0 5 rfl) ?_
    refine lv_icmp_ge (tgt := 22) hx hb (z_d hX3_at_0 6 rfl) (by decide) (fun hc10 => ?_) (fun hc10 => ?_)
    · have hF := z_pos hc10 hF
      refine lv_iconst (v := (-1)) hx hb (z_d hX3_at_0 12 rfl) (by decide) ?_
      obtain rfl := Option.some.inj hF
      subst hQ
      exact W.iret hx hb hr (fun t ht hW => zq_ro (hS.F ht)) hS.2.2 (z_d hX3_at_0 13 rfl)
    · have hF := z_neg hc10 hF
      refine lv_aload_n hx hb (z_d hX3_at_0 7 rfl) rfl (lv_at hl 0 rfl) ?_
      refine va_get (D := Z.1) (ci := 3) (v := .ref b1) (C := RX3) (T := TX3) (N := 1) hx hb hts zinX3 hown hK.1 hP 0 rfl rfl 0 (by decide) (hts _ k_f_X3_9) (fun _ h9 => h9) rfl (z_d hX3_at_0 8 rfl) ?_
      refine lv_iload_n hx hb (z_d hX3_at_0 9 rfl) rfl (lv_at hl 1 rfl) ?_
      refine z_ix hF (fun hin hF => ?_)
      refine va_iald (D := Z.1) (f := f1) hx hb hK.1 hP 1 0 rfl rfl hin (z_d hX3_at_0 10 rfl) ?_
      refine z_let hF (fun u1 hu1 hF => ?_)
      refine lv_topE hu1 ?_
      refine lv_goto (tgt := 23) hx hb (z_d hX3_at_0 11 rfl) (by decide) ?_
      obtain rfl := Option.some.inj hF
      subst hQ
      exact W.iret hx hb hr (fun t ht hW => zq_ro (hS.F ht)) hS.2.2 (z_d hX3_at_0 13 rfl)
def rm_X3_put : Room := { frames := 0, cells := 0, slots := 0, locals := 0 }
set_option maxRecDepth 100000 in
set_option maxHeartbeats 4000000 in
theorem c_X3_put (l : Launch) (Z : zZ) (n1 a1 b1 : Nat) (f1 : Rw) (p1 : Int32) (p2 : Int32) (R : Rw) (hF : X3_put n1 f1 p1 p2 = some R) : zMU l yX3_put (zw yX3_put cX3_put 3 none) rm_X3_put Z [.ref a1, .int p1, .int p2] (w_Row Z.2.1 n1 a1 b1 f1) (w_Row Z.2.1 n1 a1 b1 R) none := by
  refine zMU_of (by decide) (Nat.le_of_ble_eq_true rfl) (fun p e s m below meth c hx hb hr hml hown hts hlocks hK A hA Q hQ ls hl hP hD hS => ?_)
  unfold X3_put at hF
  have hl : lv_has ls 3 [(0, .ref a1), (1, .int p1), (2, .int p2)] := hl
  have hown : s.vm.findClass RX3 = some m.cls := hown
  refine lv_iload_n hx hb (z_d hX3_put_0 0 rfl) rfl (lv_at hl 1 rfl) ?_
  refine lv_if_lt (tgt := 20) hx hb (z_d hX3_put_0 1 rfl) (by decide) (fun hc1 => ?_) (fun hc1 => ?_)
  · have hF := z_pos hc1 hF
    obtain rfl := Option.some.inj hF
    subst hQ
    subst hA
    exact W.vret hx hb hr (fun t ht hW => zq_mu (by rw [ht]; exact hP) (hS.F ht)) hS.2.2 (z_d hX3_put_0 12 rfl)
  · have hF := z_neg hc1 hF
    refine lv_iload_n hx hb (z_d hX3_put_0 2 rfl) rfl (lv_at hl 1 rfl) ?_
    refine lv_aload_n hx hb (z_d hX3_put_0 3 rfl) rfl (lv_at hl 0 rfl) ?_
    refine va_get (D := Z.1) (ci := 3) (v := .ref b1) (C := RX3) (T := TX3) (N := 1) hx hb hts zinX3 hown hK.1 hP 0 rfl rfl 0 (by decide) (hts _ k_f_X3_9) (fun _ h9 => h9) rfl (z_d hX3_put_0 4 rfl) ?_
    refine va_alen (v := Int32.ofNat n1) (ty := .int) hx hb hK.1 hP 1 0 rfl rfl rfl (z_d hX3_put_0 5 rfl) ?_
    refine lv_icmp_ge (tgt := 20) hx hb (z_d hX3_put_0 6 rfl) (by decide) (fun hc10 => ?_) (fun hc10 => ?_)
    · have hF := z_pos hc10 hF
      obtain rfl := Option.some.inj hF
      subst hQ
      subst hA
      exact W.vret hx hb hr (fun t ht hW => zq_mu (by rw [ht]; exact hP) (hS.F ht)) hS.2.2 (z_d hX3_put_0 12 rfl)
    · have hF := z_neg hc10 hF
      refine lv_aload_n hx hb (z_d hX3_put_0 7 rfl) rfl (lv_at hl 0 rfl) ?_
      refine va_get (D := Z.1) (ci := 3) (v := .ref b1) (C := RX3) (T := TX3) (N := 1) hx hb hts zinX3 hown hK.1 hP 0 rfl rfl 0 (by decide) (hts _ k_f_X3_9) (fun _ h9 => h9) rfl (z_d hX3_put_0 8 rfl) ?_
      refine lv_iload_n hx hb (z_d hX3_put_0 9 rfl) rfl (lv_at hl 1 rfl) ?_
      refine lv_iload_n hx hb (z_d hX3_put_0 10 rfl) rfl (lv_at hl 2 rfl) ?_
      refine z_ix hF (fun hin hF => ?_)
      refine z_let hF (fun g1 hg1 hF => ?_)
      refine z_iastR (Z := Z) (ws := (w_Row Z.2.1 n1 a1 b1 f1)) (ws' := (w_Row Z.2.1 n1 a1 b1 g1)) (f := f1) hx hb hK hP hD hS 1 rfl hin hg1 rfl (z_d hX3_put_0 11 rfl) (fun H locs hP hD hS => ?_)
      obtain rfl := Option.some.inj hF
      subst hQ
      subst hA
      exact W.vret hx hb hr (fun t ht hW => zq_mu (by rw [ht]; exact hP) (hS.F ht)) hS.2.2 (z_d hX3_put_0 12 rfl)
def rm_X3_plus : Room := { frames := 0, cells := 0, slots := 0, locals := 0 }
set_option maxRecDepth 100000 in
set_option maxHeartbeats 4000000 in
theorem c_X3_plus (l : Launch) (Z : zZ) (n1 a1 b1 : Nat) (f1 : Rw) (p1 : Int32) (p2 : Int32) (R : Rw) (hF : X3_plus n1 f1 p1 p2 = some R) : zMU l yX3_plus (zw yX3_plus cX3_plus 3 none) rm_X3_plus Z [.ref a1, .int p1, .int p2] (w_Row Z.2.1 n1 a1 b1 f1) (w_Row Z.2.1 n1 a1 b1 R) none := by
  refine zMU_of (by decide) (Nat.le_of_ble_eq_true rfl) (fun p e s m below meth c hx hb hr hml hown hts hlocks hK A hA Q hQ ls hl hP hD hS => ?_)
  unfold X3_plus at hF
  have hl : lv_has ls 3 [(0, .ref a1), (1, .int p1), (2, .int p2)] := hl
  have hown : s.vm.findClass RX3 = some m.cls := hown
  refine lv_iload_n hx hb (z_d hX3_plus_0 0 rfl) rfl (lv_at hl 1 rfl) ?_
  refine lv_if_lt (tgt := 23) hx hb (z_d hX3_plus_0 1 rfl) (by decide) (fun hc1 => ?_) (fun hc1 => ?_)
  · have hF := z_pos hc1 hF
    obtain rfl := Option.some.inj hF
    subst hQ
    subst hA
    exact W.vret hx hb hr (fun t ht hW => zq_mu (by rw [ht]; exact hP) (hS.F ht)) hS.2.2 (z_d hX3_plus_0 15 rfl)
  · have hF := z_neg hc1 hF
    refine lv_iload_n hx hb (z_d hX3_plus_0 2 rfl) rfl (lv_at hl 1 rfl) ?_
    refine lv_aload_n hx hb (z_d hX3_plus_0 3 rfl) rfl (lv_at hl 0 rfl) ?_
    refine va_get (D := Z.1) (ci := 3) (v := .ref b1) (C := RX3) (T := TX3) (N := 1) hx hb hts zinX3 hown hK.1 hP 0 rfl rfl 0 (by decide) (hts _ k_f_X3_9) (fun _ h9 => h9) rfl (z_d hX3_plus_0 4 rfl) ?_
    refine va_alen (v := Int32.ofNat n1) (ty := .int) hx hb hK.1 hP 1 0 rfl rfl rfl (z_d hX3_plus_0 5 rfl) ?_
    refine lv_icmp_ge (tgt := 23) hx hb (z_d hX3_plus_0 6 rfl) (by decide) (fun hc10 => ?_) (fun hc10 => ?_)
    · have hF := z_pos hc10 hF
      obtain rfl := Option.some.inj hF
      subst hQ
      subst hA
      exact W.vret hx hb hr (fun t ht hW => zq_mu (by rw [ht]; exact hP) (hS.F ht)) hS.2.2 (z_d hX3_plus_0 15 rfl)
    · have hF := z_neg hc10 hF
      refine lv_aload_n hx hb (z_d hX3_plus_0 7 rfl) rfl (lv_at hl 0 rfl) ?_
      refine va_get (D := Z.1) (ci := 3) (v := .ref b1) (C := RX3) (T := TX3) (N := 1) hx hb hts zinX3 hown hK.1 hP 0 rfl rfl 0 (by decide) (hts _ k_f_X3_9) (fun _ h9 => h9) rfl (z_d hX3_plus_0 8 rfl) ?_
      refine lv_iload_n hx hb (z_d hX3_plus_0 9 rfl) rfl (lv_at hl 1 rfl) ?_
      refine lv_dup2_11 hx hb (z_d hX3_plus_0 10 rfl) rfl rfl ?_
      refine z_ix hF (fun hin hF => ?_)
      refine va_iald (D := Z.1) (f := f1) hx hb hK.1 hP 1 0 rfl rfl hin (z_d hX3_plus_0 11 rfl) ?_
      refine z_let hF (fun u1 hu1 hF => ?_)
      refine lv_topE hu1 ?_
      refine lv_iload_n hx hb (z_d hX3_plus_0 12 rfl) rfl (lv_at hl 2 rfl) ?_
      refine lv_iadd hx hb (z_d hX3_plus_0 13 rfl) ?_
      refine z_let hF (fun u2 hu2 hF => ?_)
      refine lv_topE hu2 ?_
      refine z_ix hF (fun hin hF => ?_)
      refine z_let hF (fun g3 hg3 hF => ?_)
      refine z_iastR (Z := Z) (ws := (w_Row Z.2.1 n1 a1 b1 f1)) (ws' := (w_Row Z.2.1 n1 a1 b1 g3)) (f := f1) hx hb hK hP hD hS 1 rfl hin hg3 rfl (z_d hX3_plus_0 14 rfl) (fun H locs hP hD hS => ?_)
      obtain rfl := Option.some.inj hF
      subst hQ
      subst hA
      exact W.vret hx hb hr (fun t ht hW => zq_mu (by rw [ht]; exact hP) (hS.F ht)) hS.2.2 (z_d hX3_plus_0 15 rfl)
def rm_X3_openAt : Room := { frames := 1, cells := 0, slots := 0, locals := 22 }
set_option maxRecDepth 100000 in
set_option maxHeartbeats 4000000 in
theorem c_X3_openAt (l : Launch) (Z : zZ) (n1 a1 b1 : Nat) (f1 : Rw) (p1 : Int32) (p2 : Int32) (R : Rw) (hF : X3_openAt n1 f1 p1 p2 = some R) : zMU l yX3_openAt (zw yX3_openAt cX3_openAt 5 none) rm_X3_openAt Z [.ref a1, .int p1, .int p2] (w_Row Z.2.1 n1 a1 b1 f1) (w_Row Z.2.1 n1 a1 b1 R) none := by
  refine zMU_of (by decide) (Nat.le_of_ble_eq_true rfl) (fun p e s m below meth c hx hb hr hml hown hts hlocks hK A hA Q hQ ls hl hP hD hS => ?_)
  unfold X3_openAt at hF
  have hl : lv_has ls 5 [(0, .ref a1), (1, .int p1), (2, .int p2)] := hl
  have hown : s.vm.findClass RX3 = some m.cls := hown
  have L19 : ∀ (x3 : Int32) (n : Nat) (v : Rw × Int32) (X : Rw) (hF : zloop (b_X3_openAt_19 n1 p1 p2 x3) n v = some X) (H : Heap) (locs : List Loc) (ls : Array Slot) (hP : va_P Z.1 vwCl (w_Row Z.2.1 n1 a1 b1 v.1) H) (hD : va_D A (w_Row Z.2.1 n1 a1 b1 v.1)) (hS : va_S A s.heap H locs) (hl : lv_has ls 5 [(0, .ref a1), (1, .int p1), (2, .int p2), (3, .int x3), (4, .int v.2)]) (K1 : ∀ (H : Heap) (locs : List Loc) (ls : Array Slot) (hP : va_P Z.1 vwCl (w_Row Z.2.1 n1 a1 b1 X) H) (hD : va_D A (w_Row Z.2.1 n1 a1 b1 X)) (hS : va_S A s.heap H locs) (hl : lv_has ls 5 [(0, .ref a1), (1, .int p1), (2, .int p2)]), W p l e rm_X3_openAt s m ([.ref a1, .int p1, .int p2] : List Value).toArray below meth c H locs 0 0 Q (F0 m 47 ls [])), W p l e rm_X3_openAt s m ([.ref a1, .int p1, .int p2] : List Value).toArray below meth c H locs 0 0 Q (F0 m 19 ls []) := by
    intro x3
    refine z_loopE (fun rec ih v X hF H locs ls hP hD hS hl K1 => ?_)
    unfold b_X3_openAt_19 at hF
    refine lv_iload hx hb (z_d hX3_openAt_0 12 rfl) (lv_at hl 4 rfl) ?_
    refine lv_iload_n hx hb (z_d hX3_openAt_0 13 rfl) rfl (lv_at hl 3 rfl) ?_
    refine lv_icmp_le (tgt := 47) hx hb (z_d hX3_openAt_0 14 rfl) (by decide) (fun hc22 => ?_) (fun hc22 => ?_)
    · have hF := z_pos hc22 hF
      obtain rfl := Option.some.inj hF
      exact K1 _ _ ls hP hD hS (lv_sub hl [0, 1, 2] rfl)
    · have hF := z_neg hc22 hF
      refine lv_aload_n hx hb (z_d hX3_openAt_0 15 rfl) rfl (lv_at hl 0 rfl) ?_
      refine va_get (D := Z.1) (ci := 3) (v := .ref b1) (C := RX3) (T := TX3) (N := 1) hx hb hts zinX3 hown hK.1 hP 0 rfl rfl 0 (by decide) (hts _ k_f_X3_9) (fun _ h9 => h9) rfl (z_d hX3_openAt_0 16 rfl) ?_
      refine lv_iload hx hb (z_d hX3_openAt_0 17 rfl) (lv_at hl 4 rfl) ?_
      refine lv_aload_n hx hb (z_d hX3_openAt_0 18 rfl) rfl (lv_at hl 0 rfl) ?_
      refine va_get (D := Z.1) (ci := 3) (v := .ref b1) (C := RX3) (T := TX3) (N := 1) hx hb hts zinX3 hown hK.1 hP 0 rfl rfl 0 (by decide) (hts _ k_f_X3_9) (fun _ h9 => h9) rfl (z_d hX3_openAt_0 19 rfl) ?_
      refine lv_iload hx hb (z_d hX3_openAt_0 20 rfl) (lv_at hl 4 rfl) ?_
      refine lv_iconst (v := 1) hx hb (z_d hX3_openAt_0 21 rfl) (by decide) ?_
      refine lv_isub hx hb (z_d hX3_openAt_0 22 rfl) ?_
      refine z_let hF (fun u2 hu2 hF => ?_)
      refine lv_topE hu2 ?_
      refine z_ix hF (fun hin hF => ?_)
      refine va_iald (D := Z.1) (f := v.1) hx hb hK.1 hP 1 0 rfl rfl hin (z_d hX3_openAt_0 23 rfl) ?_
      refine z_let hF (fun u3 hu3 hF => ?_)
      refine lv_topE hu3 ?_
      refine z_ix hF (fun hin hF => ?_)
      refine z_let hF (fun g4 hg4 hF => ?_)
      refine z_iastR (Z := Z) (ws := (w_Row Z.2.1 n1 a1 b1 v.1)) (ws' := (w_Row Z.2.1 n1 a1 b1 g4)) (f := v.1) hx hb hK hP hD hS 1 rfl hin hg4 rfl (z_d hX3_openAt_0 24 rfl) (fun H locs hP hD hS => ?_)
      refine z_let hF (fun u5 hu5 hF => ?_)
      refine lv_iinc (v := u5) (lv' := [(4, .int u5), (0, .ref a1), (1, .int p1), (2, .int p2), (3, .int x3)]) hx hb (z_d hX3_openAt_0 25 rfl) hl (k := 4) rfl (z_incm1 hu5) (by decide) rfl (fun ls hl => ?_)
      refine lv_goto (tgt := 19) hx hb (z_d hX3_openAt_0 26 rfl) (by decide) ?_
      exact ih _ _ hF _ _ ls hP hD hS (lv_sub hl [1, 2, 3, 4, 0] rfl) K1
  have J9 : ∀ (f1 : Rw) (z0 : Int32) (hF : j_X3_openAt_9 n1 p1 p2 f1 z0 = some R) (H : Heap) (locs : List Loc) (ls : Array Slot) (hP : va_P Z.1 vwCl (w_Row Z.2.1 n1 a1 b1 f1) H) (hD : va_D A (w_Row Z.2.1 n1 a1 b1 f1)) (hS : va_S A s.heap H locs) (hl : lv_has ls 5 [(0, .ref a1), (1, .int p1), (2, .int p2)]), W p l e rm_X3_openAt s m ([.ref a1, .int p1, .int p2] : List Value).toArray below meth c H locs 0 0 Q (F0 m 9 ls [.int z0]) := by
    intro f1 z0 hF H locs ls hP hD hS hl
    unfold j_X3_openAt_9 at hF
    refine lv_istore_n (lv' := [(3, .int z0), (0, .ref a1), (1, .int p1), (2, .int p2)]) hx hb (z_d hX3_openAt_0 5 rfl) rfl hl (by decide) rfl (fun ls hl => ?_)
    refine lv_aload_n hx hb (z_d hX3_openAt_0 6 rfl) rfl (lv_at hl 1 rfl) ?_
    refine va_get (D := Z.1) (ci := 3) (v := .ref b1) (C := RX3) (T := TX3) (N := 1) hx hb hts zinX3 hown hK.1 hP 0 rfl rfl 0 (by decide) (hts _ k_f_X3_9) (fun _ h9 => h9) rfl (z_d hX3_openAt_0 7 rfl) ?_
    refine va_alen (v := Int32.ofNat n1) (ty := .int) hx hb hK.1 hP 1 0 rfl rfl rfl (z_d hX3_openAt_0 8 rfl) ?_
    refine lv_iconst (v := 1) hx hb (z_d hX3_openAt_0 9 rfl) (by decide) ?_
    refine lv_isub hx hb (z_d hX3_openAt_0 10 rfl) ?_
    refine z_let hF (fun u1 hu1 hF => ?_)
    refine lv_topE hu1 ?_
    refine lv_istore (lv' := [(4, .int u1), (3, .int z0), (0, .ref a1), (1, .int p1), (2, .int p2)]) hx hb (z_d hX3_openAt_0 11 rfl) hl (by decide) rfl (fun ls hl => ?_)
    refine z_bnd hF (fun q6 hq6 hF => ?_)
    refine L19 z0 _ _ _ hq6 _ _ ls hP hD hS (lv_sub hl [2, 3, 4, 1, 0] rfl) (fun H locs ls hP hD hS hl => ?_)
    refine lv_aload_n hx hb (z_d hX3_openAt_0 27 rfl) rfl (lv_at hl 0 rfl) ?_
    refine lv_iload_n hx hb (z_d hX3_openAt_0 28 rfl) rfl (lv_at hl 1 rfl) ?_
    refine lv_iload_n hx hb (z_d hX3_openAt_0 29 rfl) rfl (lv_at hl 2 rfl) ?_
    refine z_bnd hF (fun q7 hq7 hF => ?_)
    refine z_mu0 (z_rV (As := [.int p1, .int p2]) (rest := []) hx hb hml hown hts vt_X3_put (c_X3_put l Z n1 a1 b1 q6 p1 p2 _ hq7) rfl rfl ⟨Nat.le_of_ble_eq_true rfl, Nat.le_of_ble_eq_true rfl⟩ k_m_X3_15 zPmu_blind (z_recv (q := (RX3, TX3, 1)) (ci := 3) (q0 := 0) hK hP rfl rfl) (z_prem hK hP hD) rfl hl.1 (Nat.le_of_ble_eq_true rfl) (z_d hX3_openAt_0 30 rfl) ⟨Nat.zero_le _, Nat.zero_le _⟩) hS hD rfl (fun H locs hP hD hS => ?_)
    have hP : va_P Z.1 vwCl (w_Row Z.2.1 n1 a1 b1 q7) H := hP
    have hD : va_D A (w_Row Z.2.1 n1 a1 b1 q7) := hD
    refine W.eq (g2 := F0 m 53 ls []) rfl ?_
    obtain rfl := Option.some.inj hF
    subst hQ
    subst hA
    exact W.vret hx hb hr (fun t ht hW => zq_mu (by rw [ht]; exact hP) (hS.F ht)) hS.2.2 (z_d hX3_openAt_0 31 rfl)
  refine lv_iload_n hx hb (z_d hX3_openAt_0 0 rfl) rfl (lv_at hl 1 rfl) ?_
  refine lv_if_le (tgt := 8) hx hb (z_d hX3_openAt_0 1 rfl) (by decide) (fun hc1 => ?_) (fun hc1 => ?_)
  · have hF := z_pos hc1 hF
    refine lv_iconst (v := 0) hx hb (z_d hX3_openAt_0 4 rfl) (by decide) ?_
    exact J9 f1 0 hF _ _ ls hP hD hS (lv_sub hl [0, 1, 2] rfl)
  · have hF := z_neg hc1 hF
    refine lv_iload_n hx hb (z_d hX3_openAt_0 2 rfl) rfl (lv_at hl 1 rfl) ?_
    refine lv_goto (tgt := 9) hx hb (z_d hX3_openAt_0 3 rfl) (by decide) ?_
    exact J9 f1 p1 hF _ _ ls hP hD hS (lv_sub hl [0, 1, 2] rfl)
def rm_X3_closeAt : Room := { frames := 0, cells := 0, slots := 0, locals := 0 }
set_option maxRecDepth 100000 in
set_option maxHeartbeats 4000000 in
theorem c_X3_closeAt (l : Launch) (Z : zZ) (n1 a1 b1 : Nat) (f1 : Rw) (p1 : Int32) (R : Rw) (hF : X3_closeAt n1 f1 p1 = some R) : zMU l yX3_closeAt (zw yX3_closeAt cX3_closeAt 4 none) rm_X3_closeAt Z [.ref a1, .int p1] (w_Row Z.2.1 n1 a1 b1 f1) (w_Row Z.2.1 n1 a1 b1 R) none := by
  refine zMU_of (by decide) (Nat.le_of_ble_eq_true rfl) (fun p e s m below meth c hx hb hr hml hown hts hlocks hK A hA Q hQ ls hl hP hD hS => ?_)
  unfold X3_closeAt at hF
  have hl : lv_has ls 4 [(0, .ref a1), (1, .int p1)] := hl
  have hown : s.vm.findClass RX3 = some m.cls := hown
  have L14 : ∀  (n : Nat) (v : Rw × Int32) (X : Rw) (hF : zloop (b_X3_closeAt_14 n1 p1 ) n v = some X) (H : Heap) (locs : List Loc) (ls : Array Slot) (hP : va_P Z.1 vwCl (w_Row Z.2.1 n1 a1 b1 v.1) H) (hD : va_D A (w_Row Z.2.1 n1 a1 b1 v.1)) (hS : va_S A s.heap H locs) (hl : lv_has ls 4 [(0, .ref a1), (1, .int p1), (3, .int v.2)]) (K1 : ∀ (H : Heap) (locs : List Loc) (ls : Array Slot) (hP : va_P Z.1 vwCl (w_Row Z.2.1 n1 a1 b1 X) H) (hD : va_D A (w_Row Z.2.1 n1 a1 b1 X)) (hS : va_S A s.heap H locs) (hl : lv_has ls 4 [(0, .ref a1), (1, .int p1)]), W p l e rm_X3_closeAt s m ([.ref a1, .int p1] : List Value).toArray below meth c H locs 0 0 Q (F0 m 43 ls [])), W p l e rm_X3_closeAt s m ([.ref a1, .int p1] : List Value).toArray below meth c H locs 0 0 Q (F0 m 14 ls []) := by
    skip
    refine z_loopE (fun rec ih v X hF H locs ls hP hD hS hl K1 => ?_)
    unfold b_X3_closeAt_14 at hF
    refine lv_iload_n hx hb (z_d hX3_closeAt_0 10 rfl) rfl (lv_at hl 2 rfl) ?_
    refine lv_aload_n hx hb (z_d hX3_closeAt_0 11 rfl) rfl (lv_at hl 0 rfl) ?_
    refine va_get (D := Z.1) (ci := 3) (v := .ref b1) (C := RX3) (T := TX3) (N := 1) hx hb hts zinX3 hown hK.1 hP 0 rfl rfl 0 (by decide) (hts _ k_f_X3_9) (fun _ h9 => h9) rfl (z_d hX3_closeAt_0 12 rfl) ?_
    refine va_alen (v := Int32.ofNat n1) (ty := .int) hx hb hK.1 hP 1 0 rfl rfl rfl (z_d hX3_closeAt_0 13 rfl) ?_
    refine lv_icmp_ge (tgt := 43) hx hb (z_d hX3_closeAt_0 14 rfl) (by decide) (fun hc20 => ?_) (fun hc20 => ?_)
    · have hF := z_pos hc20 hF
      obtain rfl := Option.some.inj hF
      exact K1 _ _ ls hP hD hS (lv_sub hl [0, 1] rfl)
    · have hF := z_neg hc20 hF
      refine lv_aload_n hx hb (z_d hX3_closeAt_0 15 rfl) rfl (lv_at hl 0 rfl) ?_
      refine va_get (D := Z.1) (ci := 3) (v := .ref b1) (C := RX3) (T := TX3) (N := 1) hx hb hts zinX3 hown hK.1 hP 0 rfl rfl 0 (by decide) (hts _ k_f_X3_9) (fun _ h9 => h9) rfl (z_d hX3_closeAt_0 16 rfl) ?_
      refine lv_iload_n hx hb (z_d hX3_closeAt_0 17 rfl) rfl (lv_at hl 2 rfl) ?_
      refine lv_iconst (v := 1) hx hb (z_d hX3_closeAt_0 18 rfl) (by decide) ?_
      refine lv_isub hx hb (z_d hX3_closeAt_0 19 rfl) ?_
      refine z_let hF (fun u2 hu2 hF => ?_)
      refine lv_topE hu2 ?_
      refine lv_aload_n hx hb (z_d hX3_closeAt_0 20 rfl) rfl (lv_at hl 0 rfl) ?_
      refine va_get (D := Z.1) (ci := 3) (v := .ref b1) (C := RX3) (T := TX3) (N := 1) hx hb hts zinX3 hown hK.1 hP 0 rfl rfl 0 (by decide) (hts _ k_f_X3_9) (fun _ h9 => h9) rfl (z_d hX3_closeAt_0 21 rfl) ?_
      refine lv_iload_n hx hb (z_d hX3_closeAt_0 22 rfl) rfl (lv_at hl 2 rfl) ?_
      refine z_ix hF (fun hin hF => ?_)
      refine va_iald (D := Z.1) (f := v.1) hx hb hK.1 hP 1 0 rfl rfl hin (z_d hX3_closeAt_0 23 rfl) ?_
      refine z_let hF (fun u3 hu3 hF => ?_)
      refine lv_topE hu3 ?_
      refine z_ix hF (fun hin hF => ?_)
      refine z_let hF (fun g4 hg4 hF => ?_)
      refine z_iastR (Z := Z) (ws := (w_Row Z.2.1 n1 a1 b1 v.1)) (ws' := (w_Row Z.2.1 n1 a1 b1 g4)) (f := v.1) hx hb hK hP hD hS 1 rfl hin hg4 rfl (z_d hX3_closeAt_0 24 rfl) (fun H locs hP hD hS => ?_)
      refine z_let hF (fun u5 hu5 hF => ?_)
      refine lv_iinc (v := u5) (lv' := [(3, .int u5), (0, .ref a1), (1, .int p1)]) hx hb (z_d hX3_closeAt_0 25 rfl) hl (k := 2) rfl (z_inc1 hu5) (by decide) rfl (fun ls hl => ?_)
      refine lv_goto (tgt := 14) hx hb (z_d hX3_closeAt_0 26 rfl) (by decide) ?_
      exact ih _ _ hF _ _ ls hP hD hS (lv_sub hl [1, 2, 0] rfl) K1
  have J9 : ∀ (f1 : Rw) (z0 : Int32) (hF : j_X3_closeAt_9 n1 p1 f1 z0 = some R) (H : Heap) (locs : List Loc) (ls : Array Slot) (hP : va_P Z.1 vwCl (w_Row Z.2.1 n1 a1 b1 f1) H) (hD : va_D A (w_Row Z.2.1 n1 a1 b1 f1)) (hS : va_S A s.heap H locs) (hl : lv_has ls 4 [(0, .ref a1), (1, .int p1)]), W p l e rm_X3_closeAt s m ([.ref a1, .int p1] : List Value).toArray below meth c H locs 0 0 Q (F0 m 9 ls [.int z0]) := by
    intro f1 z0 hF H locs ls hP hD hS hl
    unfold j_X3_closeAt_9 at hF
    refine lv_istore_n (lv' := [(2, .int z0), (0, .ref a1), (1, .int p1)]) hx hb (z_d hX3_closeAt_0 5 rfl) rfl hl (by decide) rfl (fun ls hl => ?_)
    refine lv_iload_n hx hb (z_d hX3_closeAt_0 6 rfl) rfl (lv_at hl 0 rfl) ?_
    refine lv_iconst (v := 1) hx hb (z_d hX3_closeAt_0 7 rfl) (by decide) ?_
    refine lv_iadd hx hb (z_d hX3_closeAt_0 8 rfl) ?_
    refine z_let hF (fun u1 hu1 hF => ?_)
    refine lv_topE hu1 ?_
    refine lv_istore_n (lv' := [(3, .int u1), (2, .int z0), (0, .ref a1), (1, .int p1)]) hx hb (z_d hX3_closeAt_0 9 rfl) rfl hl (by decide) rfl (fun ls hl => ?_)
    refine z_bnd hF (fun q6 hq6 hF => ?_)
    refine L14  _ _ _ hq6 _ _ ls hP hD hS (lv_sub hl [2, 3, 0] rfl) (fun H locs ls hP hD hS hl => ?_)
    obtain rfl := Option.some.inj hF
    subst hQ
    subst hA
    exact W.vret hx hb hr (fun t ht hW => zq_mu (by rw [ht]; exact hP) (hS.F ht)) hS.2.2 (z_d hX3_closeAt_0 27 rfl)
  refine lv_iload_n hx hb (z_d hX3_closeAt_0 0 rfl) rfl (lv_at hl 1 rfl) ?_
  refine lv_if_le (tgt := 8) hx hb (z_d hX3_closeAt_0 1 rfl) (by decide) (fun hc1 => ?_) (fun hc1 => ?_)
  · have hF := z_pos hc1 hF
    refine lv_iconst (v := 0) hx hb (z_d hX3_closeAt_0 4 rfl) (by decide) ?_
    exact J9 f1 0 hF _ _ ls hP hD hS (lv_sub hl [0, 1] rfl)
  · have hF := z_neg hc1 hF
    refine lv_iload_n hx hb (z_d hX3_closeAt_0 2 rfl) rfl (lv_at hl 1 rfl) ?_
    refine lv_goto (tgt := 9) hx hb (z_d hX3_closeAt_0 3 rfl) (by decide) ?_
    exact J9 f1 p1 hF _ _ ls hP hD hS (lv_sub hl [0, 1] rfl)
def rm_X3_copyFrom : Room := { frames := 0, cells := 0, slots := 0, locals := 0 }
set_option maxRecDepth 100000 in
set_option maxHeartbeats 4000000 in
theorem c_X3_copyFrom (l : Launch) (Z : zZ) (n1 a1 b1 : Nat) (n2 a2 b2 : Nat) (f1 : Rw) (f2 : Rw) (R : Rw) (hF : X3_copyFrom n1 n2 f1 f2 = some R) : zMU l yX3_copyFrom (zw yX3_copyFrom cX3_copyFrom 3 none) rm_X3_copyFrom Z [.ref a1, .ref a2] (List.flatten [w_Row Z.2.1 n1 a1 b1 f1, w_Row Z.2.1 n2 a2 b2 f2]) (List.flatten [w_Row Z.2.1 n1 a1 b1 R, w_Row Z.2.1 n2 a2 b2 f2]) none := by
  refine zMU_of (by decide) (Nat.le_of_ble_eq_true rfl) (fun p e s m below meth c hx hb hr hml hown hts hlocks hK A hA Q hQ ls hl hP hD hS => ?_)
  unfold X3_copyFrom at hF
  have hl : lv_has ls 3 [(0, .ref a1), (1, .ref a2)] := hl
  have hown : s.vm.findClass RX3 = some m.cls := hown
  have L2 : ∀  (n : Nat) (v : Rw × Int32) (X : Rw) (hF : zloop (b_X3_copyFrom_2 n1 n2 f2 ) n v = some X) (H : Heap) (locs : List Loc) (ls : Array Slot) (hP : va_P Z.1 vwCl ([w_Row Z.2.1 n1 a1 b1 v.1, w_Row Z.2.1 n2 a2 b2 f2]).flatten H) (hD : va_D A ([w_Row Z.2.1 n1 a1 b1 v.1, w_Row Z.2.1 n2 a2 b2 f2]).flatten) (hS : va_S A s.heap H locs) (hl : lv_has ls 3 [(0, .ref a1), (1, .ref a2), (2, .int v.2)]) (K1 : ∀ (H : Heap) (locs : List Loc) (ls : Array Slot) (hP : va_P Z.1 vwCl ([w_Row Z.2.1 n1 a1 b1 X, w_Row Z.2.1 n2 a2 b2 f2]).flatten H) (hD : va_D A ([w_Row Z.2.1 n1 a1 b1 X, w_Row Z.2.1 n2 a2 b2 f2]).flatten) (hS : va_S A s.heap H locs) (hl : lv_has ls 3 [(0, .ref a1), (1, .ref a2)]), W p l e rm_X3_copyFrom s m ([.ref a1, .ref a2] : List Value).toArray below meth c H locs 0 0 Q (F0 m 38 ls [])), W p l e rm_X3_copyFrom s m ([.ref a1, .ref a2] : List Value).toArray below meth c H locs 0 0 Q (F0 m 2 ls []) := by
    skip
    refine z_loopE (fun rec ih v X hF H locs ls hP hD hS hl K1 => ?_)
    unfold b_X3_copyFrom_2 at hF
    refine lv_iload_n hx hb (z_d hX3_copyFrom_0 2 rfl) rfl (lv_at hl 2 rfl) ?_
    refine lv_aload_n hx hb (z_d hX3_copyFrom_0 3 rfl) rfl (lv_at hl 0 rfl) ?_
    refine va_get (D := Z.1) (ci := 3) (v := .ref b1) (C := RX3) (T := TX3) (N := 1) hx hb hts zinX3 hown hK.1 (zP_reg hP 0 rfl) 0 rfl rfl 0 (by decide) (hts _ k_f_X3_9) (fun _ h9 => h9) rfl (z_d hX3_copyFrom_0 4 rfl) ?_
    refine va_alen (v := Int32.ofNat n1) (ty := .int) hx hb hK.1 (zP_reg hP 0 rfl) 1 0 rfl rfl rfl (z_d hX3_copyFrom_0 5 rfl) ?_
    refine lv_icmp_ge (tgt := 38) hx hb (z_d hX3_copyFrom_0 6 rfl) (by decide) (fun hc8 => ?_) (fun hc8 => ?_)
    · have hF := z_pos hc8 hF
      obtain rfl := Option.some.inj hF
      exact K1 _ _ ls hP hD hS (lv_sub hl [0, 1] rfl)
    · have hF := z_neg hc8 hF
      refine lv_iload_n hx hb (z_d hX3_copyFrom_0 7 rfl) rfl (lv_at hl 2 rfl) ?_
      refine lv_aload_n hx hb (z_d hX3_copyFrom_0 8 rfl) rfl (lv_at hl 1 rfl) ?_
      refine va_get (D := Z.1) (ci := 3) (v := .ref b2) (C := RX3) (T := TX3) (N := 1) hx hb hts zinX3 hown hK.1 (zP_reg hP 1 rfl) 0 rfl rfl 0 (by decide) (hts _ k_f_X3_9) (fun _ h9 => h9) rfl (z_d hX3_copyFrom_0 9 rfl) ?_
      refine va_alen (v := Int32.ofNat n2) (ty := .int) hx hb hK.1 (zP_reg hP 1 rfl) 1 0 rfl rfl rfl (z_d hX3_copyFrom_0 10 rfl) ?_
      refine lv_icmp_ge (tgt := 38) hx hb (z_d hX3_copyFrom_0 11 rfl) (by decide) (fun hc17 => ?_) (fun hc17 => ?_)
      · have hF := z_pos hc17 hF
        obtain rfl := Option.some.inj hF
        exact K1 _ _ ls hP hD hS (lv_sub hl [0, 1] rfl)
      · have hF := z_neg hc17 hF
        refine lv_aload_n hx hb (z_d hX3_copyFrom_0 12 rfl) rfl (lv_at hl 0 rfl) ?_
        refine va_get (D := Z.1) (ci := 3) (v := .ref b1) (C := RX3) (T := TX3) (N := 1) hx hb hts zinX3 hown hK.1 (zP_reg hP 0 rfl) 0 rfl rfl 0 (by decide) (hts _ k_f_X3_9) (fun _ h9 => h9) rfl (z_d hX3_copyFrom_0 13 rfl) ?_
        refine lv_iload_n hx hb (z_d hX3_copyFrom_0 14 rfl) rfl (lv_at hl 2 rfl) ?_
        refine lv_aload_n hx hb (z_d hX3_copyFrom_0 15 rfl) rfl (lv_at hl 1 rfl) ?_
        refine va_get (D := Z.1) (ci := 3) (v := .ref b2) (C := RX3) (T := TX3) (N := 1) hx hb hts zinX3 hown hK.1 (zP_reg hP 1 rfl) 0 rfl rfl 0 (by decide) (hts _ k_f_X3_9) (fun _ h9 => h9) rfl (z_d hX3_copyFrom_0 16 rfl) ?_
        refine lv_iload_n hx hb (z_d hX3_copyFrom_0 17 rfl) rfl (lv_at hl 2 rfl) ?_
        refine z_ix hF (fun hin hF => ?_)
        refine va_iald (D := Z.1) (f := f2) hx hb hK.1 (zP_reg hP 1 rfl) 1 0 rfl rfl hin (z_d hX3_copyFrom_0 18 rfl) ?_
        refine z_let hF (fun u1 hu1 hF => ?_)
        refine lv_topE hu1 ?_
        refine z_ix hF (fun hin hF => ?_)
        refine z_let hF (fun g2 hg2 hF => ?_)
        refine z_iastR (Z := Z) (ws := ([w_Row Z.2.1 n1 a1 b1 v.1, w_Row Z.2.1 n2 a2 b2 f2]).flatten) (ws' := ([w_Row Z.2.1 n1 a1 b1 g2, w_Row Z.2.1 n2 a2 b2 f2]).flatten) (f := v.1) hx hb hK hP hD hS 1 rfl hin hg2 rfl (z_d hX3_copyFrom_0 19 rfl) (fun H locs hP hD hS => ?_)
        refine z_let hF (fun u3 hu3 hF => ?_)
        refine lv_iinc (v := u3) (lv' := [(2, .int u3), (0, .ref a1), (1, .ref a2)]) hx hb (z_d hX3_copyFrom_0 20 rfl) hl (k := 2) rfl (z_inc1 hu3) (by decide) rfl (fun ls hl => ?_)
        refine lv_goto (tgt := 2) hx hb (z_d hX3_copyFrom_0 21 rfl) (by decide) ?_
        exact ih _ _ hF _ _ ls hP hD hS (lv_sub hl [1, 2, 0] rfl) K1
  refine lv_iconst (v := 0) hx hb (z_d hX3_copyFrom_0 0 rfl) (by decide) ?_
  refine lv_istore_n (lv' := [(2, .int 0), (0, .ref a1), (1, .ref a2)]) hx hb (z_d hX3_copyFrom_0 1 rfl) rfl hl (by decide) rfl (fun ls hl => ?_)
  refine z_bnd hF (fun q4 hq4 hF => ?_)
  refine L2  _ _ _ hq4 _ _ ls hP hD hS (lv_sub hl [1, 2, 0] rfl) (fun H locs ls hP hD hS hl => ?_)
  obtain rfl := Option.some.inj hF
  subst hQ
  subst hA
  exact W.vret hx hb hr (fun t ht hW => zq_mu (by rw [ht]; exact hP) (hS.F ht)) hS.2.2 (z_d hX3_copyFrom_0 22 rfl)
end
section
-- what the methods of Row do, told without steps
theorem zl_s {σ τ : Type} {body : (σ → Option τ) → σ → Option τ} {n : Nat} {v : σ} : zloop body (n + 1) v = body (zloop body n) v := rfl
/-- a loop's answer by an invariant between the state and the answer, and a measure that falls -/
theorem zl_ind {σ τ : Type} {body : (σ → Option τ) → σ → Option τ} (I : σ → τ → Prop) (μ : σ → Nat) (step : ∀ (rec : σ → Option τ) (v : σ) (X : τ), I v X → (∀ v' : σ, I v' X → μ v' < μ v → rec v' = some X) → body rec v = some X) : ∀ (n : Nat) (v : σ) (X : τ), I v X → μ v < n → zloop body n v = some X
  | 0, _, _, _, h => absurd h (Nat.not_lt_zero _)
  | n + 1, v, X, hI, h => step (zloop body n) v X hI (fun v' h1 h2 => zl_ind I μ step n v' X h1 (by omega))
def rAt (n : Nat) (f : Rw) (i : Int32) : Int32 := if i < 0 then (-1) else if Int32.ofNat n ≤ i then (-1) else f i.toNatClampNeg
def rPut (n : Nat) (f : Rw) (i x : Int32) : Rw := if i < 0 then f else if Int32.ofNat n ≤ i then f else upd f i.toNatClampNeg x
def rPlus (n : Nat) (f : Rw) (i x : Int32) : Rw := if i < 0 then f else if Int32.ofNat n ≤ i then f else upd f i.toNatClampNeg (f i.toNatClampNeg + x)
def rFst (i : Int32) : Nat := if i ≤ 0 then 0 else i.toNatClampNeg
def rOpen (n : Nat) (f : Rw) (i x : Int32) : Rw := rPut n (fun k => if rFst i < k ∧ k < n then f (k - 1) else f k) i x
def rClose (n : Nat) (f : Rw) (i : Int32) : Rw := fun k => if rFst i ≤ k ∧ k + 1 < n then f (k + 1) else f k
def rCopy (n k : Nat) (f g : Rw) : Rw := fun j => if j < n ∧ j < k then g j else f j
theorem zix_in {α : Type} {i : Int32} {n : Nat} {x : Option α} (h : vp_in i n) : zix i n x = x := if_neg h
theorem zix_nI {α : Type} {j n : Nat} {x : Option α} (h : j < n) (hn : n < 2147483648) : zix (nI j) n x = x := zix_in (vp_in_nI h hn)
theorem r_in {n : Nat} {i : Int32} (hn : n < 2147483648) (h0 : ¬ i < 0) (h1 : ¬ Int32.ofNat n ≤ i) : vp_in i n := by
  obtain ⟨j, hj, rfl⟩ := nI_of h0
  have h2 : ¬ nI n ≤ nI j := h1
  rw [nI_leI hn hj] at h2
  exact vp_in_nI (by omega) hn
theorem X3_at_t {n : Nat} (hn : n < 2147483648) (f : Rw) (i : Int32) : X3_at n f i = some (rAt n f i) := by
  unfold X3_at rAt
  simp only [zlet]
  by_cases h0 : i < 0
  · rw [if_pos h0, if_pos h0]
  · rw [if_neg h0, if_neg h0]
    by_cases h1 : Int32.ofNat n ≤ i
    · rw [if_pos h1, if_pos h1]
    · rw [if_neg h1, if_neg h1, zix_in (r_in hn h0 h1)]
theorem X3_put_t {n : Nat} (hn : n < 2147483648) (f : Rw) (i x : Int32) : X3_put n f i x = some (rPut n f i x) := by
  unfold X3_put rPut
  simp only [zlet]
  by_cases h0 : i < 0
  · rw [if_pos h0, if_pos h0]
  · rw [if_neg h0, if_neg h0]
    by_cases h1 : Int32.ofNat n ≤ i
    · rw [if_pos h1, if_pos h1]
    · rw [if_neg h1, if_neg h1, zix_in (r_in hn h0 h1)]
theorem X3_plus_t {n : Nat} (hn : n < 2147483648) (f : Rw) (i x : Int32) : X3_plus n f i x = some (rPlus n f i x) := by
  unfold X3_plus rPlus
  simp only [zlet]
  by_cases h0 : i < 0
  · rw [if_pos h0, if_pos h0]
  · rw [if_neg h0, if_neg h0]
    by_cases h1 : Int32.ofNat n ≤ i
    · rw [if_pos h1, if_pos h1]
    · rw [if_neg h1, if_neg h1, zix_in (r_in hn h0 h1), zix_in (r_in hn h0 h1)]
theorem open_loop {n F : Nat} (p1 p2 : Int32) (hn : n < 2000) (hF : F < 2147483648) : ∀ (j : Nat) (g : Rw) (m : Nat), j < n → j < m → zloop (b_X3_openAt_19 n p1 p2 (nI F)) m (g, nI j) = some (fun k => if F < k ∧ k ≤ j then g (k - 1) else g k) := by
  intro j
  induction j with
  | zero =>
    intro g m _ hm
    obtain ⟨m, rfl⟩ : ∃ m', m = m' + 1 := ⟨m - 1, by omega⟩
    obtain ⟨rec, hrec⟩ : ∃ r, r = zloop (b_X3_openAt_19 n p1 p2 (nI F)) m := ⟨_, rfl⟩
    rw [zl_s, ← hrec]
    unfold b_X3_openAt_19
    simp only [zlet]
    rw [if_pos (show nI 0 ≤ nI F from nI_le (Nat.zero_le _) hF)]
    congr 1
    funext k
    rw [if_neg (by omega)]
  | succ j ih =>
    intro g m hj hm
    obtain ⟨m, rfl⟩ : ∃ m', m = m' + 1 := ⟨m - 1, by omega⟩
    obtain ⟨rec, hrec⟩ : ∃ r, r = zloop (b_X3_openAt_19 n p1 p2 (nI F)) m := ⟨_, rfl⟩
    rw [zl_s, ← hrec]
    unfold b_X3_openAt_19
    simp only [zlet]
    by_cases h : j + 1 ≤ F
    · rw [if_pos (show nI (j + 1) ≤ nI F from nI_le h hF)]
      congr 1
      funext k
      rw [if_neg (by omega)]
    · rw [if_neg (show ¬ nI (j + 1) ≤ nI F from nI_ge (by omega) (by omega))]
      simp only [nI_pred, pk_m1]
      rw [zix_nI (by omega) (by omega), zix_nI hj (by omega), hrec, ih _ _ (by omega) (by omega), nI_clamp (by omega), nI_clamp (by omega)]
      congr 1
      funext k
      by_cases h1 : k = j + 1
      · subst h1
        rw [if_neg (by omega), if_pos (by omega), pk_us]
        rfl
      · rw [pk_un h1]
        by_cases h2 : F < k ∧ k ≤ j
        · rw [if_pos h2, if_pos (by omega), pk_un (by omega)]
        · rw [if_neg h2, if_neg (by omega)]
theorem X3_openAt_t {n : Nat} (hn : n < 2000) (h0 : 0 < n) (f : Rw) (i x : Int32) : X3_openAt n f i x = some (rOpen n f i x) := by
  have key : ∀ (F : Nat), F < 2147483648 → j_X3_openAt_9 n i x f (nI F) = some (rPut n (fun k => if F < k ∧ k < n then f (k - 1) else f k) i x) := by
    intro F hF
    unfold j_X3_openAt_9
    simp only [zlet]
    have e : Int32.ofNat n - 1 = nI (n - 1) := by
      have := nI_pred (n - 1)
      rw [show n - 1 + 1 = n by omega] at this
      exact this
    rw [e, open_loop i x hn hF (n - 1) f FU (by omega) (by show n - 1 < 3000; omega), Option.bind_some, X3_put_t (by omega), Option.bind_some]
    congr 2
    funext k
    by_cases h2 : F < k ∧ k < n
    · rw [if_pos h2, if_pos (by omega)]
    · rw [if_neg h2, if_neg (by omega)]
  unfold X3_openAt rOpen rFst
  by_cases h1 : i ≤ 0
  · rw [if_pos h1, if_pos h1]; exact key 0 (by omega)
  · rw [if_neg h1, if_neg h1]
    obtain ⟨j, hj, rfl⟩ := nI_of (x := i) (fun h => h1 (Int32.le_of_lt h))
    rw [nI_clamp hj]
    exact key j hj
theorem close_loop {n : Nat} (p1 : Int32) (hn : n < 2000) : ∀ (d j : Nat) (g : Rw) (m : Nat), n - j = d → 0 < j → d < m → j < 2147483648 → zloop (b_X3_closeAt_14 n p1) m (g, nI j) = some (fun k => if j ≤ k + 1 ∧ k + 1 < n then g (k + 1) else g k) := by
  intro d
  induction d with
  | zero =>
    intro j g m hd h0 hm hj
    obtain ⟨m, rfl⟩ : ∃ m', m = m' + 1 := ⟨m - 1, by omega⟩
    obtain ⟨rec, hrec⟩ : ∃ r, r = zloop (b_X3_closeAt_14 n p1) m := ⟨_, rfl⟩
    rw [zl_s, ← hrec]
    unfold b_X3_closeAt_14
    simp only [zlet]
    rw [if_pos (show Int32.ofNat n ≤ nI j from nI_le (by omega) hj)]
    congr 1
    funext k
    rw [if_neg (by omega)]
  | succ d ih =>
    intro j g m hd h0 hm hj
    obtain ⟨m, rfl⟩ : ∃ m', m = m' + 1 := ⟨m - 1, by omega⟩
    obtain ⟨i, rfl⟩ : ∃ i, j = i + 1 := ⟨j - 1, by omega⟩
    obtain ⟨rec, hrec⟩ : ∃ r, r = zloop (b_X3_closeAt_14 n p1) m := ⟨_, rfl⟩
    rw [zl_s, ← hrec]
    unfold b_X3_closeAt_14
    simp only [zlet]
    rw [if_neg (show ¬ Int32.ofNat n ≤ nI (i + 1) from nI_ge (by omega) (by omega))]
    simp only [nI_pred, nI_1]
    rw [zix_nI (by omega) (by omega), zix_nI (by omega) (by omega), hrec, ih (i + 1 + 1) _ _ (by omega) (by omega) (by omega) (by omega), nI_clamp (by omega), nI_clamp (by omega)]
    congr 1
    funext k
    by_cases h1 : k = i
    · subst h1
      rw [if_neg (by omega), if_pos (by omega), pk_us]
    · rw [pk_un h1]
      by_cases h2 : i + 1 + 1 ≤ k + 1 ∧ k + 1 < n
      · rw [if_pos h2, if_pos (by omega), pk_un (by omega)]
      · rw [if_neg h2, if_neg (by omega)]
theorem X3_closeAt_t {n : Nat} (hn : n < 2000) (f : Rw) (i : Int32) (hi : i.toNatClampNeg < 2000) : X3_closeAt n f i = some (rClose n f i) := by
  have key : ∀ (F : Nat), F < 2000 → j_X3_closeAt_9 n i f (nI F) = some (fun k => if F ≤ k ∧ k + 1 < n then f (k + 1) else f k) := by
    intro F hF
    unfold j_X3_closeAt_9
    simp only [zlet]
    rw [nI_1, close_loop i hn (n - (F + 1)) (F + 1) f FU rfl (by omega) (by show n - (F + 1) < 3000; omega) (by omega), Option.bind_some]
    congr 1
    funext k
    by_cases h2 : F ≤ k ∧ k + 1 < n
    · rw [if_pos h2, if_pos (by omega)]
    · rw [if_neg h2, if_neg (by omega)]
  unfold X3_closeAt rClose rFst
  by_cases h1 : i ≤ 0
  · rw [if_pos h1]; simp only [if_pos h1]; exact key 0 (by omega)
  · rw [if_neg h1]; simp only [if_neg h1]
    obtain ⟨j, hj, rfl⟩ := nI_of (x := i) (fun h => h1 (Int32.le_of_lt h))
    rw [nI_clamp hj] at hi ⊢
    exact key j hi
theorem copy_loop {n k : Nat} (g : Rw) (hn : n < 2000) (hk : k < 2000) : ∀ (d j : Nat) (f : Rw) (m : Nat), n - j = d → d < m → j < 2147483648 → zloop (b_X3_copyFrom_2 n k g) m (f, nI j) = some (fun i => if j ≤ i ∧ i < n ∧ i < k then g i else f i) := by
  intro d
  induction d with
  | zero =>
    intro j f m hd hm hj
    obtain ⟨m, rfl⟩ : ∃ m', m = m' + 1 := ⟨m - 1, by omega⟩
    obtain ⟨rec, hrec⟩ : ∃ r, r = zloop (b_X3_copyFrom_2 n k g) m := ⟨_, rfl⟩
    rw [zl_s, ← hrec]
    unfold b_X3_copyFrom_2
    simp only [zlet]
    rw [if_pos (show Int32.ofNat n ≤ nI j from nI_le (by omega) hj)]
    congr 1
    funext i
    rw [if_neg (by omega)]
  | succ d ih =>
    intro j f m hd hm hj
    obtain ⟨m, rfl⟩ : ∃ m', m = m' + 1 := ⟨m - 1, by omega⟩
    obtain ⟨rec, hrec⟩ : ∃ r, r = zloop (b_X3_copyFrom_2 n k g) m := ⟨_, rfl⟩
    rw [zl_s, ← hrec]
    unfold b_X3_copyFrom_2
    simp only [zlet]
    rw [if_neg (show ¬ Int32.ofNat n ≤ nI j from nI_ge (by omega) (by omega))]
    by_cases h : k ≤ j
    · rw [if_pos (show Int32.ofNat k ≤ nI j from nI_le h hj)]
      congr 1
      funext i
      rw [if_neg (by omega)]
    · rw [if_neg (show ¬ Int32.ofNat k ≤ nI j from nI_ge (by omega) (by omega))]
      simp only [nI_1]
      rw [zix_nI (by omega) (by omega), zix_nI (by omega) (by omega), hrec, ih (j + 1) _ _ (by omega) (by omega) (by omega), nI_clamp (by omega)]
      congr 1
      funext i
      by_cases h1 : i = j
      · subst h1
        rw [if_neg (by omega), if_pos (by omega), pk_us]
      · rw [pk_un h1]
        by_cases h2 : j + 1 ≤ i ∧ i < n ∧ i < k
        · rw [if_pos h2, if_pos (by omega)]
        · rw [if_neg h2, if_neg (by omega)]
theorem X3_copyFrom_t {n k : Nat} (hn : n < 2000) (hk : k < 2000) (f g : Rw) : X3_copyFrom n k f g = some (rCopy n k f g) := by
  unfold X3_copyFrom rCopy
  have h := copy_loop g hn hk (n - 0) 0 f FU rfl (by show n - 0 < 3000; omega) (by omega)
  rw [show nI 0 = (0 : Int32) from nI_0] at h
  rw [h, Option.bind_some]
  congr 1
  funext i
  by_cases h2 : i < n ∧ i < k
  · rw [if_pos h2, if_pos (by omega)]
  · rw [if_neg h2, if_neg (by omega)]
-- their contracts in these words
theorem c_rAt (l : Launch) (Z : zZ) (n a b : Nat) (hn : n < 2147483648) (f : Rw) (i : Int32) (R : Int32) (hF : rAt n f i = R) : zRO l yX3_at (zw yX3_at cX3_at 2 (some .int)) rm_X3_at Z [.ref a, .int i] (w_Row Z.2.1 n a b f) (some (.int R)) := c_X3_at l Z n a b f i R (by rw [X3_at_t hn, hF])
theorem c_rPut (l : Launch) (Z : zZ) (n a b : Nat) (hn : n < 2147483648) (f : Rw) (i x : Int32) (R : Rw) (hF : rPut n f i x = R) : zMU l yX3_put (zw yX3_put cX3_put 3 none) rm_X3_put Z [.ref a, .int i, .int x] (w_Row Z.2.1 n a b f) (w_Row Z.2.1 n a b R) none := c_X3_put l Z n a b f i x R (by rw [X3_put_t hn, hF])
theorem c_rPlus (l : Launch) (Z : zZ) (n a b : Nat) (hn : n < 2147483648) (f : Rw) (i x : Int32) (R : Rw) (hF : rPlus n f i x = R) : zMU l yX3_plus (zw yX3_plus cX3_plus 3 none) rm_X3_plus Z [.ref a, .int i, .int x] (w_Row Z.2.1 n a b f) (w_Row Z.2.1 n a b R) none := c_X3_plus l Z n a b f i x R (by rw [X3_plus_t hn, hF])
theorem c_rOpen (l : Launch) (Z : zZ) (n a b : Nat) (hn : 0 < n ∧ n < 2000) (f : Rw) (i x : Int32) (R : Rw) (hF : rOpen n f i x = R) : zMU l yX3_openAt (zw yX3_openAt cX3_openAt 5 none) rm_X3_openAt Z [.ref a, .int i, .int x] (w_Row Z.2.1 n a b f) (w_Row Z.2.1 n a b R) none := c_X3_openAt l Z n a b f i x R (by rw [X3_openAt_t hn.2 hn.1, hF])
theorem c_rCopy (l : Launch) (Z : zZ) (n a b k d e : Nat) (hn : n < 2000 ∧ k < 2000) (f g : Rw) (R : Rw) (hF : rCopy n k f g = R) : zMU l yX3_copyFrom (zw yX3_copyFrom cX3_copyFrom 3 none) rm_X3_copyFrom Z [.ref a, .ref d] (List.flatten [w_Row Z.2.1 n a b f, w_Row Z.2.1 k d e g]) (List.flatten [w_Row Z.2.1 n a b R, w_Row Z.2.1 k d e g]) none := c_X3_copyFrom l Z n a b k d e f g R (by rw [X3_copyFrom_t hn.1 hn.2, hF])
end
section
def X6_isBelow (p0 : Int32) (p1 : Int32) : Int32 := if p0 < 0 then (0) else (if p1 ≤ p0 then (0) else (1))
theorem X6_isBelow_b (p0 : Int32) (p1 : Int32) : X6_isBelow p0 p1 = 0 ∨ X6_isBelow p0 p1 = 1 := by
  unfold X6_isBelow
  try simp only [zlet]
  repeat (first | exact Or.inl rfl | exact Or.inr rfl | split)
def X6_isKind (p0 : Int32) : Int32 := if p0 < 0 then (0) else (if 4 < p0 then (0) else (1))
theorem X6_isKind_b (p0 : Int32) : X6_isKind p0 = 0 ∨ X6_isKind p0 = 1 := by
  unfold X6_isKind
  try simp only [zlet]
  repeat (first | exact Or.inl rfl | exact Or.inr rfl | split)
def X6_isLength (p0 : Int32) : Int32 := if p0 < 1 then (0) else (if 400 < p0 then (0) else (1))
theorem X6_isLength_b (p0 : Int32) : X6_isLength p0 = 0 ∨ X6_isLength p0 = 1 := by
  unfold X6_isLength
  try simp only [zlet]
  repeat (first | exact Or.inl rfl | exact Or.inr rfl | split)
def X6_isPersonOf (p0 : Int32) (p1 : Int32) : Int32 := if p0 = 2 then (if p1 < 0 then (0) else (if 9 < p1 then (0) else (1))) else (if p1 = (-1) then (1) else (0))
theorem X6_isPersonOf_b (p0 : Int32) (p1 : Int32) : X6_isPersonOf p0 p1 = 0 ∨ X6_isPersonOf p0 p1 = 1 := by
  unfold X6_isPersonOf
  try simp only [zlet]
  repeat (first | exact Or.inl rfl | exact Or.inr rfl | split)
def X6_isPageLines (p0 : Int32) : Int32 := if p0 < 20 then (0) else (if 60 < p0 then (0) else (1))
theorem X6_isPageLines_b (p0 : Int32) : X6_isPageLines p0 = 0 ∨ X6_isPageLines p0 = 1 := by
  unfold X6_isPageLines
  try simp only [zlet]
  repeat (first | exact Or.inl rfl | exact Or.inr rfl | split)
def j_X1_leastPart_12 (p0 : Int32) (p1 : Int32)   : Int32 := if p1 < 4 then (p1) else (if p0 = 3 then (3) else (p1))
def X1_leastPart (p0 : Int32) (p1 : Int32) : Int32 := if p1 < 4 then (j_X1_leastPart_12 p0 p1) else (if p0 = 1 then (2) else (j_X1_leastPart_12 p0 p1))
def j_X1_firstPart_19 (p0 : Int32) (p1 : Int32) (p2 : Int32)  (z0 : Int32) : Int32 := zlet (p1 - 2) fun u1 => zlet (if u1 < z0 then u1 else z0) fun u2 => u2
def X1_firstPart (p0 : Int32) (p1 : Int32) (p2 : Int32) : Int32 := if p2 < p1 then (if p0 = 3 then (zlet (p2 - 1) fun u3 => j_X1_firstPart_19 p0 p1 p2 u3) else (j_X1_firstPart_19 p0 p1 p2 p2)) else (p1)
def X2_kindOf (p0 : Int32) : Int32 := if p0 = 97 then (1) else (if p0 = 104 then (0) else (if p0 = 110 then (2) else (if p0 = 114 then (4) else (if p0 = 115 then (3) else ((-1))))))
def X2_isDigit (p0 : Int32) : Int32 := if p0 < 48 then (0) else (if 57 < p0 then (0) else (1))
theorem X2_isDigit_b (p0 : Int32) : X2_isDigit p0 = 0 ∨ X2_isDigit p0 = 1 := by
  unfold X2_isDigit
  try simp only [zlet]
  repeat (first | exact Or.inl rfl | exact Or.inr rfl | split)
def X7_in (p0 : Int32) (p1 : Int32) (p2 : Int32) : Int32 := if p0 < p1 then (0) else (if p2 < p0 then (0) else (1))
theorem X7_in_b (p0 : Int32) (p1 : Int32) (p2 : Int32) : X7_in p0 p1 p2 = 0 ∨ X7_in p0 p1 p2 = 1 := by
  unfold X7_in
  try simp only [zlet]
  repeat (first | exact Or.inl rfl | exact Or.inr rfl | split)
def X7_wide (p0 : Int32) : Int32 := if p0 = 3 then (35) else (if p0 = 4 then (25) else (60))
def X7_kindOf (p0 : Int32) : Int32 := if p0 = 97 then (1) else (if p0 = 104 then (0) else (if p0 = 110 then (2) else (if p0 = 114 then (4) else (if p0 = 115 then (3) else ((-1))))))
def X7_isLength (p0 : Int32) : Int32 := zlet (X7_in p0 1 400) fun q1 => q1
theorem X7_isLength_b (p0 : Int32) : X7_isLength p0 = 0 ∨ X7_isLength p0 = 1 := by
  unfold X7_isLength
  try simp only [zlet]
  repeat (first | exact Or.inl rfl | exact Or.inr rfl | exact X7_in_b _ _ _ | split)
def X7_isPage (p0 : Int32) : Int32 := zlet (X7_in p0 20 60) fun q1 => q1
theorem X7_isPage_b (p0 : Int32) : X7_isPage p0 = 0 ∨ X7_isPage p0 = 1 := by
  unfold X7_isPage
  try simp only [zlet]
  repeat (first | exact Or.inl rfl | exact Or.inr rfl | exact X7_in_b _ _ _ | split)
end
section
theorem vs_X7_in : zSt yX7_in cX7_in 3 (some .boolean) 3 := ⟨zG_at 961 (by decide +kernel) (by decide +kernel), zG_at 81 (by decide +kernel) (by decide +kernel), zG_at 962 (by decide +kernel) (by decide +kernel), by decide +kernel⟩
theorem k_min_X1 : Cond.methodLink RX1 133 Lib.Math.min.name ∈ zG := zG_at 467 (by decide +kernel) (by decide +kernel)
theorem k_min_s : Cond.static Lib.Math.min.name ∈ zG := zG_at 468 (by decide +kernel) (by decide +kernel)
theorem k_min_i : Cond.initialized "java/lang/Math" ∈ zG := zG_at 88 (by decide +kernel) (by decide +kernel)
theorem k_min_c : Cond.code Lib.Math.min.name Lib.Math.min.code 2 (some .int) ∈ zG := zG_at 469 (by decide +kernel) (by decide +kernel)
theorem k_m_X7_58 : Cond.methodLink RX7 58 yX7_in ∈ zG := zG_at 960 (by decide +kernel) (by decide +kernel)
def rm_X6_isBelow : Room := { frames := 0, cells := 0, slots := 0, locals := 0 }
set_option maxRecDepth 100000 in
set_option maxHeartbeats 4000000 in
theorem c_X6_isBelow (l : Launch) (Z : zZ) (p0 : Int32) (p1 : Int32) (R : Int32) (hF : X6_isBelow p0 p1 = R) : zRO l yX6_isBelow (zw yX6_isBelow cX6_isBelow 2 (some .boolean)) rm_X6_isBelow Z [.int p0, .int p1] ([] : va_W) (some (.int R)) := by
  refine zRO_of (by decide) (Nat.le_of_ble_eq_true rfl) (fun p e s m below meth c hx hb hr hml hown hts hlocks hK Q hQ ls hl hP hS => ?_)
  unfold X6_isBelow at hF
  have hl : lv_has ls 2 [(0, .int p0), (1, .int p1)] := hl
  have hown : s.vm.findClass RX6 = some m.cls := hown
  refine lv_iload_n hx hb (z_d hX6_isBelow_0 0 rfl) rfl (lv_at hl 0 rfl) ?_
  refine lv_if_lt (tgt := 13) hx hb (z_d hX6_isBelow_0 1 rfl) (by decide) (fun hc1 => ?_) (fun hc1 => ?_)
  · have hF := z_pos hc1 hF
    refine lv_iconst (v := 0) hx hb (z_d hX6_isBelow_0 7 rfl) (by decide) ?_
    have hz9 : narrow .boolean (.int 0) = .int 0 := rfl
    obtain rfl := hF
    subst hQ
    exact W.zret hx hb hr hz9 (fun t ht hW => zq_ro (hS.F ht)) hS.2.2 (z_d hX6_isBelow_0 8 rfl)
  · have hF := z_neg hc1 hF
    refine lv_iload_n hx hb (z_d hX6_isBelow_0 2 rfl) rfl (lv_at hl 0 rfl) ?_
    refine lv_iload_n hx hb (z_d hX6_isBelow_0 3 rfl) rfl (lv_at hl 1 rfl) ?_
    refine lv_icmp_ge (tgt := 13) hx hb (z_d hX6_isBelow_0 4 rfl) (by decide) (fun hc6 => ?_) (fun hc6 => ?_)
    · have hF := z_pos hc6 hF
      refine lv_iconst (v := 0) hx hb (z_d hX6_isBelow_0 7 rfl) (by decide) ?_
      have hz9 : narrow .boolean (.int 0) = .int 0 := rfl
      obtain rfl := hF
      subst hQ
      exact W.zret hx hb hr hz9 (fun t ht hW => zq_ro (hS.F ht)) hS.2.2 (z_d hX6_isBelow_0 8 rfl)
    · have hF := z_neg hc6 hF
      refine lv_iconst (v := 1) hx hb (z_d hX6_isBelow_0 5 rfl) (by decide) ?_
      refine lv_goto (tgt := 14) hx hb (z_d hX6_isBelow_0 6 rfl) (by decide) ?_
      have hz9 : narrow .boolean (.int 1) = .int 1 := rfl
      obtain rfl := hF
      subst hQ
      exact W.zret hx hb hr hz9 (fun t ht hW => zq_ro (hS.F ht)) hS.2.2 (z_d hX6_isBelow_0 8 rfl)
def rm_X6_isKind : Room := { frames := 0, cells := 0, slots := 0, locals := 0 }
set_option maxRecDepth 100000 in
set_option maxHeartbeats 4000000 in
theorem c_X6_isKind (l : Launch) (Z : zZ) (p0 : Int32) (R : Int32) (hF : X6_isKind p0 = R) : zRO l yX6_isKind (zw yX6_isKind cX6_isKind 1 (some .boolean)) rm_X6_isKind Z [.int p0] ([] : va_W) (some (.int R)) := by
  refine zRO_of (by decide) (Nat.le_of_ble_eq_true rfl) (fun p e s m below meth c hx hb hr hml hown hts hlocks hK Q hQ ls hl hP hS => ?_)
  unfold X6_isKind at hF
  have hl : lv_has ls 1 [(0, .int p0)] := hl
  have hown : s.vm.findClass RX6 = some m.cls := hown
  refine lv_iload_n hx hb (z_d hX6_isKind_0 0 rfl) rfl (lv_at hl 0 rfl) ?_
  refine lv_if_lt (tgt := 13) hx hb (z_d hX6_isKind_0 1 rfl) (by decide) (fun hc1 => ?_) (fun hc1 => ?_)
  · have hF := z_pos hc1 hF
    refine lv_iconst (v := 0) hx hb (z_d hX6_isKind_0 7 rfl) (by decide) ?_
    have hz9 : narrow .boolean (.int 0) = .int 0 := rfl
    obtain rfl := hF
    subst hQ
    exact W.zret hx hb hr hz9 (fun t ht hW => zq_ro (hS.F ht)) hS.2.2 (z_d hX6_isKind_0 8 rfl)
  · have hF := z_neg hc1 hF
    refine lv_iload_n hx hb (z_d hX6_isKind_0 2 rfl) rfl (lv_at hl 0 rfl) ?_
    refine lv_iconst (v := 4) hx hb (z_d hX6_isKind_0 3 rfl) (by decide) ?_
    refine lv_icmp_gt (tgt := 13) hx hb (z_d hX6_isKind_0 4 rfl) (by decide) (fun hc6 => ?_) (fun hc6 => ?_)
    · have hF := z_pos hc6 hF
      refine lv_iconst (v := 0) hx hb (z_d hX6_isKind_0 7 rfl) (by decide) ?_
      have hz9 : narrow .boolean (.int 0) = .int 0 := rfl
      obtain rfl := hF
      subst hQ
      exact W.zret hx hb hr hz9 (fun t ht hW => zq_ro (hS.F ht)) hS.2.2 (z_d hX6_isKind_0 8 rfl)
    · have hF := z_neg hc6 hF
      refine lv_iconst (v := 1) hx hb (z_d hX6_isKind_0 5 rfl) (by decide) ?_
      refine lv_goto (tgt := 14) hx hb (z_d hX6_isKind_0 6 rfl) (by decide) ?_
      have hz9 : narrow .boolean (.int 1) = .int 1 := rfl
      obtain rfl := hF
      subst hQ
      exact W.zret hx hb hr hz9 (fun t ht hW => zq_ro (hS.F ht)) hS.2.2 (z_d hX6_isKind_0 8 rfl)
def rm_X6_isLength : Room := { frames := 0, cells := 0, slots := 0, locals := 0 }
set_option maxRecDepth 100000 in
set_option maxHeartbeats 4000000 in
theorem c_X6_isLength (l : Launch) (Z : zZ) (p0 : Int32) (R : Int32) (hF : X6_isLength p0 = R) : zRO l yX6_isLength (zw yX6_isLength cX6_isLength 1 (some .boolean)) rm_X6_isLength Z [.int p0] ([] : va_W) (some (.int R)) := by
  refine zRO_of (by decide) (Nat.le_of_ble_eq_true rfl) (fun p e s m below meth c hx hb hr hml hown hts hlocks hK Q hQ ls hl hP hS => ?_)
  unfold X6_isLength at hF
  have hl : lv_has ls 1 [(0, .int p0)] := hl
  have hown : s.vm.findClass RX6 = some m.cls := hown
  refine lv_iload_n hx hb (z_d hX6_isLength_0 0 rfl) rfl (lv_at hl 0 rfl) ?_
  refine lv_iconst (v := 1) hx hb (z_d hX6_isLength_0 1 rfl) (by decide) ?_
  refine lv_icmp_lt (tgt := 16) hx hb (z_d hX6_isLength_0 2 rfl) (by decide) (fun hc2 => ?_) (fun hc2 => ?_)
  · have hF := z_pos hc2 hF
    refine lv_iconst (v := 0) hx hb (z_d hX6_isLength_0 8 rfl) (by decide) ?_
    have hz9 : narrow .boolean (.int 0) = .int 0 := rfl
    obtain rfl := hF
    subst hQ
    exact W.zret hx hb hr hz9 (fun t ht hW => zq_ro (hS.F ht)) hS.2.2 (z_d hX6_isLength_0 9 rfl)
  · have hF := z_neg hc2 hF
    refine lv_iload_n hx hb (z_d hX6_isLength_0 3 rfl) rfl (lv_at hl 0 rfl) ?_
    refine lv_sipush (v := 400) hx hb (z_d hX6_isLength_0 4 rfl) (by decide) ?_
    refine lv_icmp_gt (tgt := 16) hx hb (z_d hX6_isLength_0 5 rfl) (by decide) (fun hc9 => ?_) (fun hc9 => ?_)
    · have hF := z_pos hc9 hF
      refine lv_iconst (v := 0) hx hb (z_d hX6_isLength_0 8 rfl) (by decide) ?_
      have hz9 : narrow .boolean (.int 0) = .int 0 := rfl
      obtain rfl := hF
      subst hQ
      exact W.zret hx hb hr hz9 (fun t ht hW => zq_ro (hS.F ht)) hS.2.2 (z_d hX6_isLength_0 9 rfl)
    · have hF := z_neg hc9 hF
      refine lv_iconst (v := 1) hx hb (z_d hX6_isLength_0 6 rfl) (by decide) ?_
      refine lv_goto (tgt := 17) hx hb (z_d hX6_isLength_0 7 rfl) (by decide) ?_
      have hz9 : narrow .boolean (.int 1) = .int 1 := rfl
      obtain rfl := hF
      subst hQ
      exact W.zret hx hb hr hz9 (fun t ht hW => zq_ro (hS.F ht)) hS.2.2 (z_d hX6_isLength_0 9 rfl)
def rm_X6_isPersonOf : Room := { frames := 0, cells := 0, slots := 0, locals := 0 }
set_option maxRecDepth 100000 in
set_option maxHeartbeats 4000000 in
theorem c_X6_isPersonOf (l : Launch) (Z : zZ) (p0 : Int32) (p1 : Int32) (R : Int32) (hF : X6_isPersonOf p0 p1 = R) : zRO l yX6_isPersonOf (zw yX6_isPersonOf cX6_isPersonOf 2 (some .boolean)) rm_X6_isPersonOf Z [.int p0, .int p1] ([] : va_W) (some (.int R)) := by
  refine zRO_of (by decide) (Nat.le_of_ble_eq_true rfl) (fun p e s m below meth c hx hb hr hml hown hts hlocks hK Q hQ ls hl hP hS => ?_)
  unfold X6_isPersonOf at hF
  have hl : lv_has ls 2 [(0, .int p0), (1, .int p1)] := hl
  have hown : s.vm.findClass RX6 = some m.cls := hown
  refine lv_iload_n hx hb (z_d hX6_isPersonOf_0 0 rfl) rfl (lv_at hl 0 rfl) ?_
  refine lv_iconst (v := 2) hx hb (z_d hX6_isPersonOf_0 1 rfl) (by decide) ?_
  refine lv_icmp_ne (tgt := 23) hx hb (z_d hX6_isPersonOf_0 2 rfl) (by decide) (fun hc2 => ?_) (fun hc2 => ?_)
  · have hF := z_neg hc2 hF
    refine lv_iload_n hx hb (z_d hX6_isPersonOf_0 12 rfl) rfl (lv_at hl 1 rfl) ?_
    refine lv_iconst (v := (-1)) hx hb (z_d hX6_isPersonOf_0 13 rfl) (by decide) ?_
    refine lv_icmp_ne (tgt := 32) hx hb (z_d hX6_isPersonOf_0 14 rfl) (by decide) (fun hc25 => ?_) (fun hc25 => ?_)
    · have hF := z_neg hc25 hF
      refine lv_iconst (v := 0) hx hb (z_d hX6_isPersonOf_0 17 rfl) (by decide) ?_
      have hz9 : narrow .boolean (.int 0) = .int 0 := rfl
      obtain rfl := hF
      subst hQ
      exact W.zret hx hb hr hz9 (fun t ht hW => zq_ro (hS.F ht)) hS.2.2 (z_d hX6_isPersonOf_0 18 rfl)
    · have hF := z_pos hc25 hF
      refine lv_iconst (v := 1) hx hb (z_d hX6_isPersonOf_0 15 rfl) (by decide) ?_
      refine lv_goto (tgt := 33) hx hb (z_d hX6_isPersonOf_0 16 rfl) (by decide) ?_
      have hz9 : narrow .boolean (.int 1) = .int 1 := rfl
      obtain rfl := hF
      subst hQ
      exact W.zret hx hb hr hz9 (fun t ht hW => zq_ro (hS.F ht)) hS.2.2 (z_d hX6_isPersonOf_0 18 rfl)
  · have hF := z_pos hc2 hF
    refine lv_iload_n hx hb (z_d hX6_isPersonOf_0 3 rfl) rfl (lv_at hl 1 rfl) ?_
    refine lv_if_lt (tgt := 19) hx hb (z_d hX6_isPersonOf_0 4 rfl) (by decide) (fun hc6 => ?_) (fun hc6 => ?_)
    · have hF := z_pos hc6 hF
      refine lv_iconst (v := 0) hx hb (z_d hX6_isPersonOf_0 10 rfl) (by decide) ?_
      refine lv_goto (tgt := 33) hx hb (z_d hX6_isPersonOf_0 11 rfl) (by decide) ?_
      have hz9 : narrow .boolean (.int 0) = .int 0 := rfl
      obtain rfl := hF
      subst hQ
      exact W.zret hx hb hr hz9 (fun t ht hW => zq_ro (hS.F ht)) hS.2.2 (z_d hX6_isPersonOf_0 18 rfl)
    · have hF := z_neg hc6 hF
      refine lv_iload_n hx hb (z_d hX6_isPersonOf_0 5 rfl) rfl (lv_at hl 1 rfl) ?_
      refine lv_bipush (v := 9) hx hb (z_d hX6_isPersonOf_0 6 rfl) (by decide) ?_
      refine lv_icmp_gt (tgt := 19) hx hb (z_d hX6_isPersonOf_0 7 rfl) (by decide) (fun hc12 => ?_) (fun hc12 => ?_)
      · have hF := z_pos hc12 hF
        refine lv_iconst (v := 0) hx hb (z_d hX6_isPersonOf_0 10 rfl) (by decide) ?_
        refine lv_goto (tgt := 33) hx hb (z_d hX6_isPersonOf_0 11 rfl) (by decide) ?_
        have hz9 : narrow .boolean (.int 0) = .int 0 := rfl
        obtain rfl := hF
        subst hQ
        exact W.zret hx hb hr hz9 (fun t ht hW => zq_ro (hS.F ht)) hS.2.2 (z_d hX6_isPersonOf_0 18 rfl)
      · have hF := z_neg hc12 hF
        refine lv_iconst (v := 1) hx hb (z_d hX6_isPersonOf_0 8 rfl) (by decide) ?_
        refine lv_goto (tgt := 33) hx hb (z_d hX6_isPersonOf_0 9 rfl) (by decide) ?_
        have hz9 : narrow .boolean (.int 1) = .int 1 := rfl
        obtain rfl := hF
        subst hQ
        exact W.zret hx hb hr hz9 (fun t ht hW => zq_ro (hS.F ht)) hS.2.2 (z_d hX6_isPersonOf_0 18 rfl)
def rm_X6_isPageLines : Room := { frames := 0, cells := 0, slots := 0, locals := 0 }
set_option maxRecDepth 100000 in
set_option maxHeartbeats 4000000 in
theorem c_X6_isPageLines (l : Launch) (Z : zZ) (p0 : Int32) (R : Int32) (hF : X6_isPageLines p0 = R) : zRO l yX6_isPageLines (zw yX6_isPageLines cX6_isPageLines 1 (some .boolean)) rm_X6_isPageLines Z [.int p0] ([] : va_W) (some (.int R)) := by
  refine zRO_of (by decide) (Nat.le_of_ble_eq_true rfl) (fun p e s m below meth c hx hb hr hml hown hts hlocks hK Q hQ ls hl hP hS => ?_)
  unfold X6_isPageLines at hF
  have hl : lv_has ls 1 [(0, .int p0)] := hl
  have hown : s.vm.findClass RX6 = some m.cls := hown
  refine lv_iload_n hx hb (z_d hX6_isPageLines_0 0 rfl) rfl (lv_at hl 0 rfl) ?_
  refine lv_bipush (v := 20) hx hb (z_d hX6_isPageLines_0 1 rfl) (by decide) ?_
  refine lv_icmp_lt (tgt := 16) hx hb (z_d hX6_isPageLines_0 2 rfl) (by decide) (fun hc3 => ?_) (fun hc3 => ?_)
  · have hF := z_pos hc3 hF
    refine lv_iconst (v := 0) hx hb (z_d hX6_isPageLines_0 8 rfl) (by decide) ?_
    have hz9 : narrow .boolean (.int 0) = .int 0 := rfl
    obtain rfl := hF
    subst hQ
    exact W.zret hx hb hr hz9 (fun t ht hW => zq_ro (hS.F ht)) hS.2.2 (z_d hX6_isPageLines_0 9 rfl)
  · have hF := z_neg hc3 hF
    refine lv_iload_n hx hb (z_d hX6_isPageLines_0 3 rfl) rfl (lv_at hl 0 rfl) ?_
    refine lv_bipush (v := 60) hx hb (z_d hX6_isPageLines_0 4 rfl) (by decide) ?_
    refine lv_icmp_gt (tgt := 16) hx hb (z_d hX6_isPageLines_0 5 rfl) (by decide) (fun hc9 => ?_) (fun hc9 => ?_)
    · have hF := z_pos hc9 hF
      refine lv_iconst (v := 0) hx hb (z_d hX6_isPageLines_0 8 rfl) (by decide) ?_
      have hz9 : narrow .boolean (.int 0) = .int 0 := rfl
      obtain rfl := hF
      subst hQ
      exact W.zret hx hb hr hz9 (fun t ht hW => zq_ro (hS.F ht)) hS.2.2 (z_d hX6_isPageLines_0 9 rfl)
    · have hF := z_neg hc9 hF
      refine lv_iconst (v := 1) hx hb (z_d hX6_isPageLines_0 6 rfl) (by decide) ?_
      refine lv_goto (tgt := 17) hx hb (z_d hX6_isPageLines_0 7 rfl) (by decide) ?_
      have hz9 : narrow .boolean (.int 1) = .int 1 := rfl
      obtain rfl := hF
      subst hQ
      exact W.zret hx hb hr hz9 (fun t ht hW => zq_ro (hS.F ht)) hS.2.2 (z_d hX6_isPageLines_0 9 rfl)
def rm_X1_leastPart : Room := { frames := 0, cells := 0, slots := 0, locals := 0 }
set_option maxRecDepth 100000 in
set_option maxHeartbeats 4000000 in
theorem c_X1_leastPart (l : Launch) (Z : zZ) (p0 : Int32) (p1 : Int32) (R : Int32) (hF : X1_leastPart p0 p1 = R) : zRO l yX1_leastPart (zw yX1_leastPart cX1_leastPart 2 (some .int)) rm_X1_leastPart Z [.int p0, .int p1] ([] : va_W) (some (.int R)) := by
  refine zRO_of (by decide) (Nat.le_of_ble_eq_true rfl) (fun p e s m below meth c hx hb hr hml hown hts hlocks hK Q hQ ls hl hP hS => ?_)
  unfold X1_leastPart at hF
  have hl : lv_has ls 2 [(0, .int p0), (1, .int p1)] := hl
  have hown : s.vm.findClass RX1 = some m.cls := hown
  have J12 : ∀  (hF : j_X1_leastPart_12 p0 p1 = R) (H : Heap) (locs : List Loc) (ls : Array Slot) (hP : va_P Z.1 vwCl ([] : va_W) H) (hS : va_S (fun _ => False) s.heap H locs) (hl : lv_has ls 2 [(0, .int p0), (1, .int p1)]), W p l e rm_X1_leastPart s m ([.int p0, .int p1] : List Value).toArray below meth c H locs 0 0 Q (F0 m 12 ls []) := by
    intro  hF H locs ls hP hS hl
    unfold j_X1_leastPart_12 at hF
    refine lv_iload_n hx hb (z_d hX1_leastPart_0 8 rfl) rfl (lv_at hl 1 rfl) ?_
    refine lv_iconst (v := 4) hx hb (z_d hX1_leastPart_0 9 rfl) (by decide) ?_
    refine lv_icmp_lt (tgt := 26) hx hb (z_d hX1_leastPart_0 10 rfl) (by decide) (fun hc14 => ?_) (fun hc14 => ?_)
    · have hF := z_pos hc14 hF
      refine lv_iload_n hx hb (z_d hX1_leastPart_0 16 rfl) rfl (lv_at hl 1 rfl) ?_
      obtain rfl := hF
      subst hQ
      exact W.iret hx hb hr (fun t ht hW => zq_ro (hS.F ht)) hS.2.2 (z_d hX1_leastPart_0 17 rfl)
    · have hF := z_neg hc14 hF
      refine lv_iload_n hx hb (z_d hX1_leastPart_0 11 rfl) rfl (lv_at hl 0 rfl) ?_
      refine lv_iconst (v := 3) hx hb (z_d hX1_leastPart_0 12 rfl) (by decide) ?_
      refine lv_icmp_ne (tgt := 26) hx hb (z_d hX1_leastPart_0 13 rfl) (by decide) (fun hc19 => ?_) (fun hc19 => ?_)
      · have hF := z_neg hc19 hF
        refine lv_iload_n hx hb (z_d hX1_leastPart_0 16 rfl) rfl (lv_at hl 1 rfl) ?_
        obtain rfl := hF
        subst hQ
        exact W.iret hx hb hr (fun t ht hW => zq_ro (hS.F ht)) hS.2.2 (z_d hX1_leastPart_0 17 rfl)
      · have hF := z_pos hc19 hF
        refine lv_iconst (v := 3) hx hb (z_d hX1_leastPart_0 14 rfl) (by decide) ?_
        refine lv_goto (tgt := 27) hx hb (z_d hX1_leastPart_0 15 rfl) (by decide) ?_
        obtain rfl := hF
        subst hQ
        exact W.iret hx hb hr (fun t ht hW => zq_ro (hS.F ht)) hS.2.2 (z_d hX1_leastPart_0 17 rfl)
  refine lv_iload_n hx hb (z_d hX1_leastPart_0 0 rfl) rfl (lv_at hl 1 rfl) ?_
  refine lv_iconst (v := 4) hx hb (z_d hX1_leastPart_0 1 rfl) (by decide) ?_
  refine lv_icmp_lt (tgt := 12) hx hb (z_d hX1_leastPart_0 2 rfl) (by decide) (fun hc2 => ?_) (fun hc2 => ?_)
  · have hF := z_pos hc2 hF
    exact J12  hF _ _ ls hP hS (lv_sub hl [0, 1] rfl)
  · have hF := z_neg hc2 hF
    refine lv_iload_n hx hb (z_d hX1_leastPart_0 3 rfl) rfl (lv_at hl 0 rfl) ?_
    refine lv_iconst (v := 1) hx hb (z_d hX1_leastPart_0 4 rfl) (by decide) ?_
    refine lv_icmp_ne (tgt := 12) hx hb (z_d hX1_leastPart_0 5 rfl) (by decide) (fun hc7 => ?_) (fun hc7 => ?_)
    · have hF := z_neg hc7 hF
      exact J12  hF _ _ ls hP hS (lv_sub hl [0, 1] rfl)
    · have hF := z_pos hc7 hF
      refine lv_iconst (v := 2) hx hb (z_d hX1_leastPart_0 6 rfl) (by decide) ?_
      obtain rfl := hF
      subst hQ
      exact W.iret hx hb hr (fun t ht hW => zq_ro (hS.F ht)) hS.2.2 (z_d hX1_leastPart_0 7 rfl)
def rm_X1_firstPart : Room := { frames := 1, cells := 0, slots := 0, locals := 21 }
set_option maxRecDepth 100000 in
set_option maxHeartbeats 4000000 in
theorem c_X1_firstPart (l : Launch) (Z : zZ) (p0 : Int32) (p1 : Int32) (p2 : Int32) (R : Int32) (hF : X1_firstPart p0 p1 p2 = R) : zRO l yX1_firstPart (zw yX1_firstPart cX1_firstPart 3 (some .int)) rm_X1_firstPart Z [.int p0, .int p1, .int p2] ([] : va_W) (some (.int R)) := by
  refine zRO_of (by decide) (Nat.le_of_ble_eq_true rfl) (fun p e s m below meth c hx hb hr hml hown hts hlocks hK Q hQ ls hl hP hS => ?_)
  unfold X1_firstPart at hF
  have hl : lv_has ls 3 [(0, .int p0), (1, .int p1), (2, .int p2)] := hl
  have hown : s.vm.findClass RX1 = some m.cls := hown
  have J19 : ∀ (z0 : Int32) (hF : j_X1_firstPart_19 p0 p1 p2 z0 = R) (H : Heap) (locs : List Loc) (ls : Array Slot) (hP : va_P Z.1 vwCl ([] : va_W) H) (hS : va_S (fun _ => False) s.heap H locs) (hl : lv_has ls 3 [(0, .int p0), (1, .int p1), (2, .int p2)]), W p l e rm_X1_firstPart s m ([.int p0, .int p1, .int p2] : List Value).toArray below meth c H locs 0 0 Q (F0 m 19 ls [.int z0]) := by
    intro z0 hF H locs ls hP hS hl
    unfold j_X1_firstPart_19 at hF
    refine lv_iload_n hx hb (z_d hX1_firstPart_0 13 rfl) rfl (lv_at hl 1 rfl) ?_
    refine lv_iconst (v := 2) hx hb (z_d hX1_firstPart_0 14 rfl) (by decide) ?_
    refine lv_isub hx hb (z_d hX1_firstPart_0 15 rfl) ?_
    refine z_let hF (fun u1 hu1 hF => ?_)
    refine lv_topE hu1 ?_
    refine va_mmin hx hb (by rw [hml]; exact hl.1.symm) hown (hts _ k_min_X1) (hts _ k_min_s) (hts _ k_min_i) (hts _ k_min_c) (Nat.le_of_ble_eq_true rfl) (Nat.le_of_ble_eq_true rfl) (Nat.zero_le _) (Nat.zero_le _) (z_d hX1_firstPart_0 16 rfl) ?_
    refine z_let hF (fun u2 hu2 hF => ?_)
    refine lv_topE hu2 ?_
    obtain rfl := hF
    subst hQ
    exact W.iret hx hb hr (fun t ht hW => zq_ro (hS.F ht)) hS.2.2 (z_d hX1_firstPart_0 17 rfl)
  refine lv_iload_n hx hb (z_d hX1_firstPart_0 0 rfl) rfl (lv_at hl 1 rfl) ?_
  refine lv_iload_n hx hb (z_d hX1_firstPart_0 1 rfl) rfl (lv_at hl 2 rfl) ?_
  refine lv_icmp_gt (tgt := 7) hx hb (z_d hX1_firstPart_0 2 rfl) (by decide) (fun hc2 => ?_) (fun hc2 => ?_)
  · have hF := z_pos hc2 hF
    refine lv_iload_n hx hb (z_d hX1_firstPart_0 5 rfl) rfl (lv_at hl 0 rfl) ?_
    refine lv_iconst (v := 3) hx hb (z_d hX1_firstPart_0 6 rfl) (by decide) ?_
    refine lv_icmp_ne (tgt := 18) hx hb (z_d hX1_firstPart_0 7 rfl) (by decide) (fun hc9 => ?_) (fun hc9 => ?_)
    · have hF := z_neg hc9 hF
      refine lv_iload_n hx hb (z_d hX1_firstPart_0 12 rfl) rfl (lv_at hl 2 rfl) ?_
      exact J19 p2 hF _ _ ls hP hS (lv_sub hl [0, 1, 2] rfl)
    · have hF := z_pos hc9 hF
      refine lv_iload_n hx hb (z_d hX1_firstPart_0 8 rfl) rfl (lv_at hl 2 rfl) ?_
      refine lv_iconst (v := 1) hx hb (z_d hX1_firstPart_0 9 rfl) (by decide) ?_
      refine lv_isub hx hb (z_d hX1_firstPart_0 10 rfl) ?_
      refine z_let hF (fun u3 hu3 hF => ?_)
      refine lv_topE hu3 ?_
      refine lv_goto (tgt := 19) hx hb (z_d hX1_firstPart_0 11 rfl) (by decide) ?_
      exact J19 u3 hF _ _ ls hP hS (lv_sub hl [0, 1, 2] rfl)
  · have hF := z_neg hc2 hF
    refine lv_iload_n hx hb (z_d hX1_firstPart_0 3 rfl) rfl (lv_at hl 1 rfl) ?_
    obtain rfl := hF
    subst hQ
    exact W.iret hx hb hr (fun t ht hW => zq_ro (hS.F ht)) hS.2.2 (z_d hX1_firstPart_0 4 rfl)
def rm_X2_kindOf : Room := { frames := 0, cells := 0, slots := 0, locals := 0 }
set_option maxRecDepth 100000 in
set_option maxHeartbeats 4000000 in
theorem c_X2_kindOf (l : Launch) (Z : zZ) (p0 : Int32) (R : Int32) (hF : X2_kindOf p0 = R) : zRO l yX2_kindOf (zw yX2_kindOf cX2_kindOf 1 (some .int)) rm_X2_kindOf Z [.int p0] ([] : va_W) (some (.int R)) := by
  refine zRO_of (by decide) (Nat.le_of_ble_eq_true rfl) (fun p e s m below meth c hx hb hr hml hown hts hlocks hK Q hQ ls hl hP hS => ?_)
  unfold X2_kindOf at hF
  have hl : lv_has ls 1 [(0, .int p0)] := hl
  have hown : s.vm.findClass RX2 = some m.cls := hown
  refine lv_iload_n hx hb (z_d hX2_kindOf_0 0 rfl) rfl (lv_at hl 0 rfl) ?_
  by_cases hs1_97 : p0 = 97
  · have hF := z_pos hs1_97 hF
    refine lv_lookup (off := 53) (tgt := 54) hx hb (z_d hX2_kindOf_0 1 rfl) (by decide) (by rw [hs1_97]; first | done | rfl) (by decide) ?_
    refine lv_iconst (v := 1) hx hb (z_d hX2_kindOf_0 4 rfl) (by decide) ?_
    obtain rfl := hF
    subst hQ
    exact W.iret hx hb hr (fun t ht hW => zq_ro (hS.F ht)) hS.2.2 (z_d hX2_kindOf_0 5 rfl)
  have hF := z_neg hs1_97 hF
  by_cases hs1_104 : p0 = 104
  · have hF := z_pos hs1_104 hF
    refine lv_lookup (off := 51) (tgt := 52) hx hb (z_d hX2_kindOf_0 1 rfl) (by decide) (by rw [hs1_104]; first | done | rfl) (by decide) ?_
    refine lv_iconst (v := 0) hx hb (z_d hX2_kindOf_0 2 rfl) (by decide) ?_
    obtain rfl := hF
    subst hQ
    exact W.iret hx hb hr (fun t ht hW => zq_ro (hS.F ht)) hS.2.2 (z_d hX2_kindOf_0 3 rfl)
  have hF := z_neg hs1_104 hF
  by_cases hs1_110 : p0 = 110
  · have hF := z_pos hs1_110 hF
    refine lv_lookup (off := 55) (tgt := 56) hx hb (z_d hX2_kindOf_0 1 rfl) (by decide) (by rw [hs1_110]; first | done | rfl) (by decide) ?_
    refine lv_iconst (v := 2) hx hb (z_d hX2_kindOf_0 6 rfl) (by decide) ?_
    obtain rfl := hF
    subst hQ
    exact W.iret hx hb hr (fun t ht hW => zq_ro (hS.F ht)) hS.2.2 (z_d hX2_kindOf_0 7 rfl)
  have hF := z_neg hs1_110 hF
  by_cases hs1_114 : p0 = 114
  · have hF := z_pos hs1_114 hF
    refine lv_lookup (off := 59) (tgt := 60) hx hb (z_d hX2_kindOf_0 1 rfl) (by decide) (by rw [hs1_114]; first | done | rfl) (by decide) ?_
    refine lv_iconst (v := 4) hx hb (z_d hX2_kindOf_0 10 rfl) (by decide) ?_
    obtain rfl := hF
    subst hQ
    exact W.iret hx hb hr (fun t ht hW => zq_ro (hS.F ht)) hS.2.2 (z_d hX2_kindOf_0 11 rfl)
  have hF := z_neg hs1_114 hF
  by_cases hs1_115 : p0 = 115
  · have hF := z_pos hs1_115 hF
    refine lv_lookup (off := 57) (tgt := 58) hx hb (z_d hX2_kindOf_0 1 rfl) (by decide) (by rw [hs1_115]; first | done | rfl) (by decide) ?_
    refine lv_iconst (v := 3) hx hb (z_d hX2_kindOf_0 8 rfl) (by decide) ?_
    obtain rfl := hF
    subst hQ
    exact W.iret hx hb hr (fun t ht hW => zq_ro (hS.F ht)) hS.2.2 (z_d hX2_kindOf_0 9 rfl)
  have hF := z_neg hs1_115 hF
  refine lv_lookup (off := 61) (tgt := 62) hx hb (z_d hX2_kindOf_0 1 rfl) (by decide) ((lv_osw hs1_97 (by decide)).trans ((lv_osw hs1_104 (by decide)).trans ((lv_osw hs1_110 (by decide)).trans ((lv_osw hs1_114 (by decide)).trans ((lv_osw hs1_115 (by decide)).trans rfl))))) (by decide) ?_
  refine lv_iconst (v := (-1)) hx hb (z_d hX2_kindOf_0 12 rfl) (by decide) ?_
  obtain rfl := hF
  subst hQ
  exact W.iret hx hb hr (fun t ht hW => zq_ro (hS.F ht)) hS.2.2 (z_d hX2_kindOf_0 13 rfl)
def rm_X2_isDigit : Room := { frames := 0, cells := 0, slots := 0, locals := 0 }
set_option maxRecDepth 100000 in
set_option maxHeartbeats 4000000 in
theorem c_X2_isDigit (l : Launch) (Z : zZ) (p0 : Int32) (R : Int32) (hF : X2_isDigit p0 = R) : zRO l yX2_isDigit (zw yX2_isDigit cX2_isDigit 1 (some .boolean)) rm_X2_isDigit Z [.int p0] ([] : va_W) (some (.int R)) := by
  refine zRO_of (by decide) (Nat.le_of_ble_eq_true rfl) (fun p e s m below meth c hx hb hr hml hown hts hlocks hK Q hQ ls hl hP hS => ?_)
  unfold X2_isDigit at hF
  have hl : lv_has ls 1 [(0, .int p0)] := hl
  have hown : s.vm.findClass RX2 = some m.cls := hown
  refine lv_iload_n hx hb (z_d hX2_isDigit_0 0 rfl) rfl (lv_at hl 0 rfl) ?_
  refine lv_bipush (v := 48) hx hb (z_d hX2_isDigit_0 1 rfl) (by decide) ?_
  refine lv_icmp_lt (tgt := 16) hx hb (z_d hX2_isDigit_0 2 rfl) (by decide) (fun hc3 => ?_) (fun hc3 => ?_)
  · have hF := z_pos hc3 hF
    refine lv_iconst (v := 0) hx hb (z_d hX2_isDigit_0 8 rfl) (by decide) ?_
    have hz9 : narrow .boolean (.int 0) = .int 0 := rfl
    obtain rfl := hF
    subst hQ
    exact W.zret hx hb hr hz9 (fun t ht hW => zq_ro (hS.F ht)) hS.2.2 (z_d hX2_isDigit_0 9 rfl)
  · have hF := z_neg hc3 hF
    refine lv_iload_n hx hb (z_d hX2_isDigit_0 3 rfl) rfl (lv_at hl 0 rfl) ?_
    refine lv_bipush (v := 57) hx hb (z_d hX2_isDigit_0 4 rfl) (by decide) ?_
    refine lv_icmp_gt (tgt := 16) hx hb (z_d hX2_isDigit_0 5 rfl) (by decide) (fun hc9 => ?_) (fun hc9 => ?_)
    · have hF := z_pos hc9 hF
      refine lv_iconst (v := 0) hx hb (z_d hX2_isDigit_0 8 rfl) (by decide) ?_
      have hz9 : narrow .boolean (.int 0) = .int 0 := rfl
      obtain rfl := hF
      subst hQ
      exact W.zret hx hb hr hz9 (fun t ht hW => zq_ro (hS.F ht)) hS.2.2 (z_d hX2_isDigit_0 9 rfl)
    · have hF := z_neg hc9 hF
      refine lv_iconst (v := 1) hx hb (z_d hX2_isDigit_0 6 rfl) (by decide) ?_
      refine lv_goto (tgt := 17) hx hb (z_d hX2_isDigit_0 7 rfl) (by decide) ?_
      have hz9 : narrow .boolean (.int 1) = .int 1 := rfl
      obtain rfl := hF
      subst hQ
      exact W.zret hx hb hr hz9 (fun t ht hW => zq_ro (hS.F ht)) hS.2.2 (z_d hX2_isDigit_0 9 rfl)
def rm_X7_in : Room := { frames := 0, cells := 0, slots := 0, locals := 0 }
set_option maxRecDepth 100000 in
set_option maxHeartbeats 4000000 in
theorem c_X7_in (l : Launch) (Z : zZ) (p0 : Int32) (p1 : Int32) (p2 : Int32) (R : Int32) (hF : X7_in p0 p1 p2 = R) : zRO l yX7_in (zw yX7_in cX7_in 3 (some .boolean)) rm_X7_in Z [.int p0, .int p1, .int p2] ([] : va_W) (some (.int R)) := by
  refine zRO_of (by decide) (Nat.le_of_ble_eq_true rfl) (fun p e s m below meth c hx hb hr hml hown hts hlocks hK Q hQ ls hl hP hS => ?_)
  unfold X7_in at hF
  have hl : lv_has ls 3 [(0, .int p0), (1, .int p1), (2, .int p2)] := hl
  have hown : s.vm.findClass RX7 = some m.cls := hown
  refine lv_iload_n hx hb (z_d hX7_in_0 0 rfl) rfl (lv_at hl 0 rfl) ?_
  refine lv_iload_n hx hb (z_d hX7_in_0 1 rfl) rfl (lv_at hl 1 rfl) ?_
  refine lv_icmp_lt (tgt := 14) hx hb (z_d hX7_in_0 2 rfl) (by decide) (fun hc2 => ?_) (fun hc2 => ?_)
  · have hF := z_pos hc2 hF
    refine lv_iconst (v := 0) hx hb (z_d hX7_in_0 8 rfl) (by decide) ?_
    have hz9 : narrow .boolean (.int 0) = .int 0 := rfl
    obtain rfl := hF
    subst hQ
    exact W.zret hx hb hr hz9 (fun t ht hW => zq_ro (hS.F ht)) hS.2.2 (z_d hX7_in_0 9 rfl)
  · have hF := z_neg hc2 hF
    refine lv_iload_n hx hb (z_d hX7_in_0 3 rfl) rfl (lv_at hl 0 rfl) ?_
    refine lv_iload_n hx hb (z_d hX7_in_0 4 rfl) rfl (lv_at hl 2 rfl) ?_
    refine lv_icmp_gt (tgt := 14) hx hb (z_d hX7_in_0 5 rfl) (by decide) (fun hc7 => ?_) (fun hc7 => ?_)
    · have hF := z_pos hc7 hF
      refine lv_iconst (v := 0) hx hb (z_d hX7_in_0 8 rfl) (by decide) ?_
      have hz9 : narrow .boolean (.int 0) = .int 0 := rfl
      obtain rfl := hF
      subst hQ
      exact W.zret hx hb hr hz9 (fun t ht hW => zq_ro (hS.F ht)) hS.2.2 (z_d hX7_in_0 9 rfl)
    · have hF := z_neg hc7 hF
      refine lv_iconst (v := 1) hx hb (z_d hX7_in_0 6 rfl) (by decide) ?_
      refine lv_goto (tgt := 15) hx hb (z_d hX7_in_0 7 rfl) (by decide) ?_
      have hz9 : narrow .boolean (.int 1) = .int 1 := rfl
      obtain rfl := hF
      subst hQ
      exact W.zret hx hb hr hz9 (fun t ht hW => zq_ro (hS.F ht)) hS.2.2 (z_d hX7_in_0 9 rfl)
def rm_X7_wide : Room := { frames := 0, cells := 0, slots := 0, locals := 0 }
set_option maxRecDepth 100000 in
set_option maxHeartbeats 4000000 in
theorem c_X7_wide (l : Launch) (Z : zZ) (p0 : Int32) (R : Int32) (hF : X7_wide p0 = R) : zRO l yX7_wide (zw yX7_wide cX7_wide 1 (some .int)) rm_X7_wide Z [.int p0] ([] : va_W) (some (.int R)) := by
  refine zRO_of (by decide) (Nat.le_of_ble_eq_true rfl) (fun p e s m below meth c hx hb hr hml hown hts hlocks hK Q hQ ls hl hP hS => ?_)
  unfold X7_wide at hF
  have hl : lv_has ls 1 [(0, .int p0)] := hl
  have hown : s.vm.findClass RX7 = some m.cls := hown
  refine lv_iload_n hx hb (z_d hX7_wide_0 0 rfl) rfl (lv_at hl 0 rfl) ?_
  refine lv_iconst (v := 3) hx hb (z_d hX7_wide_0 1 rfl) (by decide) ?_
  refine lv_icmp_ne (tgt := 10) hx hb (z_d hX7_wide_0 2 rfl) (by decide) (fun hc2 => ?_) (fun hc2 => ?_)
  · have hF := z_neg hc2 hF
    refine lv_iload_n hx hb (z_d hX7_wide_0 5 rfl) rfl (lv_at hl 0 rfl) ?_
    refine lv_iconst (v := 4) hx hb (z_d hX7_wide_0 6 rfl) (by decide) ?_
    refine lv_icmp_ne (tgt := 20) hx hb (z_d hX7_wide_0 7 rfl) (by decide) (fun hc12 => ?_) (fun hc12 => ?_)
    · have hF := z_neg hc12 hF
      refine lv_bipush (v := 60) hx hb (z_d hX7_wide_0 10 rfl) (by decide) ?_
      obtain rfl := hF
      subst hQ
      exact W.iret hx hb hr (fun t ht hW => zq_ro (hS.F ht)) hS.2.2 (z_d hX7_wide_0 11 rfl)
    · have hF := z_pos hc12 hF
      refine lv_bipush (v := 25) hx hb (z_d hX7_wide_0 8 rfl) (by decide) ?_
      refine lv_goto (tgt := 22) hx hb (z_d hX7_wide_0 9 rfl) (by decide) ?_
      obtain rfl := hF
      subst hQ
      exact W.iret hx hb hr (fun t ht hW => zq_ro (hS.F ht)) hS.2.2 (z_d hX7_wide_0 11 rfl)
  · have hF := z_pos hc2 hF
    refine lv_bipush (v := 35) hx hb (z_d hX7_wide_0 3 rfl) (by decide) ?_
    refine lv_goto (tgt := 22) hx hb (z_d hX7_wide_0 4 rfl) (by decide) ?_
    obtain rfl := hF
    subst hQ
    exact W.iret hx hb hr (fun t ht hW => zq_ro (hS.F ht)) hS.2.2 (z_d hX7_wide_0 11 rfl)
def rm_X7_kindOf : Room := { frames := 0, cells := 0, slots := 0, locals := 0 }
set_option maxRecDepth 100000 in
set_option maxHeartbeats 4000000 in
theorem c_X7_kindOf (l : Launch) (Z : zZ) (p0 : Int32) (R : Int32) (hF : X7_kindOf p0 = R) : zRO l yX7_kindOf (zw yX7_kindOf cX7_kindOf 1 (some .int)) rm_X7_kindOf Z [.int p0] ([] : va_W) (some (.int R)) := by
  refine zRO_of (by decide) (Nat.le_of_ble_eq_true rfl) (fun p e s m below meth c hx hb hr hml hown hts hlocks hK Q hQ ls hl hP hS => ?_)
  unfold X7_kindOf at hF
  have hl : lv_has ls 1 [(0, .int p0)] := hl
  have hown : s.vm.findClass RX7 = some m.cls := hown
  refine lv_iload_n hx hb (z_d hX7_kindOf_0 0 rfl) rfl (lv_at hl 0 rfl) ?_
  by_cases hs1_97 : p0 = 97
  · have hF := z_pos hs1_97 hF
    refine lv_lookup (off := 53) (tgt := 54) hx hb (z_d hX7_kindOf_0 1 rfl) (by decide) (by rw [hs1_97]; first | done | rfl) (by decide) ?_
    refine lv_iconst (v := 1) hx hb (z_d hX7_kindOf_0 4 rfl) (by decide) ?_
    obtain rfl := hF
    subst hQ
    exact W.iret hx hb hr (fun t ht hW => zq_ro (hS.F ht)) hS.2.2 (z_d hX7_kindOf_0 5 rfl)
  have hF := z_neg hs1_97 hF
  by_cases hs1_104 : p0 = 104
  · have hF := z_pos hs1_104 hF
    refine lv_lookup (off := 51) (tgt := 52) hx hb (z_d hX7_kindOf_0 1 rfl) (by decide) (by rw [hs1_104]; first | done | rfl) (by decide) ?_
    refine lv_iconst (v := 0) hx hb (z_d hX7_kindOf_0 2 rfl) (by decide) ?_
    obtain rfl := hF
    subst hQ
    exact W.iret hx hb hr (fun t ht hW => zq_ro (hS.F ht)) hS.2.2 (z_d hX7_kindOf_0 3 rfl)
  have hF := z_neg hs1_104 hF
  by_cases hs1_110 : p0 = 110
  · have hF := z_pos hs1_110 hF
    refine lv_lookup (off := 55) (tgt := 56) hx hb (z_d hX7_kindOf_0 1 rfl) (by decide) (by rw [hs1_110]; first | done | rfl) (by decide) ?_
    refine lv_iconst (v := 2) hx hb (z_d hX7_kindOf_0 6 rfl) (by decide) ?_
    obtain rfl := hF
    subst hQ
    exact W.iret hx hb hr (fun t ht hW => zq_ro (hS.F ht)) hS.2.2 (z_d hX7_kindOf_0 7 rfl)
  have hF := z_neg hs1_110 hF
  by_cases hs1_114 : p0 = 114
  · have hF := z_pos hs1_114 hF
    refine lv_lookup (off := 59) (tgt := 60) hx hb (z_d hX7_kindOf_0 1 rfl) (by decide) (by rw [hs1_114]; first | done | rfl) (by decide) ?_
    refine lv_iconst (v := 4) hx hb (z_d hX7_kindOf_0 10 rfl) (by decide) ?_
    obtain rfl := hF
    subst hQ
    exact W.iret hx hb hr (fun t ht hW => zq_ro (hS.F ht)) hS.2.2 (z_d hX7_kindOf_0 11 rfl)
  have hF := z_neg hs1_114 hF
  by_cases hs1_115 : p0 = 115
  · have hF := z_pos hs1_115 hF
    refine lv_lookup (off := 57) (tgt := 58) hx hb (z_d hX7_kindOf_0 1 rfl) (by decide) (by rw [hs1_115]; first | done | rfl) (by decide) ?_
    refine lv_iconst (v := 3) hx hb (z_d hX7_kindOf_0 8 rfl) (by decide) ?_
    obtain rfl := hF
    subst hQ
    exact W.iret hx hb hr (fun t ht hW => zq_ro (hS.F ht)) hS.2.2 (z_d hX7_kindOf_0 9 rfl)
  have hF := z_neg hs1_115 hF
  refine lv_lookup (off := 61) (tgt := 62) hx hb (z_d hX7_kindOf_0 1 rfl) (by decide) ((lv_osw hs1_97 (by decide)).trans ((lv_osw hs1_104 (by decide)).trans ((lv_osw hs1_110 (by decide)).trans ((lv_osw hs1_114 (by decide)).trans ((lv_osw hs1_115 (by decide)).trans rfl))))) (by decide) ?_
  refine lv_iconst (v := (-1)) hx hb (z_d hX7_kindOf_0 12 rfl) (by decide) ?_
  obtain rfl := hF
  subst hQ
  exact W.iret hx hb hr (fun t ht hW => zq_ro (hS.F ht)) hS.2.2 (z_d hX7_kindOf_0 13 rfl)
def rm_X7_isLength : Room := { frames := 1, cells := 0, slots := 0, locals := 22 }
set_option maxRecDepth 100000 in
set_option maxHeartbeats 4000000 in
theorem c_X7_isLength (l : Launch) (Z : zZ) (p0 : Int32) (R : Int32) (hF : X7_isLength p0 = R) : zRO l yX7_isLength (zw yX7_isLength cX7_isLength 1 (some .boolean)) rm_X7_isLength Z [.int p0] ([] : va_W) (some (.int R)) := by
  refine zRO_of (by decide) (Nat.le_of_ble_eq_true rfl) (fun p e s m below meth c hx hb hr hml hown hts hlocks hK Q hQ ls hl hP hS => ?_)
  unfold X7_isLength at hF
  have hl : lv_has ls 1 [(0, .int p0)] := hl
  have hown : s.vm.findClass RX7 = some m.cls := hown
  refine lv_iload_n hx hb (z_d hX7_isLength_0 0 rfl) rfl (lv_at hl 0 rfl) ?_
  refine lv_iconst (v := 1) hx hb (z_d hX7_isLength_0 1 rfl) (by decide) ?_
  refine lv_sipush (v := 400) hx hb (z_d hX7_isLength_0 2 rfl) (by decide) ?_
  refine z_let hF (fun q1 hq1 hF => ?_)
  refine z_ro_i (z_rS (As := [.int p0, .int 1, .int 400]) (rest := []) hx hb hml hown hts vs_X7_in (c_X7_in l Z p0 1 400 _ hq1) rfl rfl ⟨Nat.le_of_ble_eq_true rfl, Nat.le_of_ble_eq_true rfl⟩ k_m_X7_58 zPro_blind (z_prec hK zP_nil) rfl hl.1 (Nat.le_of_ble_eq_true rfl) (z_d hX7_isLength_0 3 rfl) ⟨Nat.zero_le _, Nat.zero_le _⟩) hS hP (fun H locs hP hS => ?_)
  have hz9 := z_bool (hq1 ▸ X7_in_b p0 1 400)
  obtain rfl := hF
  subst hQ
  exact W.zret hx hb hr hz9 (fun t ht hW => zq_ro (hS.F ht)) hS.2.2 (z_d hX7_isLength_0 4 rfl)
def rm_X7_isPage : Room := { frames := 1, cells := 0, slots := 0, locals := 22 }
set_option maxRecDepth 100000 in
set_option maxHeartbeats 4000000 in
theorem c_X7_isPage (l : Launch) (Z : zZ) (p0 : Int32) (R : Int32) (hF : X7_isPage p0 = R) : zRO l yX7_isPage (zw yX7_isPage cX7_isPage 1 (some .boolean)) rm_X7_isPage Z [.int p0] ([] : va_W) (some (.int R)) := by
  refine zRO_of (by decide) (Nat.le_of_ble_eq_true rfl) (fun p e s m below meth c hx hb hr hml hown hts hlocks hK Q hQ ls hl hP hS => ?_)
  unfold X7_isPage at hF
  have hl : lv_has ls 1 [(0, .int p0)] := hl
  have hown : s.vm.findClass RX7 = some m.cls := hown
  refine lv_iload_n hx hb (z_d hX7_isPage_0 0 rfl) rfl (lv_at hl 0 rfl) ?_
  refine lv_bipush (v := 20) hx hb (z_d hX7_isPage_0 1 rfl) (by decide) ?_
  refine lv_bipush (v := 60) hx hb (z_d hX7_isPage_0 2 rfl) (by decide) ?_
  refine z_let hF (fun q1 hq1 hF => ?_)
  refine z_ro_i (z_rS (As := [.int p0, .int 20, .int 60]) (rest := []) hx hb hml hown hts vs_X7_in (c_X7_in l Z p0 20 60 _ hq1) rfl rfl ⟨Nat.le_of_ble_eq_true rfl, Nat.le_of_ble_eq_true rfl⟩ k_m_X7_58 zPro_blind (z_prec hK zP_nil) rfl hl.1 (Nat.le_of_ble_eq_true rfl) (z_d hX7_isPage_0 3 rfl) ⟨Nat.zero_le _, Nat.zero_le _⟩) hS hP (fun H locs hP hS => ?_)
  have hz9 := z_bool (hq1 ▸ X7_in_b p0 20 60)
  obtain rfl := hF
  subst hQ
  exact W.zret hx hb hr hz9 (fun t ht hW => zq_ro (hS.F ht)) hS.2.2 (z_d hX7_isPage_0 4 rfl)
end
section
def X5_has (S : t_Script) (p1 : Int32) : Int32 := zlet (X6_isBelow p1 S.1) fun q1 => q1
theorem X5_has_b (S : t_Script) (p1 : Int32) : X5_has S p1 = 0 ∨ X5_has S p1 = 1 := by
  unfold X5_has
  try simp only [zlet]
  repeat (first | exact Or.inl rfl | exact Or.inr rfl | exact X6_isBelow_b _ _ | split)
def X5_isFull (S : t_Script) : Int32 := if S.1 < 60 then (0) else (1)
theorem X5_isFull_b (S : t_Script) : X5_isFull S = 0 ∨ X5_isFull S = 1 := by
  unfold X5_isFull
  try simp only [zlet]
  repeat (first | exact Or.inl rfl | exact Or.inr rfl | split)
def X5_isHeading (S : t_Script) (p1 : Int32) : Int32 := zlet (rAt 60 S.2.2.1 p1) fun q1 => if q1 = 0 then (1) else (0)
theorem X5_isHeading_b (S : t_Script) (p1 : Int32) : X5_isHeading S p1 = 0 ∨ X5_isHeading S p1 = 1 := by
  unfold X5_isHeading
  try simp only [zlet]
  repeat (first | exact Or.inl rfl | exact Or.inr rfl | split)
def X5_isLocked (S : t_Script) (p1 : Int32) : Int32 := zlet (rAt 60 S.2.2.2.2.2.2.1 p1) fun q1 => if q1 < 1 then (0) else (1)
theorem X5_isLocked_b (S : t_Script) (p1 : Int32) : X5_isLocked S p1 = 0 ∨ X5_isLocked S p1 = 1 := by
  unfold X5_isLocked
  try simp only [zlet]
  repeat (first | exact Or.inl rfl | exact Or.inr rfl | split)
def X5_isOmitted (S : t_Script) (p1 : Int32) : Int32 := zlet (rAt 60 S.2.2.2.2.2.2.1 p1) fun q1 => if q1 = 2 then (1) else (0)
theorem X5_isOmitted_b (S : t_Script) (p1 : Int32) : X5_isOmitted S p1 = 0 ∨ X5_isOmitted S p1 = 1 := by
  unfold X5_isOmitted
  try simp only [zlet]
  repeat (first | exact Or.inl rfl | exact Or.inr rfl | split)
def X5_linesOf (S : t_Script) (p1 : Int32) : Int32 := zlet (rAt 60 S.2.2.1 p1) fun q1 => if q1 = 2 then (1) else (zlet (X5_isOmitted S p1) fun q2 => if q2 = 0 then (zlet (rAt 60 S.2.2.2.1 p1) fun q3 => if q1 = 3 then (zlet (q3 + 34) fun u4 => zlet (u4 / 35) fun u5 => u5) else (if q1 = 4 then (zlet (q3 + 24) fun u6 => zlet (u6 / 25) fun u7 => u7) else (zlet (q3 + 59) fun u8 => zlet (u8 / 60) fun u9 => u9))) else (1))
def X5_blanksAhead (S : t_Script) (p1 : Int32) : Int32 := zlet (rAt 60 S.2.2.1 p1) fun q1 => if q1 = 0 then (2) else (if q1 = 1 then (1) else (if q1 = 2 then (1) else (0)))
def X5_clear (S : t_Script) : t_Script := (0, S.2.1, S.2.2.1, S.2.2.2.1, S.2.2.2.2.1, S.2.2.2.2.2.1, S.2.2.2.2.2.2.1, S.2.2.2.2.2.2.2.1, S.2.2.2.2.2.2.2.2.1, S.2.2.2.2.2.2.2.2.2)
def X5_putIn (S : t_Script) (p1 : Int32) (p2 : Int32) (p3 : Int32) (p4 : Int32) : t_Script := zlet (X5_isFull S) fun q1 => if q1 = 0 then (zlet (rOpen 60 S.2.2.1 p1 p2) fun q2 => zlet (rOpen 60 S.2.2.2.1 p1 p3) fun q3 => zlet (rOpen 60 S.2.2.2.2.1 p1 p4) fun q4 => zlet (rOpen 60 S.2.2.2.2.2.1 p1 (-1)) fun q5 => zlet (rOpen 60 S.2.2.2.2.2.2.1 p1 0) fun q6 => zlet (rOpen 60 S.2.2.2.2.2.2.2.1 p1 0) fun q7 => zlet (rOpen 60 S.2.2.2.2.2.2.2.2.1 p1 0) fun q8 => zlet (rOpen 60 S.2.2.2.2.2.2.2.2.2 p1 0) fun q9 => zlet (S.1 + 1) fun u10 => (u10, S.2.1, q2, q3, q4, q5, q6, q7, q8, q9)) else (S)
def X5_takeOut (S : t_Script) (p1 : Int32) : Option t_Script := zlet (X5_has S p1) fun q1 => if q1 = 0 then (some S) else (zlet (rAt 60 S.2.2.2.2.2.1 p1) fun q2 => (X3_closeAt 60 S.2.2.1 p1).bind fun q3 => (X3_closeAt 60 S.2.2.2.1 p1).bind fun q4 => (X3_closeAt 60 S.2.2.2.2.1 p1).bind fun q5 => (X3_closeAt 60 S.2.2.2.2.2.1 p1).bind fun q6 => (X3_closeAt 60 S.2.2.2.2.2.2.1 p1).bind fun q7 => (X3_closeAt 60 S.2.2.2.2.2.2.2.1 p1).bind fun q8 => (X3_closeAt 60 S.2.2.2.2.2.2.2.2.1 p1).bind fun q9 => (X3_closeAt 60 S.2.2.2.2.2.2.2.2.2 p1).bind fun q10 => zlet (S.1 - 1) fun u11 => zlet (X5_has (u11, S.2.1, q3, q4, q5, q6, q7, q8, q9, q10) p1) fun q12 => if q12 = 0 then (some (u11, S.2.1, q3, q4, q5, q6, q7, q8, q9, q10)) else (zlet (rAt 60 q6 p1) fun q13 => if q13 = (-1) then (zlet (rPut 60 q6 p1 q2) fun q14 => some (u11, S.2.1, q3, q4, q5, q14, q7, q8, q9, q10)) else (some (u11, S.2.1, q3, q4, q5, q6, q7, q8, q9, q10))))
def X5_lock (S : t_Script) (p1 : Int32) (p2 : Int32) (p3 : Int32) (p4 : Int32) : t_Script := zlet (rPut 60 S.2.2.2.2.2.2.1 p1 1) fun q1 => zlet (rPut 60 S.2.2.2.2.2.2.2.1 p1 p2) fun q2 => zlet (rPut 60 S.2.2.2.2.2.2.2.2.1 p1 p3) fun q3 => zlet (rPut 60 S.2.2.2.2.2.2.2.2.2 p1 p4) fun q4 => (S.1, S.2.1, S.2.2.1, S.2.2.2.1, S.2.2.2.2.1, S.2.2.2.2.2.1, q1, q2, q3, q4)
def X5_markOmitted (S : t_Script) (p1 : Int32) : t_Script := zlet (rPut 60 S.2.2.2.2.2.2.1 p1 2) fun q1 => (S.1, S.2.1, S.2.2.1, S.2.2.2.1, S.2.2.2.2.1, S.2.2.2.2.2.1, q1, S.2.2.2.2.2.2.2.1, S.2.2.2.2.2.2.2.2.1, S.2.2.2.2.2.2.2.2.2)
def X5_copyFrom (S : t_Script) (S2 : t_Script) : t_Script := zlet (rCopy 60 60 S.2.2.1 S2.2.2.1) fun q1 => zlet (rCopy 60 60 S.2.2.2.1 S2.2.2.2.1) fun q2 => zlet (rCopy 60 60 S.2.2.2.2.1 S2.2.2.2.2.1) fun q3 => zlet (rCopy 60 60 S.2.2.2.2.2.1 S2.2.2.2.2.2.1) fun q4 => zlet (rCopy 60 60 S.2.2.2.2.2.2.1 S2.2.2.2.2.2.2.1) fun q5 => zlet (rCopy 60 60 S.2.2.2.2.2.2.2.1 S2.2.2.2.2.2.2.2.1) fun q6 => zlet (rCopy 60 60 S.2.2.2.2.2.2.2.2.1 S2.2.2.2.2.2.2.2.2.1) fun q7 => zlet (rCopy 60 60 S.2.2.2.2.2.2.2.2.2 S2.2.2.2.2.2.2.2.2.2) fun q8 => (S2.1, S2.2.1, q1, q2, q3, q4, q5, q6, q7, q8)
end
section
theorem vs_X6_isBelow : zSt yX6_isBelow cX6_isBelow 2 (some .boolean) 2 := ⟨zG_at 441 (by decide +kernel) (by decide +kernel), zG_at 75 (by decide +kernel) (by decide +kernel), zG_at 442 (by decide +kernel) (by decide +kernel), by decide +kernel⟩
theorem vt_X3_at : zVt yX3_at cX3_at 2 (some .int) 1 := ⟨zG_at 340 (by decide +kernel) (by decide +kernel), zG_at 341 (by decide +kernel) (by decide +kernel), zG_at 77 (by decide +kernel) (by decide +kernel), zG_at 342 (by decide +kernel) (by decide +kernel), by decide +kernel⟩
theorem vt_X5_isOmitted : zVt yX5_isOmitted cX5_isOmitted 2 (some .boolean) 1 := ⟨zG_at 396 (by decide +kernel) (by decide +kernel), zG_at 397 (by decide +kernel) (by decide +kernel), zG_at 76 (by decide +kernel) (by decide +kernel), zG_at 398 (by decide +kernel) (by decide +kernel), by decide +kernel⟩
theorem vt_X5_isFull : zVt yX5_isFull cX5_isFull 1 (some .boolean) 0 := ⟨zG_at 548 (by decide +kernel) (by decide +kernel), zG_at 549 (by decide +kernel) (by decide +kernel), zG_at 76 (by decide +kernel) (by decide +kernel), zG_at 550 (by decide +kernel) (by decide +kernel), by decide +kernel⟩
theorem vt_X3_openAt : zVt yX3_openAt cX3_openAt 5 none 2 := ⟨zG_at 579 (by decide +kernel) (by decide +kernel), zG_at 580 (by decide +kernel) (by decide +kernel), zG_at 77 (by decide +kernel) (by decide +kernel), zG_at 581 (by decide +kernel) (by decide +kernel), by decide +kernel⟩
theorem vt_X5_has : zVt yX5_has cX5_has 2 (some .boolean) 1 := ⟨zG_at 437 (by decide +kernel) (by decide +kernel), zG_at 438 (by decide +kernel) (by decide +kernel), zG_at 76 (by decide +kernel) (by decide +kernel), zG_at 439 (by decide +kernel) (by decide +kernel), by decide +kernel⟩
theorem vt_X3_closeAt : zVt yX3_closeAt cX3_closeAt 4 none 1 := ⟨zG_at 759 (by decide +kernel) (by decide +kernel), zG_at 760 (by decide +kernel) (by decide +kernel), zG_at 77 (by decide +kernel) (by decide +kernel), zG_at 761 (by decide +kernel) (by decide +kernel), by decide +kernel⟩
theorem vt_X3_copyFrom : zVt yX3_copyFrom cX3_copyFrom 3 none 1 := ⟨zG_at 336 (by decide +kernel) (by decide +kernel), zG_at 337 (by decide +kernel) (by decide +kernel), zG_at 77 (by decide +kernel) (by decide +kernel), zG_at 338 (by decide +kernel) (by decide +kernel), by decide +kernel⟩
theorem k_f_X5_9 : Cond.fieldLink RX5 9 "ScriptPages$Script" "size" "I" ∈ zG := zG_at 115 (by decide +kernel) (by decide +kernel)
theorem k_f_X5_23 : Cond.fieldLink RX5 23 "ScriptPages$Script" "kinds" "LScriptPages$Row;" ∈ zG := zG_at 123 (by decide +kernel) (by decide +kernel)
theorem k_m_X5_52 : Cond.methodLink RX5 52 yX3_at ∈ zG := zG_at 347 (by decide +kernel) (by decide +kernel)
theorem k_f_X5_36 : Cond.fieldLink RX5 36 "ScriptPages$Script" "locks" "LScriptPages$Row;" ∈ zG := zG_at 134 (by decide +kernel) (by decide +kernel)
theorem k_m_X5_56 : Cond.methodLink RX5 56 yX5_isOmitted ∈ zG := zG_at 395 (by decide +kernel) (by decide +kernel)
theorem k_f_X5_27 : Cond.fieldLink RX5 27 "ScriptPages$Script" "lengths" "LScriptPages$Row;" ∈ zG := zG_at 126 (by decide +kernel) (by decide +kernel)
theorem k_m_X5_60 : Cond.methodLink RX5 60 yX5_isFull ∈ zG := zG_at 577 (by decide +kernel) (by decide +kernel)
theorem k_m_X5_64 : Cond.methodLink RX5 64 yX3_openAt ∈ zG := zG_at 578 (by decide +kernel) (by decide +kernel)
theorem k_f_X5_30 : Cond.fieldLink RX5 30 "ScriptPages$Script" "persons" "LScriptPages$Row;" ∈ zG := zG_at 128 (by decide +kernel) (by decide +kernel)
theorem k_f_X5_33 : Cond.fieldLink RX5 33 "ScriptPages$Script" "marks" "LScriptPages$Row;" ∈ zG := zG_at 131 (by decide +kernel) (by decide +kernel)
theorem k_f_X5_39 : Cond.fieldLink RX5 39 "ScriptPages$Script" "firsts" "LScriptPages$Row;" ∈ zG := zG_at 135 (by decide +kernel) (by decide +kernel)
theorem k_f_X5_42 : Cond.fieldLink RX5 42 "ScriptPages$Script" "seconds" "LScriptPages$Row;" ∈ zG := zG_at 137 (by decide +kernel) (by decide +kernel)
theorem k_f_X5_45 : Cond.fieldLink RX5 45 "ScriptPages$Script" "thirds" "LScriptPages$Row;" ∈ zG := zG_at 139 (by decide +kernel) (by decide +kernel)
theorem k_m_X5_68 : Cond.methodLink RX5 68 yX5_has ∈ zG := zG_at 757 (by decide +kernel) (by decide +kernel)
theorem k_m_X5_71 : Cond.methodLink RX5 71 yX3_closeAt ∈ zG := zG_at 758 (by decide +kernel) (by decide +kernel)
theorem k_m_X5_74 : Cond.methodLink RX5 74 yX3_put ∈ zG := zG_at 352 (by decide +kernel) (by decide +kernel)
theorem k_f_X5_15 : Cond.fieldLink RX5 15 "ScriptPages$Script" "pageLines" "I" ∈ zG := zG_at 120 (by decide +kernel) (by decide +kernel)
theorem k_m_X5_77 : Cond.methodLink RX5 77 yX3_copyFrom ∈ zG := zG_at 335 (by decide +kernel) (by decide +kernel)
theorem kn_X5_48 {U : State} (h : zNW U) : va_Nw (.methodLinkNest RX5 48 yX6_isBelow "ScriptPages") U := h.mth 4 (by decide +kernel)
def rm_X5_has : Room := { frames := 1, cells := 0, slots := 0, locals := 21 }
set_option maxRecDepth 100000 in
set_option maxHeartbeats 4000000 in
theorem c_X5_has (l : Launch) (Z : zZ) (As : Nat → Nat) (S : t_Script) (p1 : Int32) (R : Int32) (hF : X5_has S p1 = R) : zRO l yX5_has (zw yX5_has cX5_has 2 (some .boolean)) rm_X5_has Z [.ref (As 0), .int p1] (w_Script Z.2.1 As S) (some (.int R)) := by
  refine zRO_of (by decide) (Nat.le_of_ble_eq_true rfl) (fun p e s m below meth c hx hb hr hml hown hts hlocks hK Q hQ ls hl hP hS => ?_)
  unfold X5_has at hF
  have hl : lv_has ls 2 [(0, .ref (As 0)), (1, .int p1)] := hl
  have hown : s.vm.findClass RX5 = some m.cls := hown
  have hP : va_P Z.1 vwCl (l_Script Z.2.1 As S.1 S.2.1 S.2.2.1 S.2.2.2.1 S.2.2.2.2.1 S.2.2.2.2.2.1 S.2.2.2.2.2.2.1 S.2.2.2.2.2.2.2.1 S.2.2.2.2.2.2.2.2.1 S.2.2.2.2.2.2.2.2.2).flatten s.heap := hP
  refine lv_iload_n hx hb (z_d hX5_has_0 0 rfl) rfl (lv_at hl 1 rfl) ?_
  refine lv_aload_n hx hb (z_d hX5_has_0 1 rfl) rfl (lv_at hl 0 rfl) ?_
  refine va_get (D := Z.1) (ci := 5) (v := .int S.1) (C := RX5) (T := TX5) (N := 10) hx hb hts zinX5 hown hK.1 (zP_reg hP 0 rfl) 0 rfl rfl 0 (by decide) (hts _ k_f_X5_9) (fun _ h9 => h9) rfl (z_d hX5_has_0 2 rfl) ?_
  refine z_let hF (fun q1 hq1 hF => ?_)
  refine z_ro_i (z_rSN (As := [.int p1, .int S.1]) (rest := []) hx hb hml hown hts vs_X6_isBelow (c_X6_isBelow l Z p1 S.1 _ hq1) rfl rfl ⟨Nat.le_of_ble_eq_true rfl, Nat.le_of_ble_eq_true rfl⟩ (kn_X5_48 hK.2) zPro_blind (z_prec hK zP_nil) rfl hl.1 (Nat.le_of_ble_eq_true rfl) (z_d hX5_has_0 3 rfl) ⟨Nat.zero_le _, Nat.zero_le _⟩) hS hP (fun H locs hP hS => ?_)
  have hz9 := z_bool (hq1 ▸ X6_isBelow_b p1 S.1)
  obtain rfl := hF
  subst hQ
  exact W.zret hx hb hr hz9 (fun t ht hW => zq_ro (hS.F ht)) hS.2.2 (z_d hX5_has_0 4 rfl)
def rm_X5_isFull : Room := { frames := 0, cells := 0, slots := 0, locals := 0 }
set_option maxRecDepth 100000 in
set_option maxHeartbeats 4000000 in
theorem c_X5_isFull (l : Launch) (Z : zZ) (As : Nat → Nat) (S : t_Script) (R : Int32) (hF : X5_isFull S = R) : zRO l yX5_isFull (zw yX5_isFull cX5_isFull 1 (some .boolean)) rm_X5_isFull Z [.ref (As 0)] (w_Script Z.2.1 As S) (some (.int R)) := by
  refine zRO_of (by decide) (Nat.le_of_ble_eq_true rfl) (fun p e s m below meth c hx hb hr hml hown hts hlocks hK Q hQ ls hl hP hS => ?_)
  unfold X5_isFull at hF
  have hl : lv_has ls 1 [(0, .ref (As 0))] := hl
  have hown : s.vm.findClass RX5 = some m.cls := hown
  have hP : va_P Z.1 vwCl (l_Script Z.2.1 As S.1 S.2.1 S.2.2.1 S.2.2.2.1 S.2.2.2.2.1 S.2.2.2.2.2.1 S.2.2.2.2.2.2.1 S.2.2.2.2.2.2.2.1 S.2.2.2.2.2.2.2.2.1 S.2.2.2.2.2.2.2.2.2).flatten s.heap := hP
  refine lv_aload_n hx hb (z_d hX5_isFull_0 0 rfl) rfl (lv_at hl 0 rfl) ?_
  refine va_get (D := Z.1) (ci := 5) (v := .int S.1) (C := RX5) (T := TX5) (N := 10) hx hb hts zinX5 hown hK.1 (zP_reg hP 0 rfl) 0 rfl rfl 0 (by decide) (hts _ k_f_X5_9) (fun _ h9 => h9) rfl (z_d hX5_isFull_0 1 rfl) ?_
  refine lv_bipush (v := 60) hx hb (z_d hX5_isFull_0 2 rfl) (by decide) ?_
  refine lv_icmp_lt (tgt := 13) hx hb (z_d hX5_isFull_0 3 rfl) (by decide) (fun hc6 => ?_) (fun hc6 => ?_)
  · have hF := z_pos hc6 hF
    refine lv_iconst (v := 0) hx hb (z_d hX5_isFull_0 6 rfl) (by decide) ?_
    have hz9 : narrow .boolean (.int 0) = .int 0 := rfl
    obtain rfl := hF
    subst hQ
    exact W.zret hx hb hr hz9 (fun t ht hW => zq_ro (hS.F ht)) hS.2.2 (z_d hX5_isFull_0 7 rfl)
  · have hF := z_neg hc6 hF
    refine lv_iconst (v := 1) hx hb (z_d hX5_isFull_0 4 rfl) (by decide) ?_
    refine lv_goto (tgt := 14) hx hb (z_d hX5_isFull_0 5 rfl) (by decide) ?_
    have hz9 : narrow .boolean (.int 1) = .int 1 := rfl
    obtain rfl := hF
    subst hQ
    exact W.zret hx hb hr hz9 (fun t ht hW => zq_ro (hS.F ht)) hS.2.2 (z_d hX5_isFull_0 7 rfl)
def rm_X5_isHeading : Room := { frames := 1, cells := 0, slots := 0, locals := 21 }
set_option maxRecDepth 100000 in
set_option maxHeartbeats 4000000 in
theorem c_X5_isHeading (l : Launch) (Z : zZ) (As : Nat → Nat) (S : t_Script) (p1 : Int32) (R : Int32) (hF : X5_isHeading S p1 = R) : zRO l yX5_isHeading (zw yX5_isHeading cX5_isHeading 2 (some .boolean)) rm_X5_isHeading Z [.ref (As 0), .int p1] (w_Script Z.2.1 As S) (some (.int R)) := by
  refine zRO_of (by decide) (Nat.le_of_ble_eq_true rfl) (fun p e s m below meth c hx hb hr hml hown hts hlocks hK Q hQ ls hl hP hS => ?_)
  unfold X5_isHeading at hF
  have hl : lv_has ls 2 [(0, .ref (As 0)), (1, .int p1)] := hl
  have hown : s.vm.findClass RX5 = some m.cls := hown
  have hP : va_P Z.1 vwCl (l_Script Z.2.1 As S.1 S.2.1 S.2.2.1 S.2.2.2.1 S.2.2.2.2.1 S.2.2.2.2.2.1 S.2.2.2.2.2.2.1 S.2.2.2.2.2.2.2.1 S.2.2.2.2.2.2.2.2.1 S.2.2.2.2.2.2.2.2.2).flatten s.heap := hP
  refine lv_aload_n hx hb (z_d hX5_isHeading_0 0 rfl) rfl (lv_at hl 0 rfl) ?_
  refine va_get (D := Z.1) (ci := 5) (v := .ref (As 1)) (C := RX5) (T := TX5) (N := 10) hx hb hts zinX5 hown hK.1 (zP_reg hP 0 rfl) 0 rfl rfl 2 (by decide) (hts _ k_f_X5_23) (fun _ h9 => h9) rfl (z_d hX5_isHeading_0 1 rfl) ?_
  refine lv_iload_n hx hb (z_d hX5_isHeading_0 2 rfl) rfl (lv_at hl 1 rfl) ?_
  refine z_let hF (fun q1 hq1 hF => ?_)
  refine z_ro_i (z_rV (As := [.int p1]) (rest := []) hx hb hml hown hts vt_X3_at (c_rAt l Z 60 (As 1) (As 2) (by decide) S.2.2.1 p1 _ hq1) rfl rfl ⟨Nat.le_of_ble_eq_true rfl, Nat.le_of_ble_eq_true rfl⟩ k_m_X5_52 zPro_blind (z_recv (q := (RX3, TX3, 1)) (ci := 3) (q0 := 0) hK (zP_reg hP 1 rfl) rfl rfl) (z_prec hK (zP_reg hP 1 rfl)) rfl hl.1 (Nat.le_of_ble_eq_true rfl) (z_d hX5_isHeading_0 3 rfl) ⟨Nat.zero_le _, Nat.zero_le _⟩) hS hP (fun H locs hP hS => ?_)
  refine lv_if_ne (tgt := 15) hx hb (z_d hX5_isHeading_0 4 rfl) (by decide) (fun hc8 => ?_) (fun hc8 => ?_)
  · have hF := z_neg hc8 hF
    refine lv_iconst (v := 0) hx hb (z_d hX5_isHeading_0 7 rfl) (by decide) ?_
    have hz9 : narrow .boolean (.int 0) = .int 0 := rfl
    obtain rfl := hF
    subst hQ
    exact W.zret hx hb hr hz9 (fun t ht hW => zq_ro (hS.F ht)) hS.2.2 (z_d hX5_isHeading_0 8 rfl)
  · have hF := z_pos hc8 hF
    refine lv_iconst (v := 1) hx hb (z_d hX5_isHeading_0 5 rfl) (by decide) ?_
    refine lv_goto (tgt := 16) hx hb (z_d hX5_isHeading_0 6 rfl) (by decide) ?_
    have hz9 : narrow .boolean (.int 1) = .int 1 := rfl
    obtain rfl := hF
    subst hQ
    exact W.zret hx hb hr hz9 (fun t ht hW => zq_ro (hS.F ht)) hS.2.2 (z_d hX5_isHeading_0 8 rfl)
def rm_X5_isLocked : Room := { frames := 1, cells := 0, slots := 0, locals := 21 }
set_option maxRecDepth 100000 in
set_option maxHeartbeats 4000000 in
theorem c_X5_isLocked (l : Launch) (Z : zZ) (As : Nat → Nat) (S : t_Script) (p1 : Int32) (R : Int32) (hF : X5_isLocked S p1 = R) : zRO l yX5_isLocked (zw yX5_isLocked cX5_isLocked 2 (some .boolean)) rm_X5_isLocked Z [.ref (As 0), .int p1] (w_Script Z.2.1 As S) (some (.int R)) := by
  refine zRO_of (by decide) (Nat.le_of_ble_eq_true rfl) (fun p e s m below meth c hx hb hr hml hown hts hlocks hK Q hQ ls hl hP hS => ?_)
  unfold X5_isLocked at hF
  have hl : lv_has ls 2 [(0, .ref (As 0)), (1, .int p1)] := hl
  have hown : s.vm.findClass RX5 = some m.cls := hown
  have hP : va_P Z.1 vwCl (l_Script Z.2.1 As S.1 S.2.1 S.2.2.1 S.2.2.2.1 S.2.2.2.2.1 S.2.2.2.2.2.1 S.2.2.2.2.2.2.1 S.2.2.2.2.2.2.2.1 S.2.2.2.2.2.2.2.2.1 S.2.2.2.2.2.2.2.2.2).flatten s.heap := hP
  refine lv_aload_n hx hb (z_d hX5_isLocked_0 0 rfl) rfl (lv_at hl 0 rfl) ?_
  refine va_get (D := Z.1) (ci := 5) (v := .ref (As 9)) (C := RX5) (T := TX5) (N := 10) hx hb hts zinX5 hown hK.1 (zP_reg hP 0 rfl) 0 rfl rfl 6 (by decide) (hts _ k_f_X5_36) (fun _ h9 => h9) rfl (z_d hX5_isLocked_0 1 rfl) ?_
  refine lv_iload_n hx hb (z_d hX5_isLocked_0 2 rfl) rfl (lv_at hl 1 rfl) ?_
  refine z_let hF (fun q1 hq1 hF => ?_)
  refine z_ro_i (z_rV (As := [.int p1]) (rest := []) hx hb hml hown hts vt_X3_at (c_rAt l Z 60 (As 9) (As 10) (by decide) S.2.2.2.2.2.2.1 p1 _ hq1) rfl rfl ⟨Nat.le_of_ble_eq_true rfl, Nat.le_of_ble_eq_true rfl⟩ k_m_X5_52 zPro_blind (z_recv (q := (RX3, TX3, 1)) (ci := 3) (q0 := 0) hK (zP_reg hP 5 rfl) rfl rfl) (z_prec hK (zP_reg hP 5 rfl)) rfl hl.1 (Nat.le_of_ble_eq_true rfl) (z_d hX5_isLocked_0 3 rfl) ⟨Nat.zero_le _, Nat.zero_le _⟩) hS hP (fun H locs hP hS => ?_)
  refine lv_iconst (v := 1) hx hb (z_d hX5_isLocked_0 4 rfl) (by decide) ?_
  refine lv_icmp_lt (tgt := 16) hx hb (z_d hX5_isLocked_0 5 rfl) (by decide) (fun hc9 => ?_) (fun hc9 => ?_)
  · have hF := z_pos hc9 hF
    refine lv_iconst (v := 0) hx hb (z_d hX5_isLocked_0 8 rfl) (by decide) ?_
    have hz9 : narrow .boolean (.int 0) = .int 0 := rfl
    obtain rfl := hF
    subst hQ
    exact W.zret hx hb hr hz9 (fun t ht hW => zq_ro (hS.F ht)) hS.2.2 (z_d hX5_isLocked_0 9 rfl)
  · have hF := z_neg hc9 hF
    refine lv_iconst (v := 1) hx hb (z_d hX5_isLocked_0 6 rfl) (by decide) ?_
    refine lv_goto (tgt := 17) hx hb (z_d hX5_isLocked_0 7 rfl) (by decide) ?_
    have hz9 : narrow .boolean (.int 1) = .int 1 := rfl
    obtain rfl := hF
    subst hQ
    exact W.zret hx hb hr hz9 (fun t ht hW => zq_ro (hS.F ht)) hS.2.2 (z_d hX5_isLocked_0 9 rfl)
def rm_X5_isOmitted : Room := { frames := 1, cells := 0, slots := 0, locals := 21 }
set_option maxRecDepth 100000 in
set_option maxHeartbeats 4000000 in
theorem c_X5_isOmitted (l : Launch) (Z : zZ) (As : Nat → Nat) (S : t_Script) (p1 : Int32) (R : Int32) (hF : X5_isOmitted S p1 = R) : zRO l yX5_isOmitted (zw yX5_isOmitted cX5_isOmitted 2 (some .boolean)) rm_X5_isOmitted Z [.ref (As 0), .int p1] (w_Script Z.2.1 As S) (some (.int R)) := by
  refine zRO_of (by decide) (Nat.le_of_ble_eq_true rfl) (fun p e s m below meth c hx hb hr hml hown hts hlocks hK Q hQ ls hl hP hS => ?_)
  unfold X5_isOmitted at hF
  have hl : lv_has ls 2 [(0, .ref (As 0)), (1, .int p1)] := hl
  have hown : s.vm.findClass RX5 = some m.cls := hown
  have hP : va_P Z.1 vwCl (l_Script Z.2.1 As S.1 S.2.1 S.2.2.1 S.2.2.2.1 S.2.2.2.2.1 S.2.2.2.2.2.1 S.2.2.2.2.2.2.1 S.2.2.2.2.2.2.2.1 S.2.2.2.2.2.2.2.2.1 S.2.2.2.2.2.2.2.2.2).flatten s.heap := hP
  refine lv_aload_n hx hb (z_d hX5_isOmitted_0 0 rfl) rfl (lv_at hl 0 rfl) ?_
  refine va_get (D := Z.1) (ci := 5) (v := .ref (As 9)) (C := RX5) (T := TX5) (N := 10) hx hb hts zinX5 hown hK.1 (zP_reg hP 0 rfl) 0 rfl rfl 6 (by decide) (hts _ k_f_X5_36) (fun _ h9 => h9) rfl (z_d hX5_isOmitted_0 1 rfl) ?_
  refine lv_iload_n hx hb (z_d hX5_isOmitted_0 2 rfl) rfl (lv_at hl 1 rfl) ?_
  refine z_let hF (fun q1 hq1 hF => ?_)
  refine z_ro_i (z_rV (As := [.int p1]) (rest := []) hx hb hml hown hts vt_X3_at (c_rAt l Z 60 (As 9) (As 10) (by decide) S.2.2.2.2.2.2.1 p1 _ hq1) rfl rfl ⟨Nat.le_of_ble_eq_true rfl, Nat.le_of_ble_eq_true rfl⟩ k_m_X5_52 zPro_blind (z_recv (q := (RX3, TX3, 1)) (ci := 3) (q0 := 0) hK (zP_reg hP 5 rfl) rfl rfl) (z_prec hK (zP_reg hP 5 rfl)) rfl hl.1 (Nat.le_of_ble_eq_true rfl) (z_d hX5_isOmitted_0 3 rfl) ⟨Nat.zero_le _, Nat.zero_le _⟩) hS hP (fun H locs hP hS => ?_)
  refine lv_iconst (v := 2) hx hb (z_d hX5_isOmitted_0 4 rfl) (by decide) ?_
  refine lv_icmp_ne (tgt := 16) hx hb (z_d hX5_isOmitted_0 5 rfl) (by decide) (fun hc9 => ?_) (fun hc9 => ?_)
  · have hF := z_neg hc9 hF
    refine lv_iconst (v := 0) hx hb (z_d hX5_isOmitted_0 8 rfl) (by decide) ?_
    have hz9 : narrow .boolean (.int 0) = .int 0 := rfl
    obtain rfl := hF
    subst hQ
    exact W.zret hx hb hr hz9 (fun t ht hW => zq_ro (hS.F ht)) hS.2.2 (z_d hX5_isOmitted_0 9 rfl)
  · have hF := z_pos hc9 hF
    refine lv_iconst (v := 1) hx hb (z_d hX5_isOmitted_0 6 rfl) (by decide) ?_
    refine lv_goto (tgt := 17) hx hb (z_d hX5_isOmitted_0 7 rfl) (by decide) ?_
    have hz9 : narrow .boolean (.int 1) = .int 1 := rfl
    obtain rfl := hF
    subst hQ
    exact W.zret hx hb hr hz9 (fun t ht hW => zq_ro (hS.F ht)) hS.2.2 (z_d hX5_isOmitted_0 9 rfl)
def rm_X5_linesOf : Room := { frames := 2, cells := 0, slots := 0, locals := 42 }
set_option maxRecDepth 100000 in
set_option maxHeartbeats 4000000 in
theorem c_X5_linesOf (l : Launch) (Z : zZ) (As : Nat → Nat) (S : t_Script) (p1 : Int32) (R : Int32) (hF : X5_linesOf S p1 = R) : zRO l yX5_linesOf (zw yX5_linesOf cX5_linesOf 4 (some .int)) rm_X5_linesOf Z [.ref (As 0), .int p1] (w_Script Z.2.1 As S) (some (.int R)) := by
  refine zRO_of (by decide) (Nat.le_of_ble_eq_true rfl) (fun p e s m below meth c hx hb hr hml hown hts hlocks hK Q hQ ls hl hP hS => ?_)
  unfold X5_linesOf at hF
  have hl : lv_has ls 4 [(0, .ref (As 0)), (1, .int p1)] := hl
  have hown : s.vm.findClass RX5 = some m.cls := hown
  have hP : va_P Z.1 vwCl (l_Script Z.2.1 As S.1 S.2.1 S.2.2.1 S.2.2.2.1 S.2.2.2.2.1 S.2.2.2.2.2.1 S.2.2.2.2.2.2.1 S.2.2.2.2.2.2.2.1 S.2.2.2.2.2.2.2.2.1 S.2.2.2.2.2.2.2.2.2).flatten s.heap := hP
  refine lv_aload_n hx hb (z_d hX5_linesOf_0 0 rfl) rfl (lv_at hl 0 rfl) ?_
  refine va_get (D := Z.1) (ci := 5) (v := .ref (As 1)) (C := RX5) (T := TX5) (N := 10) hx hb hts zinX5 hown hK.1 (zP_reg hP 0 rfl) 0 rfl rfl 2 (by decide) (hts _ k_f_X5_23) (fun _ h9 => h9) rfl (z_d hX5_linesOf_0 1 rfl) ?_
  refine lv_iload_n hx hb (z_d hX5_linesOf_0 2 rfl) rfl (lv_at hl 1 rfl) ?_
  refine z_let hF (fun q1 hq1 hF => ?_)
  refine z_ro_i (z_rV (As := [.int p1]) (rest := []) hx hb hml hown hts vt_X3_at (c_rAt l Z 60 (As 1) (As 2) (by decide) S.2.2.1 p1 _ hq1) rfl rfl ⟨Nat.le_of_ble_eq_true rfl, Nat.le_of_ble_eq_true rfl⟩ k_m_X5_52 zPro_blind (z_recv (q := (RX3, TX3, 1)) (ci := 3) (q0 := 0) hK (zP_reg hP 1 rfl) rfl rfl) (z_prec hK (zP_reg hP 1 rfl)) rfl hl.1 (Nat.le_of_ble_eq_true rfl) (z_d hX5_linesOf_0 3 rfl) ⟨Nat.zero_le _, Nat.zero_le _⟩) hS hP (fun H locs hP hS => ?_)
  refine lv_istore_n (lv' := [(2, .int q1), (0, .ref (As 0)), (1, .int p1)]) hx hb (z_d hX5_linesOf_0 4 rfl) rfl hl (by decide) rfl (fun ls hl => ?_)
  refine lv_iload_n hx hb (z_d hX5_linesOf_0 5 rfl) rfl (lv_at hl 0 rfl) ?_
  refine lv_iconst (v := 2) hx hb (z_d hX5_linesOf_0 6 rfl) (by decide) ?_
  refine lv_icmp_eq (tgt := 22) hx hb (z_d hX5_linesOf_0 7 rfl) (by decide) (fun hc11 => ?_) (fun hc11 => ?_)
  · have hF := z_pos hc11 hF
    refine lv_iconst (v := 1) hx hb (z_d hX5_linesOf_0 12 rfl) (by decide) ?_
    obtain rfl := hF
    subst hQ
    exact W.iret hx hb hr (fun t ht hW => zq_ro (hS.F ht)) hS.2.2 (z_d hX5_linesOf_0 13 rfl)
  · have hF := z_neg hc11 hF
    refine lv_aload_n hx hb (z_d hX5_linesOf_0 8 rfl) rfl (lv_at hl 1 rfl) ?_
    refine lv_iload_n hx hb (z_d hX5_linesOf_0 9 rfl) rfl (lv_at hl 2 rfl) ?_
    refine z_let hF (fun q2 hq2 hF => ?_)
    refine z_ro_i (z_rV (As := [.int p1]) (rest := []) hx hb hml hown hts vt_X5_isOmitted (c_X5_isOmitted l Z As S p1 _ hq2) rfl rfl ⟨Nat.le_of_ble_eq_true rfl, Nat.le_of_ble_eq_true rfl⟩ k_m_X5_56 zPro_blind (z_recv (q := (RX5, TX5, 10)) (ci := 5) (q0 := 0) hK (zP_reg hP 0 rfl) rfl rfl) (z_prec hK hP) rfl hl.1 (Nat.le_of_ble_eq_true rfl) (z_d hX5_linesOf_0 10 rfl) ⟨Nat.zero_le _, Nat.zero_le _⟩) hS hP (fun H locs hP hS => ?_)
    refine lv_if_eq (tgt := 24) hx hb (z_d hX5_linesOf_0 11 rfl) (by decide) (fun hc19 => ?_) (fun hc19 => ?_)
    · have hF := z_pos hc19 hF
      refine lv_aload_n hx hb (z_d hX5_linesOf_0 14 rfl) rfl (lv_at hl 1 rfl) ?_
      refine va_get (D := Z.1) (ci := 5) (v := .ref (As 3)) (C := RX5) (T := TX5) (N := 10) hx hb hts zinX5 hown hK.1 (zP_reg hP 0 rfl) 0 rfl rfl 3 (by decide) (hts _ k_f_X5_27) (fun _ h9 => h9) rfl (z_d hX5_linesOf_0 15 rfl) ?_
      refine lv_iload_n hx hb (z_d hX5_linesOf_0 16 rfl) rfl (lv_at hl 2 rfl) ?_
      refine z_let hF (fun q3 hq3 hF => ?_)
      refine z_ro_i (z_rV (As := [.int p1]) (rest := []) hx hb hml hown hts vt_X3_at (c_rAt l Z 60 (As 3) (As 4) (by decide) S.2.2.2.1 p1 _ hq3) rfl rfl ⟨Nat.le_of_ble_eq_true rfl, Nat.le_of_ble_eq_true rfl⟩ k_m_X5_52 zPro_blind (z_recv (q := (RX3, TX3, 1)) (ci := 3) (q0 := 0) hK (zP_reg hP 2 rfl) rfl rfl) (z_prec hK (zP_reg hP 2 rfl)) rfl hl.1 (Nat.le_of_ble_eq_true rfl) (z_d hX5_linesOf_0 17 rfl) ⟨Nat.zero_le _, Nat.zero_le _⟩) hS hP (fun H locs hP hS => ?_)
      refine lv_istore_n (lv' := [(3, .int q3), (2, .int q1), (0, .ref (As 0)), (1, .int p1)]) hx hb (z_d hX5_linesOf_0 18 rfl) rfl hl (by decide) rfl (fun ls hl => ?_)
      refine lv_iload_n hx hb (z_d hX5_linesOf_0 19 rfl) rfl (lv_at hl 1 rfl) ?_
      by_cases hs34_3 : q1 = 3
      · have hF := z_pos hs34_3 hF
        refine lv_lookup (off := 26) (tgt := 60) hx hb (z_d hX5_linesOf_0 20 rfl) (by decide) (by rw [hs34_3]; first | done | rfl) (by decide) ?_
        refine lv_iload_n hx hb (z_d hX5_linesOf_0 21 rfl) rfl (lv_at hl 0 rfl) ?_
        refine lv_bipush (v := 34) hx hb (z_d hX5_linesOf_0 22 rfl) (by decide) ?_
        refine lv_iadd hx hb (z_d hX5_linesOf_0 23 rfl) ?_
        refine z_let hF (fun u4 hu4 hF => ?_)
        refine lv_topE hu4 ?_
        refine lv_bipush (v := 35) hx hb (z_d hX5_linesOf_0 24 rfl) (by decide) ?_
        refine lv_idiv hx hb (z_d hX5_linesOf_0 25 rfl) (by decide) ?_
        refine z_let hF (fun u5 hu5 hF => ?_)
        refine lv_topE hu5 ?_
        obtain rfl := hF
        subst hQ
        exact W.iret hx hb hr (fun t ht hW => zq_ro (hS.F ht)) hS.2.2 (z_d hX5_linesOf_0 26 rfl)
      have hF := z_neg hs34_3 hF
      by_cases hs34_4 : q1 = 4
      · have hF := z_pos hs34_4 hF
        refine lv_lookup (off := 34) (tgt := 68) hx hb (z_d hX5_linesOf_0 20 rfl) (by decide) (by rw [hs34_4]; first | done | rfl) (by decide) ?_
        refine lv_iload_n hx hb (z_d hX5_linesOf_0 27 rfl) rfl (lv_at hl 0 rfl) ?_
        refine lv_bipush (v := 24) hx hb (z_d hX5_linesOf_0 28 rfl) (by decide) ?_
        refine lv_iadd hx hb (z_d hX5_linesOf_0 29 rfl) ?_
        refine z_let hF (fun u6 hu6 hF => ?_)
        refine lv_topE hu6 ?_
        refine lv_bipush (v := 25) hx hb (z_d hX5_linesOf_0 30 rfl) (by decide) ?_
        refine lv_idiv hx hb (z_d hX5_linesOf_0 31 rfl) (by decide) ?_
        refine z_let hF (fun u7 hu7 hF => ?_)
        refine lv_topE hu7 ?_
        obtain rfl := hF
        subst hQ
        exact W.iret hx hb hr (fun t ht hW => zq_ro (hS.F ht)) hS.2.2 (z_d hX5_linesOf_0 32 rfl)
      have hF := z_neg hs34_4 hF
      refine lv_lookup (off := 42) (tgt := 76) hx hb (z_d hX5_linesOf_0 20 rfl) (by decide) ((lv_osw hs34_3 (by decide)).trans ((lv_osw hs34_4 (by decide)).trans rfl)) (by decide) ?_
      refine lv_iload_n hx hb (z_d hX5_linesOf_0 33 rfl) rfl (lv_at hl 0 rfl) ?_
      refine lv_bipush (v := 59) hx hb (z_d hX5_linesOf_0 34 rfl) (by decide) ?_
      refine lv_iadd hx hb (z_d hX5_linesOf_0 35 rfl) ?_
      refine z_let hF (fun u8 hu8 hF => ?_)
      refine lv_topE hu8 ?_
      refine lv_bipush (v := 60) hx hb (z_d hX5_linesOf_0 36 rfl) (by decide) ?_
      refine lv_idiv hx hb (z_d hX5_linesOf_0 37 rfl) (by decide) ?_
      refine z_let hF (fun u9 hu9 hF => ?_)
      refine lv_topE hu9 ?_
      obtain rfl := hF
      subst hQ
      exact W.iret hx hb hr (fun t ht hW => zq_ro (hS.F ht)) hS.2.2 (z_d hX5_linesOf_0 38 rfl)
    · have hF := z_neg hc19 hF
      refine lv_iconst (v := 1) hx hb (z_d hX5_linesOf_0 12 rfl) (by decide) ?_
      obtain rfl := hF
      subst hQ
      exact W.iret hx hb hr (fun t ht hW => zq_ro (hS.F ht)) hS.2.2 (z_d hX5_linesOf_0 13 rfl)
def rm_X5_blanksAhead : Room := { frames := 1, cells := 0, slots := 0, locals := 21 }
set_option maxRecDepth 100000 in
set_option maxHeartbeats 4000000 in
theorem c_X5_blanksAhead (l : Launch) (Z : zZ) (As : Nat → Nat) (S : t_Script) (p1 : Int32) (R : Int32) (hF : X5_blanksAhead S p1 = R) : zRO l yX5_blanksAhead (zw yX5_blanksAhead cX5_blanksAhead 2 (some .int)) rm_X5_blanksAhead Z [.ref (As 0), .int p1] (w_Script Z.2.1 As S) (some (.int R)) := by
  refine zRO_of (by decide) (Nat.le_of_ble_eq_true rfl) (fun p e s m below meth c hx hb hr hml hown hts hlocks hK Q hQ ls hl hP hS => ?_)
  unfold X5_blanksAhead at hF
  have hl : lv_has ls 2 [(0, .ref (As 0)), (1, .int p1)] := hl
  have hown : s.vm.findClass RX5 = some m.cls := hown
  have hP : va_P Z.1 vwCl (l_Script Z.2.1 As S.1 S.2.1 S.2.2.1 S.2.2.2.1 S.2.2.2.2.1 S.2.2.2.2.2.1 S.2.2.2.2.2.2.1 S.2.2.2.2.2.2.2.1 S.2.2.2.2.2.2.2.2.1 S.2.2.2.2.2.2.2.2.2).flatten s.heap := hP
  refine lv_aload_n hx hb (z_d hX5_blanksAhead_0 0 rfl) rfl (lv_at hl 0 rfl) ?_
  refine va_get (D := Z.1) (ci := 5) (v := .ref (As 1)) (C := RX5) (T := TX5) (N := 10) hx hb hts zinX5 hown hK.1 (zP_reg hP 0 rfl) 0 rfl rfl 2 (by decide) (hts _ k_f_X5_23) (fun _ h9 => h9) rfl (z_d hX5_blanksAhead_0 1 rfl) ?_
  refine lv_iload_n hx hb (z_d hX5_blanksAhead_0 2 rfl) rfl (lv_at hl 1 rfl) ?_
  refine z_let hF (fun q1 hq1 hF => ?_)
  refine z_ro_i (z_rV (As := [.int p1]) (rest := []) hx hb hml hown hts vt_X3_at (c_rAt l Z 60 (As 1) (As 2) (by decide) S.2.2.1 p1 _ hq1) rfl rfl ⟨Nat.le_of_ble_eq_true rfl, Nat.le_of_ble_eq_true rfl⟩ k_m_X5_52 zPro_blind (z_recv (q := (RX3, TX3, 1)) (ci := 3) (q0 := 0) hK (zP_reg hP 1 rfl) rfl rfl) (z_prec hK (zP_reg hP 1 rfl)) rfl hl.1 (Nat.le_of_ble_eq_true rfl) (z_d hX5_blanksAhead_0 3 rfl) ⟨Nat.zero_le _, Nat.zero_le _⟩) hS hP (fun H locs hP hS => ?_)
  by_cases hs8_0 : q1 = 0
  · have hF := z_pos hs8_0 hF
    refine lv_tableIn (off := 28) (tgt := 36) hx hb (z_d hX5_blanksAhead_0 4 rfl) (by rw [hs8_0]; decide) (by rw [hs8_0]; decide) (by rw [hs8_0]; first | done | rfl) (by decide) ?_
    refine lv_iconst (v := 2) hx hb (z_d hX5_blanksAhead_0 5 rfl) (by decide) ?_
    obtain rfl := hF
    subst hQ
    exact W.iret hx hb hr (fun t ht hW => zq_ro (hS.F ht)) hS.2.2 (z_d hX5_blanksAhead_0 6 rfl)
  have hF := z_neg hs8_0 hF
  by_cases hs8_1 : q1 = 1
  · have hF := z_pos hs8_1 hF
    refine lv_tableIn (off := 30) (tgt := 38) hx hb (z_d hX5_blanksAhead_0 4 rfl) (by rw [hs8_1]; decide) (by rw [hs8_1]; decide) (by rw [hs8_1]; first | done | rfl) (by decide) ?_
    refine lv_iconst (v := 1) hx hb (z_d hX5_blanksAhead_0 7 rfl) (by decide) ?_
    obtain rfl := hF
    subst hQ
    exact W.iret hx hb hr (fun t ht hW => zq_ro (hS.F ht)) hS.2.2 (z_d hX5_blanksAhead_0 8 rfl)
  have hF := z_neg hs8_1 hF
  by_cases hs8_2 : q1 = 2
  · have hF := z_pos hs8_2 hF
    refine lv_tableIn (off := 30) (tgt := 38) hx hb (z_d hX5_blanksAhead_0 4 rfl) (by rw [hs8_2]; decide) (by rw [hs8_2]; decide) (by rw [hs8_2]; first | done | rfl) (by decide) ?_
    refine lv_iconst (v := 1) hx hb (z_d hX5_blanksAhead_0 7 rfl) (by decide) ?_
    obtain rfl := hF
    subst hQ
    exact W.iret hx hb hr (fun t ht hW => zq_ro (hS.F ht)) hS.2.2 (z_d hX5_blanksAhead_0 8 rfl)
  have hF := z_neg hs8_2 hF
  have n0 := lv_neT (a := 0) hs8_0 (by decide)
  have n1 := lv_neT (a := 1) hs8_1 (by decide)
  have n2 := lv_neT (a := 2) hs8_2 (by decide)
  refine lv_tableOut (tgt := 40) hx hb (z_d hX5_blanksAhead_0 4 rfl) (by omega) (by decide) ?_
  refine lv_iconst (v := 0) hx hb (z_d hX5_blanksAhead_0 9 rfl) (by decide) ?_
  obtain rfl := hF
  subst hQ
  exact W.iret hx hb hr (fun t ht hW => zq_ro (hS.F ht)) hS.2.2 (z_d hX5_blanksAhead_0 10 rfl)
def rm_X5_clear : Room := { frames := 0, cells := 0, slots := 0, locals := 0 }
set_option maxRecDepth 100000 in
set_option maxHeartbeats 4000000 in
theorem c_X5_clear (l : Launch) (Z : zZ) (As : Nat → Nat) (S : t_Script) (R : t_Script) (hF : X5_clear S = R) : zMU l yX5_clear (zw yX5_clear cX5_clear 1 none) rm_X5_clear Z [.ref (As 0)] (w_Script Z.2.1 As S) (w_Script Z.2.1 As R) none := by
  refine zMU_of (by decide) (Nat.le_of_ble_eq_true rfl) (fun p e s m below meth c hx hb hr hml hown hts hlocks hK A hA Q hQ ls hl hP hD hS => ?_)
  unfold X5_clear at hF
  have hl : lv_has ls 1 [(0, .ref (As 0))] := hl
  have hown : s.vm.findClass RX5 = some m.cls := hown
  have hP : va_P Z.1 vwCl (l_Script Z.2.1 As S.1 S.2.1 S.2.2.1 S.2.2.2.1 S.2.2.2.2.1 S.2.2.2.2.2.1 S.2.2.2.2.2.2.1 S.2.2.2.2.2.2.2.1 S.2.2.2.2.2.2.2.2.1 S.2.2.2.2.2.2.2.2.2).flatten s.heap := hP
  have hD : va_D A (l_Script Z.2.1 As S.1 S.2.1 S.2.2.1 S.2.2.2.1 S.2.2.2.2.1 S.2.2.2.2.2.1 S.2.2.2.2.2.2.1 S.2.2.2.2.2.2.2.1 S.2.2.2.2.2.2.2.2.1 S.2.2.2.2.2.2.2.2.2).flatten := hD
  refine lv_aload_n hx hb (z_d hX5_clear_0 0 rfl) rfl (lv_at hl 0 rfl) ?_
  refine lv_iconst (v := 0) hx hb (z_d hX5_clear_0 1 rfl) (by decide) ?_
  refine z_put (Z := Z) (ci := 5) (v := .int 0) (ty := .int) (L := l_Script Z.2.1 As S.1 S.2.1 S.2.2.1 S.2.2.2.1 S.2.2.2.2.1 S.2.2.2.2.2.1 S.2.2.2.2.2.2.1 S.2.2.2.2.2.2.2.1 S.2.2.2.2.2.2.2.2.1 S.2.2.2.2.2.2.2.2.2) (L' := l_Script Z.2.1 As 0 S.2.1 S.2.2.1 S.2.2.2.1 S.2.2.2.2.1 S.2.2.2.2.2.1 S.2.2.2.2.2.2.1 S.2.2.2.2.2.2.2.1 S.2.2.2.2.2.2.2.2.1 S.2.2.2.2.2.2.2.2.2) (C := RX5) (T := TX5) (N := 10) hx hb hts zinX5 tyX5 tyX5_ok nmX5 hown hK hP hD hS 0 rfl rfl 0 (by decide) (hts _ k_f_X5_9) (fun _ h9 => h9) rfl (tyX5_ok 0 (by decide)) rfl rfl (Nat.le_of_ble_eq_true rfl) rfl (z_d hX5_clear_0 2 rfl) (fun H locs hP hD hS => ?_)
  obtain rfl := hF
  subst hQ
  subst hA
  exact W.vret hx hb hr (fun t ht hW => zq_mu (by rw [ht]; exact hP) (hS.F ht)) hS.2.2 (z_d hX5_clear_0 3 rfl)
def rm_X5_putIn : Room := { frames := 2, cells := 0, slots := 0, locals := 46 }
set_option maxRecDepth 100000 in
set_option maxHeartbeats 4000000 in
theorem c_X5_putIn (l : Launch) (Z : zZ) (As : Nat → Nat) (S : t_Script) (p1 : Int32) (p2 : Int32) (p3 : Int32) (p4 : Int32) (R : t_Script) (hF : X5_putIn S p1 p2 p3 p4 = R) : zMU l yX5_putIn (zw yX5_putIn cX5_putIn 5 none) rm_X5_putIn Z [.ref (As 0), .int p1, .int p2, .int p3, .int p4] (w_Script Z.2.1 As S) (w_Script Z.2.1 As R) none := by
  refine zMU_of (by decide) (Nat.le_of_ble_eq_true rfl) (fun p e s m below meth c hx hb hr hml hown hts hlocks hK A hA Q hQ ls hl hP hD hS => ?_)
  unfold X5_putIn at hF
  have hl : lv_has ls 5 [(0, .ref (As 0)), (1, .int p1), (2, .int p2), (3, .int p3), (4, .int p4)] := hl
  have hown : s.vm.findClass RX5 = some m.cls := hown
  have hP : va_P Z.1 vwCl (l_Script Z.2.1 As S.1 S.2.1 S.2.2.1 S.2.2.2.1 S.2.2.2.2.1 S.2.2.2.2.2.1 S.2.2.2.2.2.2.1 S.2.2.2.2.2.2.2.1 S.2.2.2.2.2.2.2.2.1 S.2.2.2.2.2.2.2.2.2).flatten s.heap := hP
  have hD : va_D A (l_Script Z.2.1 As S.1 S.2.1 S.2.2.1 S.2.2.2.1 S.2.2.2.2.1 S.2.2.2.2.2.1 S.2.2.2.2.2.2.1 S.2.2.2.2.2.2.2.1 S.2.2.2.2.2.2.2.2.1 S.2.2.2.2.2.2.2.2.2).flatten := hD
  refine lv_aload_n hx hb (z_d hX5_putIn_0 0 rfl) rfl (lv_at hl 0 rfl) ?_
  refine z_let hF (fun q1 hq1 hF => ?_)
  refine z_ro_i (z_rV (As := []) (rest := []) hx hb hml hown hts vt_X5_isFull (c_X5_isFull l Z As S _ hq1) rfl rfl ⟨Nat.le_of_ble_eq_true rfl, Nat.le_of_ble_eq_true rfl⟩ k_m_X5_60 zPro_blind (z_recv (q := (RX5, TX5, 10)) (ci := 5) (q0 := 0) hK (zP_reg hP 0 rfl) rfl rfl) (z_prec hK hP) rfl hl.1 (Nat.le_of_ble_eq_true rfl) (z_d hX5_putIn_0 1 rfl) ⟨Nat.zero_le _, Nat.zero_le _⟩) hS hP (fun H locs hP hS => ?_)
  refine lv_if_eq (tgt := 8) hx hb (z_d hX5_putIn_0 2 rfl) (by decide) (fun hc4 => ?_) (fun hc4 => ?_)
  · have hF := z_pos hc4 hF
    refine lv_aload_n hx hb (z_d hX5_putIn_0 4 rfl) rfl (lv_at hl 0 rfl) ?_
    refine va_get (D := Z.1) (ci := 5) (v := .ref (As 1)) (C := RX5) (T := TX5) (N := 10) hx hb hts zinX5 hown hK.1 (zP_reg hP 0 rfl) 0 rfl rfl 2 (by decide) (hts _ k_f_X5_23) (fun _ h9 => h9) rfl (z_d hX5_putIn_0 5 rfl) ?_
    refine lv_iload_n hx hb (z_d hX5_putIn_0 6 rfl) rfl (lv_at hl 1 rfl) ?_
    refine lv_iload_n hx hb (z_d hX5_putIn_0 7 rfl) rfl (lv_at hl 2 rfl) ?_
    refine z_let hF (fun q2 hq2 hF => ?_)
    refine z_mu1 (L := l_Script Z.2.1 As S.1 S.2.1 S.2.2.1 S.2.2.2.1 S.2.2.2.2.1 S.2.2.2.2.2.1 S.2.2.2.2.2.2.1 S.2.2.2.2.2.2.2.1 S.2.2.2.2.2.2.2.2.1 S.2.2.2.2.2.2.2.2.2) (L' := l_Script Z.2.1 As S.1 S.2.1 q2 S.2.2.2.1 S.2.2.2.2.1 S.2.2.2.2.2.1 S.2.2.2.2.2.2.1 S.2.2.2.2.2.2.2.1 S.2.2.2.2.2.2.2.2.1 S.2.2.2.2.2.2.2.2.2) (z_rV (As := [.int p1, .int p2]) (rest := []) hx hb hml hown hts vt_X3_openAt (c_rOpen l Z 60 (As 1) (As 2) (by decide) S.2.2.1 p1 p2 _ hq2) rfl rfl ⟨Nat.le_of_ble_eq_true rfl, Nat.le_of_ble_eq_true rfl⟩ k_m_X5_64 zPmu_blind (z_recv (q := (RX3, TX3, 1)) (ci := 3) (q0 := 0) hK (zP_reg hP 1 rfl) rfl rfl) (z_prem hK (zP_reg hP 1 rfl) (zD_one hD 1 _ rfl)) rfl hl.1 (Nat.le_of_ble_eq_true rfl) (z_d hX5_putIn_0 8 rfl) ⟨Nat.zero_le _, Nat.zero_le _⟩) hS hP hD 1 rfl rfl rfl (fun H locs hP hD hS => ?_)
    refine W.eq (g2 := F0 m 17 ls []) rfl ?_
    refine lv_aload_n hx hb (z_d hX5_putIn_0 9 rfl) rfl (lv_at hl 0 rfl) ?_
    refine va_get (D := Z.1) (ci := 5) (v := .ref (As 3)) (C := RX5) (T := TX5) (N := 10) hx hb hts zinX5 hown hK.1 (zP_reg hP 0 rfl) 0 rfl rfl 3 (by decide) (hts _ k_f_X5_27) (fun _ h9 => h9) rfl (z_d hX5_putIn_0 10 rfl) ?_
    refine lv_iload_n hx hb (z_d hX5_putIn_0 11 rfl) rfl (lv_at hl 1 rfl) ?_
    refine lv_iload_n hx hb (z_d hX5_putIn_0 12 rfl) rfl (lv_at hl 3 rfl) ?_
    refine z_let hF (fun q3 hq3 hF => ?_)
    refine z_mu1 (L := l_Script Z.2.1 As S.1 S.2.1 q2 S.2.2.2.1 S.2.2.2.2.1 S.2.2.2.2.2.1 S.2.2.2.2.2.2.1 S.2.2.2.2.2.2.2.1 S.2.2.2.2.2.2.2.2.1 S.2.2.2.2.2.2.2.2.2) (L' := l_Script Z.2.1 As S.1 S.2.1 q2 q3 S.2.2.2.2.1 S.2.2.2.2.2.1 S.2.2.2.2.2.2.1 S.2.2.2.2.2.2.2.1 S.2.2.2.2.2.2.2.2.1 S.2.2.2.2.2.2.2.2.2) (z_rV (As := [.int p1, .int p3]) (rest := []) hx hb hml hown hts vt_X3_openAt (c_rOpen l Z 60 (As 3) (As 4) (by decide) S.2.2.2.1 p1 p3 _ hq3) rfl rfl ⟨Nat.le_of_ble_eq_true rfl, Nat.le_of_ble_eq_true rfl⟩ k_m_X5_64 zPmu_blind (z_recv (q := (RX3, TX3, 1)) (ci := 3) (q0 := 0) hK (zP_reg hP 2 rfl) rfl rfl) (z_prem hK (zP_reg hP 2 rfl) (zD_one hD 2 _ rfl)) rfl hl.1 (Nat.le_of_ble_eq_true rfl) (z_d hX5_putIn_0 13 rfl) ⟨Nat.zero_le _, Nat.zero_le _⟩) hS hP hD 2 rfl rfl rfl (fun H locs hP hD hS => ?_)
    refine W.eq (g2 := F0 m 26 ls []) rfl ?_
    refine lv_aload_n hx hb (z_d hX5_putIn_0 14 rfl) rfl (lv_at hl 0 rfl) ?_
    refine va_get (D := Z.1) (ci := 5) (v := .ref (As 5)) (C := RX5) (T := TX5) (N := 10) hx hb hts zinX5 hown hK.1 (zP_reg hP 0 rfl) 0 rfl rfl 4 (by decide) (hts _ k_f_X5_30) (fun _ h9 => h9) rfl (z_d hX5_putIn_0 15 rfl) ?_
    refine lv_iload_n hx hb (z_d hX5_putIn_0 16 rfl) rfl (lv_at hl 1 rfl) ?_
    refine lv_iload hx hb (z_d hX5_putIn_0 17 rfl) (lv_at hl 4 rfl) ?_
    refine z_let hF (fun q4 hq4 hF => ?_)
    refine z_mu1 (L := l_Script Z.2.1 As S.1 S.2.1 q2 q3 S.2.2.2.2.1 S.2.2.2.2.2.1 S.2.2.2.2.2.2.1 S.2.2.2.2.2.2.2.1 S.2.2.2.2.2.2.2.2.1 S.2.2.2.2.2.2.2.2.2) (L' := l_Script Z.2.1 As S.1 S.2.1 q2 q3 q4 S.2.2.2.2.2.1 S.2.2.2.2.2.2.1 S.2.2.2.2.2.2.2.1 S.2.2.2.2.2.2.2.2.1 S.2.2.2.2.2.2.2.2.2) (z_rV (As := [.int p1, .int p4]) (rest := []) hx hb hml hown hts vt_X3_openAt (c_rOpen l Z 60 (As 5) (As 6) (by decide) S.2.2.2.2.1 p1 p4 _ hq4) rfl rfl ⟨Nat.le_of_ble_eq_true rfl, Nat.le_of_ble_eq_true rfl⟩ k_m_X5_64 zPmu_blind (z_recv (q := (RX3, TX3, 1)) (ci := 3) (q0 := 0) hK (zP_reg hP 3 rfl) rfl rfl) (z_prem hK (zP_reg hP 3 rfl) (zD_one hD 3 _ rfl)) rfl hl.1 (Nat.le_of_ble_eq_true rfl) (z_d hX5_putIn_0 18 rfl) ⟨Nat.zero_le _, Nat.zero_le _⟩) hS hP hD 3 rfl rfl rfl (fun H locs hP hD hS => ?_)
    refine W.eq (g2 := F0 m 36 ls []) rfl ?_
    refine lv_aload_n hx hb (z_d hX5_putIn_0 19 rfl) rfl (lv_at hl 0 rfl) ?_
    refine va_get (D := Z.1) (ci := 5) (v := .ref (As 7)) (C := RX5) (T := TX5) (N := 10) hx hb hts zinX5 hown hK.1 (zP_reg hP 0 rfl) 0 rfl rfl 5 (by decide) (hts _ k_f_X5_33) (fun _ h9 => h9) rfl (z_d hX5_putIn_0 20 rfl) ?_
    refine lv_iload_n hx hb (z_d hX5_putIn_0 21 rfl) rfl (lv_at hl 1 rfl) ?_
    refine lv_iconst (v := (-1)) hx hb (z_d hX5_putIn_0 22 rfl) (by decide) ?_
    refine z_let hF (fun q5 hq5 hF => ?_)
    refine z_mu1 (L := l_Script Z.2.1 As S.1 S.2.1 q2 q3 q4 S.2.2.2.2.2.1 S.2.2.2.2.2.2.1 S.2.2.2.2.2.2.2.1 S.2.2.2.2.2.2.2.2.1 S.2.2.2.2.2.2.2.2.2) (L' := l_Script Z.2.1 As S.1 S.2.1 q2 q3 q4 q5 S.2.2.2.2.2.2.1 S.2.2.2.2.2.2.2.1 S.2.2.2.2.2.2.2.2.1 S.2.2.2.2.2.2.2.2.2) (z_rV (As := [.int p1, .int (-1)]) (rest := []) hx hb hml hown hts vt_X3_openAt (c_rOpen l Z 60 (As 7) (As 8) (by decide) S.2.2.2.2.2.1 p1 (-1) _ hq5) rfl rfl ⟨Nat.le_of_ble_eq_true rfl, Nat.le_of_ble_eq_true rfl⟩ k_m_X5_64 zPmu_blind (z_recv (q := (RX3, TX3, 1)) (ci := 3) (q0 := 0) hK (zP_reg hP 4 rfl) rfl rfl) (z_prem hK (zP_reg hP 4 rfl) (zD_one hD 4 _ rfl)) rfl hl.1 (Nat.le_of_ble_eq_true rfl) (z_d hX5_putIn_0 23 rfl) ⟨Nat.zero_le _, Nat.zero_le _⟩) hS hP hD 4 rfl rfl rfl (fun H locs hP hD hS => ?_)
    refine W.eq (g2 := F0 m 45 ls []) rfl ?_
    refine lv_aload_n hx hb (z_d hX5_putIn_0 24 rfl) rfl (lv_at hl 0 rfl) ?_
    refine va_get (D := Z.1) (ci := 5) (v := .ref (As 9)) (C := RX5) (T := TX5) (N := 10) hx hb hts zinX5 hown hK.1 (zP_reg hP 0 rfl) 0 rfl rfl 6 (by decide) (hts _ k_f_X5_36) (fun _ h9 => h9) rfl (z_d hX5_putIn_0 25 rfl) ?_
    refine lv_iload_n hx hb (z_d hX5_putIn_0 26 rfl) rfl (lv_at hl 1 rfl) ?_
    refine lv_iconst (v := 0) hx hb (z_d hX5_putIn_0 27 rfl) (by decide) ?_
    refine z_let hF (fun q6 hq6 hF => ?_)
    refine z_mu1 (L := l_Script Z.2.1 As S.1 S.2.1 q2 q3 q4 q5 S.2.2.2.2.2.2.1 S.2.2.2.2.2.2.2.1 S.2.2.2.2.2.2.2.2.1 S.2.2.2.2.2.2.2.2.2) (L' := l_Script Z.2.1 As S.1 S.2.1 q2 q3 q4 q5 q6 S.2.2.2.2.2.2.2.1 S.2.2.2.2.2.2.2.2.1 S.2.2.2.2.2.2.2.2.2) (z_rV (As := [.int p1, .int 0]) (rest := []) hx hb hml hown hts vt_X3_openAt (c_rOpen l Z 60 (As 9) (As 10) (by decide) S.2.2.2.2.2.2.1 p1 0 _ hq6) rfl rfl ⟨Nat.le_of_ble_eq_true rfl, Nat.le_of_ble_eq_true rfl⟩ k_m_X5_64 zPmu_blind (z_recv (q := (RX3, TX3, 1)) (ci := 3) (q0 := 0) hK (zP_reg hP 5 rfl) rfl rfl) (z_prem hK (zP_reg hP 5 rfl) (zD_one hD 5 _ rfl)) rfl hl.1 (Nat.le_of_ble_eq_true rfl) (z_d hX5_putIn_0 28 rfl) ⟨Nat.zero_le _, Nat.zero_le _⟩) hS hP hD 5 rfl rfl rfl (fun H locs hP hD hS => ?_)
    refine W.eq (g2 := F0 m 54 ls []) rfl ?_
    refine lv_aload_n hx hb (z_d hX5_putIn_0 29 rfl) rfl (lv_at hl 0 rfl) ?_
    refine va_get (D := Z.1) (ci := 5) (v := .ref (As 11)) (C := RX5) (T := TX5) (N := 10) hx hb hts zinX5 hown hK.1 (zP_reg hP 0 rfl) 0 rfl rfl 7 (by decide) (hts _ k_f_X5_39) (fun _ h9 => h9) rfl (z_d hX5_putIn_0 30 rfl) ?_
    refine lv_iload_n hx hb (z_d hX5_putIn_0 31 rfl) rfl (lv_at hl 1 rfl) ?_
    refine lv_iconst (v := 0) hx hb (z_d hX5_putIn_0 32 rfl) (by decide) ?_
    refine z_let hF (fun q7 hq7 hF => ?_)
    refine z_mu1 (L := l_Script Z.2.1 As S.1 S.2.1 q2 q3 q4 q5 q6 S.2.2.2.2.2.2.2.1 S.2.2.2.2.2.2.2.2.1 S.2.2.2.2.2.2.2.2.2) (L' := l_Script Z.2.1 As S.1 S.2.1 q2 q3 q4 q5 q6 q7 S.2.2.2.2.2.2.2.2.1 S.2.2.2.2.2.2.2.2.2) (z_rV (As := [.int p1, .int 0]) (rest := []) hx hb hml hown hts vt_X3_openAt (c_rOpen l Z 60 (As 11) (As 12) (by decide) S.2.2.2.2.2.2.2.1 p1 0 _ hq7) rfl rfl ⟨Nat.le_of_ble_eq_true rfl, Nat.le_of_ble_eq_true rfl⟩ k_m_X5_64 zPmu_blind (z_recv (q := (RX3, TX3, 1)) (ci := 3) (q0 := 0) hK (zP_reg hP 6 rfl) rfl rfl) (z_prem hK (zP_reg hP 6 rfl) (zD_one hD 6 _ rfl)) rfl hl.1 (Nat.le_of_ble_eq_true rfl) (z_d hX5_putIn_0 33 rfl) ⟨Nat.zero_le _, Nat.zero_le _⟩) hS hP hD 6 rfl rfl rfl (fun H locs hP hD hS => ?_)
    refine W.eq (g2 := F0 m 63 ls []) rfl ?_
    refine lv_aload_n hx hb (z_d hX5_putIn_0 34 rfl) rfl (lv_at hl 0 rfl) ?_
    refine va_get (D := Z.1) (ci := 5) (v := .ref (As 13)) (C := RX5) (T := TX5) (N := 10) hx hb hts zinX5 hown hK.1 (zP_reg hP 0 rfl) 0 rfl rfl 8 (by decide) (hts _ k_f_X5_42) (fun _ h9 => h9) rfl (z_d hX5_putIn_0 35 rfl) ?_
    refine lv_iload_n hx hb (z_d hX5_putIn_0 36 rfl) rfl (lv_at hl 1 rfl) ?_
    refine lv_iconst (v := 0) hx hb (z_d hX5_putIn_0 37 rfl) (by decide) ?_
    refine z_let hF (fun q8 hq8 hF => ?_)
    refine z_mu1 (L := l_Script Z.2.1 As S.1 S.2.1 q2 q3 q4 q5 q6 q7 S.2.2.2.2.2.2.2.2.1 S.2.2.2.2.2.2.2.2.2) (L' := l_Script Z.2.1 As S.1 S.2.1 q2 q3 q4 q5 q6 q7 q8 S.2.2.2.2.2.2.2.2.2) (z_rV (As := [.int p1, .int 0]) (rest := []) hx hb hml hown hts vt_X3_openAt (c_rOpen l Z 60 (As 13) (As 14) (by decide) S.2.2.2.2.2.2.2.2.1 p1 0 _ hq8) rfl rfl ⟨Nat.le_of_ble_eq_true rfl, Nat.le_of_ble_eq_true rfl⟩ k_m_X5_64 zPmu_blind (z_recv (q := (RX3, TX3, 1)) (ci := 3) (q0 := 0) hK (zP_reg hP 7 rfl) rfl rfl) (z_prem hK (zP_reg hP 7 rfl) (zD_one hD 7 _ rfl)) rfl hl.1 (Nat.le_of_ble_eq_true rfl) (z_d hX5_putIn_0 38 rfl) ⟨Nat.zero_le _, Nat.zero_le _⟩) hS hP hD 7 rfl rfl rfl (fun H locs hP hD hS => ?_)
    refine W.eq (g2 := F0 m 72 ls []) rfl ?_
    refine lv_aload_n hx hb (z_d hX5_putIn_0 39 rfl) rfl (lv_at hl 0 rfl) ?_
    refine va_get (D := Z.1) (ci := 5) (v := .ref (As 15)) (C := RX5) (T := TX5) (N := 10) hx hb hts zinX5 hown hK.1 (zP_reg hP 0 rfl) 0 rfl rfl 9 (by decide) (hts _ k_f_X5_45) (fun _ h9 => h9) rfl (z_d hX5_putIn_0 40 rfl) ?_
    refine lv_iload_n hx hb (z_d hX5_putIn_0 41 rfl) rfl (lv_at hl 1 rfl) ?_
    refine lv_iconst (v := 0) hx hb (z_d hX5_putIn_0 42 rfl) (by decide) ?_
    refine z_let hF (fun q9 hq9 hF => ?_)
    refine z_mu1 (L := l_Script Z.2.1 As S.1 S.2.1 q2 q3 q4 q5 q6 q7 q8 S.2.2.2.2.2.2.2.2.2) (L' := l_Script Z.2.1 As S.1 S.2.1 q2 q3 q4 q5 q6 q7 q8 q9) (z_rV (As := [.int p1, .int 0]) (rest := []) hx hb hml hown hts vt_X3_openAt (c_rOpen l Z 60 (As 15) (As 16) (by decide) S.2.2.2.2.2.2.2.2.2 p1 0 _ hq9) rfl rfl ⟨Nat.le_of_ble_eq_true rfl, Nat.le_of_ble_eq_true rfl⟩ k_m_X5_64 zPmu_blind (z_recv (q := (RX3, TX3, 1)) (ci := 3) (q0 := 0) hK (zP_reg hP 8 rfl) rfl rfl) (z_prem hK (zP_reg hP 8 rfl) (zD_one hD 8 _ rfl)) rfl hl.1 (Nat.le_of_ble_eq_true rfl) (z_d hX5_putIn_0 43 rfl) ⟨Nat.zero_le _, Nat.zero_le _⟩) hS hP hD 8 rfl rfl rfl (fun H locs hP hD hS => ?_)
    refine W.eq (g2 := F0 m 81 ls []) rfl ?_
    refine lv_aload_n hx hb (z_d hX5_putIn_0 44 rfl) rfl (lv_at hl 0 rfl) ?_
    refine lv_dup hx hb (z_d hX5_putIn_0 45 rfl) rfl ?_
    refine va_get (D := Z.1) (ci := 5) (v := .int S.1) (C := RX5) (T := TX5) (N := 10) hx hb hts zinX5 hown hK.1 (zP_reg hP 0 rfl) 0 rfl rfl 0 (by decide) (hts _ k_f_X5_9) (fun _ h9 => h9) rfl (z_d hX5_putIn_0 46 rfl) ?_
    refine lv_iconst (v := 1) hx hb (z_d hX5_putIn_0 47 rfl) (by decide) ?_
    refine lv_iadd hx hb (z_d hX5_putIn_0 48 rfl) ?_
    refine z_let hF (fun u10 hu10 hF => ?_)
    refine lv_topE hu10 ?_
    refine z_put (Z := Z) (ci := 5) (v := .int u10) (ty := .int) (L := l_Script Z.2.1 As S.1 S.2.1 q2 q3 q4 q5 q6 q7 q8 q9) (L' := l_Script Z.2.1 As u10 S.2.1 q2 q3 q4 q5 q6 q7 q8 q9) (C := RX5) (T := TX5) (N := 10) hx hb hts zinX5 tyX5 tyX5_ok nmX5 hown hK hP hD hS 0 rfl rfl 0 (by decide) (hts _ k_f_X5_9) (fun _ h9 => h9) rfl (tyX5_ok 0 (by decide)) rfl rfl (Nat.le_of_ble_eq_true rfl) rfl (z_d hX5_putIn_0 49 rfl) (fun H locs hP hD hS => ?_)
    obtain rfl := hF
    subst hQ
    subst hA
    exact W.vret hx hb hr (fun t ht hW => zq_mu (by rw [ht]; exact hP) (hS.F ht)) hS.2.2 (z_d hX5_putIn_0 50 rfl)
  · have hF := z_neg hc4 hF
    obtain rfl := hF
    subst hQ
    subst hA
    exact W.vret hx hb hr (fun t ht hW => zq_mu (by rw [ht]; exact hP) (hS.F ht)) hS.2.2 (z_d hX5_putIn_0 3 rfl)
def rm_X5_takeOut : Room := { frames := 2, cells := 0, slots := 0, locals := 42 }
set_option maxRecDepth 100000 in
set_option maxHeartbeats 4000000 in
theorem c_X5_takeOut (l : Launch) (Z : zZ) (As : Nat → Nat) (S : t_Script) (p1 : Int32) (R : t_Script) (hF : X5_takeOut S p1 = some R) : zMU l yX5_takeOut (zw yX5_takeOut cX5_takeOut 3 none) rm_X5_takeOut Z [.ref (As 0), .int p1] (w_Script Z.2.1 As S) (w_Script Z.2.1 As R) none := by
  refine zMU_of (by decide) (Nat.le_of_ble_eq_true rfl) (fun p e s m below meth c hx hb hr hml hown hts hlocks hK A hA Q hQ ls hl hP hD hS => ?_)
  unfold X5_takeOut at hF
  have hl : lv_has ls 3 [(0, .ref (As 0)), (1, .int p1)] := hl
  have hown : s.vm.findClass RX5 = some m.cls := hown
  have hP : va_P Z.1 vwCl (l_Script Z.2.1 As S.1 S.2.1 S.2.2.1 S.2.2.2.1 S.2.2.2.2.1 S.2.2.2.2.2.1 S.2.2.2.2.2.2.1 S.2.2.2.2.2.2.2.1 S.2.2.2.2.2.2.2.2.1 S.2.2.2.2.2.2.2.2.2).flatten s.heap := hP
  have hD : va_D A (l_Script Z.2.1 As S.1 S.2.1 S.2.2.1 S.2.2.2.1 S.2.2.2.2.1 S.2.2.2.2.2.1 S.2.2.2.2.2.2.1 S.2.2.2.2.2.2.2.1 S.2.2.2.2.2.2.2.2.1 S.2.2.2.2.2.2.2.2.2).flatten := hD
  refine lv_aload_n hx hb (z_d hX5_takeOut_0 0 rfl) rfl (lv_at hl 0 rfl) ?_
  refine lv_iload_n hx hb (z_d hX5_takeOut_0 1 rfl) rfl (lv_at hl 1 rfl) ?_
  refine z_let hF (fun q1 hq1 hF => ?_)
  refine z_ro_i (z_rV (As := [.int p1]) (rest := []) hx hb hml hown hts vt_X5_has (c_X5_has l Z As S p1 _ hq1) rfl rfl ⟨Nat.le_of_ble_eq_true rfl, Nat.le_of_ble_eq_true rfl⟩ k_m_X5_68 zPro_blind (z_recv (q := (RX5, TX5, 10)) (ci := 5) (q0 := 0) hK (zP_reg hP 0 rfl) rfl rfl) (z_prec hK hP) rfl hl.1 (Nat.le_of_ble_eq_true rfl) (z_d hX5_takeOut_0 2 rfl) ⟨Nat.zero_le _, Nat.zero_le _⟩) hS hP (fun H locs hP hS => ?_)
  refine lv_if_ne (tgt := 9) hx hb (z_d hX5_takeOut_0 3 rfl) (by decide) (fun hc5 => ?_) (fun hc5 => ?_)
  · have hF := z_neg hc5 hF
    refine lv_aload_n hx hb (z_d hX5_takeOut_0 5 rfl) rfl (lv_at hl 0 rfl) ?_
    refine va_get (D := Z.1) (ci := 5) (v := .ref (As 7)) (C := RX5) (T := TX5) (N := 10) hx hb hts zinX5 hown hK.1 (zP_reg hP 0 rfl) 0 rfl rfl 5 (by decide) (hts _ k_f_X5_33) (fun _ h9 => h9) rfl (z_d hX5_takeOut_0 6 rfl) ?_
    refine lv_iload_n hx hb (z_d hX5_takeOut_0 7 rfl) rfl (lv_at hl 1 rfl) ?_
    refine z_let hF (fun q2 hq2 hF => ?_)
    refine z_ro_i (z_rV (As := [.int p1]) (rest := []) hx hb hml hown hts vt_X3_at (c_rAt l Z 60 (As 7) (As 8) (by decide) S.2.2.2.2.2.1 p1 _ hq2) rfl rfl ⟨Nat.le_of_ble_eq_true rfl, Nat.le_of_ble_eq_true rfl⟩ k_m_X5_52 zPro_blind (z_recv (q := (RX3, TX3, 1)) (ci := 3) (q0 := 0) hK (zP_reg hP 4 rfl) rfl rfl) (z_prec hK (zP_reg hP 4 rfl)) rfl hl.1 (Nat.le_of_ble_eq_true rfl) (z_d hX5_takeOut_0 8 rfl) ⟨Nat.zero_le _, Nat.zero_le _⟩) hS hP (fun H locs hP hS => ?_)
    refine lv_istore_n (lv' := [(2, .int q2), (0, .ref (As 0)), (1, .int p1)]) hx hb (z_d hX5_takeOut_0 9 rfl) rfl hl (by decide) rfl (fun ls hl => ?_)
    refine lv_aload_n hx hb (z_d hX5_takeOut_0 10 rfl) rfl (lv_at hl 1 rfl) ?_
    refine va_get (D := Z.1) (ci := 5) (v := .ref (As 1)) (C := RX5) (T := TX5) (N := 10) hx hb hts zinX5 hown hK.1 (zP_reg hP 0 rfl) 0 rfl rfl 2 (by decide) (hts _ k_f_X5_23) (fun _ h9 => h9) rfl (z_d hX5_takeOut_0 11 rfl) ?_
    refine lv_iload_n hx hb (z_d hX5_takeOut_0 12 rfl) rfl (lv_at hl 2 rfl) ?_
    refine z_bnd hF (fun q3 hq3 hF => ?_)
    refine z_mu1 (L := l_Script Z.2.1 As S.1 S.2.1 S.2.2.1 S.2.2.2.1 S.2.2.2.2.1 S.2.2.2.2.2.1 S.2.2.2.2.2.2.1 S.2.2.2.2.2.2.2.1 S.2.2.2.2.2.2.2.2.1 S.2.2.2.2.2.2.2.2.2) (L' := l_Script Z.2.1 As S.1 S.2.1 q3 S.2.2.2.1 S.2.2.2.2.1 S.2.2.2.2.2.1 S.2.2.2.2.2.2.1 S.2.2.2.2.2.2.2.1 S.2.2.2.2.2.2.2.2.1 S.2.2.2.2.2.2.2.2.2) (z_rV (As := [.int p1]) (rest := []) hx hb hml hown hts vt_X3_closeAt (c_X3_closeAt l Z 60 (As 1) (As 2) S.2.2.1 p1 _ hq3) rfl rfl ⟨Nat.le_of_ble_eq_true rfl, Nat.le_of_ble_eq_true rfl⟩ k_m_X5_71 zPmu_blind (z_recv (q := (RX3, TX3, 1)) (ci := 3) (q0 := 0) hK (zP_reg hP 1 rfl) rfl rfl) (z_prem hK (zP_reg hP 1 rfl) (zD_one hD 1 _ rfl)) rfl hl.1 (Nat.le_of_ble_eq_true rfl) (z_d hX5_takeOut_0 13 rfl) ⟨Nat.zero_le _, Nat.zero_le _⟩) hS hP hD 1 rfl rfl rfl (fun H locs hP hD hS => ?_)
    refine W.eq (g2 := F0 m 26 ls []) rfl ?_
    refine lv_aload_n hx hb (z_d hX5_takeOut_0 14 rfl) rfl (lv_at hl 1 rfl) ?_
    refine va_get (D := Z.1) (ci := 5) (v := .ref (As 3)) (C := RX5) (T := TX5) (N := 10) hx hb hts zinX5 hown hK.1 (zP_reg hP 0 rfl) 0 rfl rfl 3 (by decide) (hts _ k_f_X5_27) (fun _ h9 => h9) rfl (z_d hX5_takeOut_0 15 rfl) ?_
    refine lv_iload_n hx hb (z_d hX5_takeOut_0 16 rfl) rfl (lv_at hl 2 rfl) ?_
    refine z_bnd hF (fun q4 hq4 hF => ?_)
    refine z_mu1 (L := l_Script Z.2.1 As S.1 S.2.1 q3 S.2.2.2.1 S.2.2.2.2.1 S.2.2.2.2.2.1 S.2.2.2.2.2.2.1 S.2.2.2.2.2.2.2.1 S.2.2.2.2.2.2.2.2.1 S.2.2.2.2.2.2.2.2.2) (L' := l_Script Z.2.1 As S.1 S.2.1 q3 q4 S.2.2.2.2.1 S.2.2.2.2.2.1 S.2.2.2.2.2.2.1 S.2.2.2.2.2.2.2.1 S.2.2.2.2.2.2.2.2.1 S.2.2.2.2.2.2.2.2.2) (z_rV (As := [.int p1]) (rest := []) hx hb hml hown hts vt_X3_closeAt (c_X3_closeAt l Z 60 (As 3) (As 4) S.2.2.2.1 p1 _ hq4) rfl rfl ⟨Nat.le_of_ble_eq_true rfl, Nat.le_of_ble_eq_true rfl⟩ k_m_X5_71 zPmu_blind (z_recv (q := (RX3, TX3, 1)) (ci := 3) (q0 := 0) hK (zP_reg hP 2 rfl) rfl rfl) (z_prem hK (zP_reg hP 2 rfl) (zD_one hD 2 _ rfl)) rfl hl.1 (Nat.le_of_ble_eq_true rfl) (z_d hX5_takeOut_0 17 rfl) ⟨Nat.zero_le _, Nat.zero_le _⟩) hS hP hD 2 rfl rfl rfl (fun H locs hP hD hS => ?_)
    refine W.eq (g2 := F0 m 34 ls []) rfl ?_
    refine lv_aload_n hx hb (z_d hX5_takeOut_0 18 rfl) rfl (lv_at hl 1 rfl) ?_
    refine va_get (D := Z.1) (ci := 5) (v := .ref (As 5)) (C := RX5) (T := TX5) (N := 10) hx hb hts zinX5 hown hK.1 (zP_reg hP 0 rfl) 0 rfl rfl 4 (by decide) (hts _ k_f_X5_30) (fun _ h9 => h9) rfl (z_d hX5_takeOut_0 19 rfl) ?_
    refine lv_iload_n hx hb (z_d hX5_takeOut_0 20 rfl) rfl (lv_at hl 2 rfl) ?_
    refine z_bnd hF (fun q5 hq5 hF => ?_)
    refine z_mu1 (L := l_Script Z.2.1 As S.1 S.2.1 q3 q4 S.2.2.2.2.1 S.2.2.2.2.2.1 S.2.2.2.2.2.2.1 S.2.2.2.2.2.2.2.1 S.2.2.2.2.2.2.2.2.1 S.2.2.2.2.2.2.2.2.2) (L' := l_Script Z.2.1 As S.1 S.2.1 q3 q4 q5 S.2.2.2.2.2.1 S.2.2.2.2.2.2.1 S.2.2.2.2.2.2.2.1 S.2.2.2.2.2.2.2.2.1 S.2.2.2.2.2.2.2.2.2) (z_rV (As := [.int p1]) (rest := []) hx hb hml hown hts vt_X3_closeAt (c_X3_closeAt l Z 60 (As 5) (As 6) S.2.2.2.2.1 p1 _ hq5) rfl rfl ⟨Nat.le_of_ble_eq_true rfl, Nat.le_of_ble_eq_true rfl⟩ k_m_X5_71 zPmu_blind (z_recv (q := (RX3, TX3, 1)) (ci := 3) (q0 := 0) hK (zP_reg hP 3 rfl) rfl rfl) (z_prem hK (zP_reg hP 3 rfl) (zD_one hD 3 _ rfl)) rfl hl.1 (Nat.le_of_ble_eq_true rfl) (z_d hX5_takeOut_0 21 rfl) ⟨Nat.zero_le _, Nat.zero_le _⟩) hS hP hD 3 rfl rfl rfl (fun H locs hP hD hS => ?_)
    refine W.eq (g2 := F0 m 42 ls []) rfl ?_
    refine lv_aload_n hx hb (z_d hX5_takeOut_0 22 rfl) rfl (lv_at hl 1 rfl) ?_
    refine va_get (D := Z.1) (ci := 5) (v := .ref (As 7)) (C := RX5) (T := TX5) (N := 10) hx hb hts zinX5 hown hK.1 (zP_reg hP 0 rfl) 0 rfl rfl 5 (by decide) (hts _ k_f_X5_33) (fun _ h9 => h9) rfl (z_d hX5_takeOut_0 23 rfl) ?_
    refine lv_iload_n hx hb (z_d hX5_takeOut_0 24 rfl) rfl (lv_at hl 2 rfl) ?_
    refine z_bnd hF (fun q6 hq6 hF => ?_)
    refine z_mu1 (L := l_Script Z.2.1 As S.1 S.2.1 q3 q4 q5 S.2.2.2.2.2.1 S.2.2.2.2.2.2.1 S.2.2.2.2.2.2.2.1 S.2.2.2.2.2.2.2.2.1 S.2.2.2.2.2.2.2.2.2) (L' := l_Script Z.2.1 As S.1 S.2.1 q3 q4 q5 q6 S.2.2.2.2.2.2.1 S.2.2.2.2.2.2.2.1 S.2.2.2.2.2.2.2.2.1 S.2.2.2.2.2.2.2.2.2) (z_rV (As := [.int p1]) (rest := []) hx hb hml hown hts vt_X3_closeAt (c_X3_closeAt l Z 60 (As 7) (As 8) S.2.2.2.2.2.1 p1 _ hq6) rfl rfl ⟨Nat.le_of_ble_eq_true rfl, Nat.le_of_ble_eq_true rfl⟩ k_m_X5_71 zPmu_blind (z_recv (q := (RX3, TX3, 1)) (ci := 3) (q0 := 0) hK (zP_reg hP 4 rfl) rfl rfl) (z_prem hK (zP_reg hP 4 rfl) (zD_one hD 4 _ rfl)) rfl hl.1 (Nat.le_of_ble_eq_true rfl) (z_d hX5_takeOut_0 25 rfl) ⟨Nat.zero_le _, Nat.zero_le _⟩) hS hP hD 4 rfl rfl rfl (fun H locs hP hD hS => ?_)
    refine W.eq (g2 := F0 m 50 ls []) rfl ?_
    refine lv_aload_n hx hb (z_d hX5_takeOut_0 26 rfl) rfl (lv_at hl 1 rfl) ?_
    refine va_get (D := Z.1) (ci := 5) (v := .ref (As 9)) (C := RX5) (T := TX5) (N := 10) hx hb hts zinX5 hown hK.1 (zP_reg hP 0 rfl) 0 rfl rfl 6 (by decide) (hts _ k_f_X5_36) (fun _ h9 => h9) rfl (z_d hX5_takeOut_0 27 rfl) ?_
    refine lv_iload_n hx hb (z_d hX5_takeOut_0 28 rfl) rfl (lv_at hl 2 rfl) ?_
    refine z_bnd hF (fun q7 hq7 hF => ?_)
    refine z_mu1 (L := l_Script Z.2.1 As S.1 S.2.1 q3 q4 q5 q6 S.2.2.2.2.2.2.1 S.2.2.2.2.2.2.2.1 S.2.2.2.2.2.2.2.2.1 S.2.2.2.2.2.2.2.2.2) (L' := l_Script Z.2.1 As S.1 S.2.1 q3 q4 q5 q6 q7 S.2.2.2.2.2.2.2.1 S.2.2.2.2.2.2.2.2.1 S.2.2.2.2.2.2.2.2.2) (z_rV (As := [.int p1]) (rest := []) hx hb hml hown hts vt_X3_closeAt (c_X3_closeAt l Z 60 (As 9) (As 10) S.2.2.2.2.2.2.1 p1 _ hq7) rfl rfl ⟨Nat.le_of_ble_eq_true rfl, Nat.le_of_ble_eq_true rfl⟩ k_m_X5_71 zPmu_blind (z_recv (q := (RX3, TX3, 1)) (ci := 3) (q0 := 0) hK (zP_reg hP 5 rfl) rfl rfl) (z_prem hK (zP_reg hP 5 rfl) (zD_one hD 5 _ rfl)) rfl hl.1 (Nat.le_of_ble_eq_true rfl) (z_d hX5_takeOut_0 29 rfl) ⟨Nat.zero_le _, Nat.zero_le _⟩) hS hP hD 5 rfl rfl rfl (fun H locs hP hD hS => ?_)
    refine W.eq (g2 := F0 m 58 ls []) rfl ?_
    refine lv_aload_n hx hb (z_d hX5_takeOut_0 30 rfl) rfl (lv_at hl 1 rfl) ?_
    refine va_get (D := Z.1) (ci := 5) (v := .ref (As 11)) (C := RX5) (T := TX5) (N := 10) hx hb hts zinX5 hown hK.1 (zP_reg hP 0 rfl) 0 rfl rfl 7 (by decide) (hts _ k_f_X5_39) (fun _ h9 => h9) rfl (z_d hX5_takeOut_0 31 rfl) ?_
    refine lv_iload_n hx hb (z_d hX5_takeOut_0 32 rfl) rfl (lv_at hl 2 rfl) ?_
    refine z_bnd hF (fun q8 hq8 hF => ?_)
    refine z_mu1 (L := l_Script Z.2.1 As S.1 S.2.1 q3 q4 q5 q6 q7 S.2.2.2.2.2.2.2.1 S.2.2.2.2.2.2.2.2.1 S.2.2.2.2.2.2.2.2.2) (L' := l_Script Z.2.1 As S.1 S.2.1 q3 q4 q5 q6 q7 q8 S.2.2.2.2.2.2.2.2.1 S.2.2.2.2.2.2.2.2.2) (z_rV (As := [.int p1]) (rest := []) hx hb hml hown hts vt_X3_closeAt (c_X3_closeAt l Z 60 (As 11) (As 12) S.2.2.2.2.2.2.2.1 p1 _ hq8) rfl rfl ⟨Nat.le_of_ble_eq_true rfl, Nat.le_of_ble_eq_true rfl⟩ k_m_X5_71 zPmu_blind (z_recv (q := (RX3, TX3, 1)) (ci := 3) (q0 := 0) hK (zP_reg hP 6 rfl) rfl rfl) (z_prem hK (zP_reg hP 6 rfl) (zD_one hD 6 _ rfl)) rfl hl.1 (Nat.le_of_ble_eq_true rfl) (z_d hX5_takeOut_0 33 rfl) ⟨Nat.zero_le _, Nat.zero_le _⟩) hS hP hD 6 rfl rfl rfl (fun H locs hP hD hS => ?_)
    refine W.eq (g2 := F0 m 66 ls []) rfl ?_
    refine lv_aload_n hx hb (z_d hX5_takeOut_0 34 rfl) rfl (lv_at hl 1 rfl) ?_
    refine va_get (D := Z.1) (ci := 5) (v := .ref (As 13)) (C := RX5) (T := TX5) (N := 10) hx hb hts zinX5 hown hK.1 (zP_reg hP 0 rfl) 0 rfl rfl 8 (by decide) (hts _ k_f_X5_42) (fun _ h9 => h9) rfl (z_d hX5_takeOut_0 35 rfl) ?_
    refine lv_iload_n hx hb (z_d hX5_takeOut_0 36 rfl) rfl (lv_at hl 2 rfl) ?_
    refine z_bnd hF (fun q9 hq9 hF => ?_)
    refine z_mu1 (L := l_Script Z.2.1 As S.1 S.2.1 q3 q4 q5 q6 q7 q8 S.2.2.2.2.2.2.2.2.1 S.2.2.2.2.2.2.2.2.2) (L' := l_Script Z.2.1 As S.1 S.2.1 q3 q4 q5 q6 q7 q8 q9 S.2.2.2.2.2.2.2.2.2) (z_rV (As := [.int p1]) (rest := []) hx hb hml hown hts vt_X3_closeAt (c_X3_closeAt l Z 60 (As 13) (As 14) S.2.2.2.2.2.2.2.2.1 p1 _ hq9) rfl rfl ⟨Nat.le_of_ble_eq_true rfl, Nat.le_of_ble_eq_true rfl⟩ k_m_X5_71 zPmu_blind (z_recv (q := (RX3, TX3, 1)) (ci := 3) (q0 := 0) hK (zP_reg hP 7 rfl) rfl rfl) (z_prem hK (zP_reg hP 7 rfl) (zD_one hD 7 _ rfl)) rfl hl.1 (Nat.le_of_ble_eq_true rfl) (z_d hX5_takeOut_0 37 rfl) ⟨Nat.zero_le _, Nat.zero_le _⟩) hS hP hD 7 rfl rfl rfl (fun H locs hP hD hS => ?_)
    refine W.eq (g2 := F0 m 74 ls []) rfl ?_
    refine lv_aload_n hx hb (z_d hX5_takeOut_0 38 rfl) rfl (lv_at hl 1 rfl) ?_
    refine va_get (D := Z.1) (ci := 5) (v := .ref (As 15)) (C := RX5) (T := TX5) (N := 10) hx hb hts zinX5 hown hK.1 (zP_reg hP 0 rfl) 0 rfl rfl 9 (by decide) (hts _ k_f_X5_45) (fun _ h9 => h9) rfl (z_d hX5_takeOut_0 39 rfl) ?_
    refine lv_iload_n hx hb (z_d hX5_takeOut_0 40 rfl) rfl (lv_at hl 2 rfl) ?_
    refine z_bnd hF (fun q10 hq10 hF => ?_)
    refine z_mu1 (L := l_Script Z.2.1 As S.1 S.2.1 q3 q4 q5 q6 q7 q8 q9 S.2.2.2.2.2.2.2.2.2) (L' := l_Script Z.2.1 As S.1 S.2.1 q3 q4 q5 q6 q7 q8 q9 q10) (z_rV (As := [.int p1]) (rest := []) hx hb hml hown hts vt_X3_closeAt (c_X3_closeAt l Z 60 (As 15) (As 16) S.2.2.2.2.2.2.2.2.2 p1 _ hq10) rfl rfl ⟨Nat.le_of_ble_eq_true rfl, Nat.le_of_ble_eq_true rfl⟩ k_m_X5_71 zPmu_blind (z_recv (q := (RX3, TX3, 1)) (ci := 3) (q0 := 0) hK (zP_reg hP 8 rfl) rfl rfl) (z_prem hK (zP_reg hP 8 rfl) (zD_one hD 8 _ rfl)) rfl hl.1 (Nat.le_of_ble_eq_true rfl) (z_d hX5_takeOut_0 41 rfl) ⟨Nat.zero_le _, Nat.zero_le _⟩) hS hP hD 8 rfl rfl rfl (fun H locs hP hD hS => ?_)
    refine W.eq (g2 := F0 m 82 ls []) rfl ?_
    refine lv_aload_n hx hb (z_d hX5_takeOut_0 42 rfl) rfl (lv_at hl 1 rfl) ?_
    refine lv_dup hx hb (z_d hX5_takeOut_0 43 rfl) rfl ?_
    refine va_get (D := Z.1) (ci := 5) (v := .int S.1) (C := RX5) (T := TX5) (N := 10) hx hb hts zinX5 hown hK.1 (zP_reg hP 0 rfl) 0 rfl rfl 0 (by decide) (hts _ k_f_X5_9) (fun _ h9 => h9) rfl (z_d hX5_takeOut_0 44 rfl) ?_
    refine lv_iconst (v := 1) hx hb (z_d hX5_takeOut_0 45 rfl) (by decide) ?_
    refine lv_isub hx hb (z_d hX5_takeOut_0 46 rfl) ?_
    refine z_let hF (fun u11 hu11 hF => ?_)
    refine lv_topE hu11 ?_
    refine z_put (Z := Z) (ci := 5) (v := .int u11) (ty := .int) (L := l_Script Z.2.1 As S.1 S.2.1 q3 q4 q5 q6 q7 q8 q9 q10) (L' := l_Script Z.2.1 As u11 S.2.1 q3 q4 q5 q6 q7 q8 q9 q10) (C := RX5) (T := TX5) (N := 10) hx hb hts zinX5 tyX5 tyX5_ok nmX5 hown hK hP hD hS 0 rfl rfl 0 (by decide) (hts _ k_f_X5_9) (fun _ h9 => h9) rfl (tyX5_ok 0 (by decide)) rfl rfl (Nat.le_of_ble_eq_true rfl) rfl (z_d hX5_takeOut_0 47 rfl) (fun H locs hP hD hS => ?_)
    refine lv_aload_n hx hb (z_d hX5_takeOut_0 48 rfl) rfl (lv_at hl 1 rfl) ?_
    refine lv_iload_n hx hb (z_d hX5_takeOut_0 49 rfl) rfl (lv_at hl 2 rfl) ?_
    refine z_let hF (fun q12 hq12 hF => ?_)
    refine z_ro_i (z_rV (As := [.int p1]) (rest := []) hx hb hml hown hts vt_X5_has (c_X5_has l Z As (u11, S.2.1, q3, q4, q5, q6, q7, q8, q9, q10) p1 _ hq12) rfl rfl ⟨Nat.le_of_ble_eq_true rfl, Nat.le_of_ble_eq_true rfl⟩ k_m_X5_68 zPro_blind (z_recv (q := (RX5, TX5, 10)) (ci := 5) (q0 := 0) hK (zP_reg hP 0 rfl) rfl rfl) (z_prec hK hP) rfl hl.1 (Nat.le_of_ble_eq_true rfl) (z_d hX5_takeOut_0 50 rfl) ⟨Nat.zero_le _, Nat.zero_le _⟩) hS hP (fun H locs hP hS => ?_)
    refine lv_if_eq (tgt := 121) hx hb (z_d hX5_takeOut_0 51 rfl) (by decide) (fun hc97 => ?_) (fun hc97 => ?_)
    · have hF := z_pos hc97 hF
      obtain rfl := Option.some.inj hF
      subst hQ
      subst hA
      exact W.vret hx hb hr (fun t ht hW => zq_mu (by rw [ht]; exact hP) (hS.F ht)) hS.2.2 (z_d hX5_takeOut_1 3 rfl)
    · have hF := z_neg hc97 hF
      refine lv_aload_n hx hb (z_d hX5_takeOut_0 52 rfl) rfl (lv_at hl 1 rfl) ?_
      refine va_get (D := Z.1) (ci := 5) (v := .ref (As 7)) (C := RX5) (T := TX5) (N := 10) hx hb hts zinX5 hown hK.1 (zP_reg hP 0 rfl) 0 rfl rfl 5 (by decide) (hts _ k_f_X5_33) (fun _ h9 => h9) rfl (z_d hX5_takeOut_0 53 rfl) ?_
      refine lv_iload_n hx hb (z_d hX5_takeOut_0 54 rfl) rfl (lv_at hl 2 rfl) ?_
      refine z_let hF (fun q13 hq13 hF => ?_)
      refine z_ro_i (z_rV (As := [.int p1]) (rest := []) hx hb hml hown hts vt_X3_at (c_rAt l Z 60 (As 7) (As 8) (by decide) q6 p1 _ hq13) rfl rfl ⟨Nat.le_of_ble_eq_true rfl, Nat.le_of_ble_eq_true rfl⟩ k_m_X5_52 zPro_blind (z_recv (q := (RX3, TX3, 1)) (ci := 3) (q0 := 0) hK (zP_reg hP 4 rfl) rfl rfl) (z_prec hK (zP_reg hP 4 rfl)) rfl hl.1 (Nat.le_of_ble_eq_true rfl) (z_d hX5_takeOut_0 55 rfl) ⟨Nat.zero_le _, Nat.zero_le _⟩) hS hP (fun H locs hP hS => ?_)
      refine lv_iconst (v := (-1)) hx hb (z_d hX5_takeOut_0 56 rfl) (by decide) ?_
      refine lv_icmp_ne (tgt := 121) hx hb (z_d hX5_takeOut_0 57 rfl) (by decide) (fun hc109 => ?_) (fun hc109 => ?_)
      · have hF := z_neg hc109 hF
        obtain rfl := Option.some.inj hF
        subst hQ
        subst hA
        exact W.vret hx hb hr (fun t ht hW => zq_mu (by rw [ht]; exact hP) (hS.F ht)) hS.2.2 (z_d hX5_takeOut_1 3 rfl)
      · have hF := z_pos hc109 hF
        refine lv_aload_n hx hb (z_d hX5_takeOut_0 58 rfl) rfl (lv_at hl 1 rfl) ?_
        refine va_get (D := Z.1) (ci := 5) (v := .ref (As 7)) (C := RX5) (T := TX5) (N := 10) hx hb hts zinX5 hown hK.1 (zP_reg hP 0 rfl) 0 rfl rfl 5 (by decide) (hts _ k_f_X5_33) (fun _ h9 => h9) rfl (z_d hX5_takeOut_0 59 rfl) ?_
        refine lv_iload_n hx hb (z_d hX5_takeOut_1 0 rfl) rfl (lv_at hl 2 rfl) ?_
        refine lv_iload_n hx hb (z_d hX5_takeOut_1 1 rfl) rfl (lv_at hl 0 rfl) ?_
        refine z_let hF (fun q14 hq14 hF => ?_)
        refine z_mu1 (L := l_Script Z.2.1 As u11 S.2.1 q3 q4 q5 q6 q7 q8 q9 q10) (L' := l_Script Z.2.1 As u11 S.2.1 q3 q4 q5 q14 q7 q8 q9 q10) (z_rV (As := [.int p1, .int q2]) (rest := []) hx hb hml hown hts vt_X3_put (c_rPut l Z 60 (As 7) (As 8) (by decide) q6 p1 q2 _ hq14) rfl rfl ⟨Nat.le_of_ble_eq_true rfl, Nat.le_of_ble_eq_true rfl⟩ k_m_X5_74 zPmu_blind (z_recv (q := (RX3, TX3, 1)) (ci := 3) (q0 := 0) hK (zP_reg hP 4 rfl) rfl rfl) (z_prem hK (zP_reg hP 4 rfl) (zD_one hD 4 _ rfl)) rfl hl.1 (Nat.le_of_ble_eq_true rfl) (z_d hX5_takeOut_1 2 rfl) ⟨Nat.zero_le _, Nat.zero_le _⟩) hS hP hD 4 rfl rfl rfl (fun H locs hP hD hS => ?_)
        refine W.eq (g2 := F0 m 121 ls []) rfl ?_
        obtain rfl := Option.some.inj hF
        subst hQ
        subst hA
        exact W.vret hx hb hr (fun t ht hW => zq_mu (by rw [ht]; exact hP) (hS.F ht)) hS.2.2 (z_d hX5_takeOut_1 3 rfl)
  · have hF := z_pos hc5 hF
    obtain rfl := Option.some.inj hF
    subst hQ
    subst hA
    exact W.vret hx hb hr (fun t ht hW => zq_mu (by rw [ht]; exact hP) (hS.F ht)) hS.2.2 (z_d hX5_takeOut_0 4 rfl)
def rm_X5_lock : Room := { frames := 1, cells := 0, slots := 0, locals := 22 }
set_option maxRecDepth 100000 in
set_option maxHeartbeats 4000000 in
theorem c_X5_lock (l : Launch) (Z : zZ) (As : Nat → Nat) (S : t_Script) (p1 : Int32) (p2 : Int32) (p3 : Int32) (p4 : Int32) (R : t_Script) (hF : X5_lock S p1 p2 p3 p4 = R) : zMU l yX5_lock (zw yX5_lock cX5_lock 5 none) rm_X5_lock Z [.ref (As 0), .int p1, .int p2, .int p3, .int p4] (w_Script Z.2.1 As S) (w_Script Z.2.1 As R) none := by
  refine zMU_of (by decide) (Nat.le_of_ble_eq_true rfl) (fun p e s m below meth c hx hb hr hml hown hts hlocks hK A hA Q hQ ls hl hP hD hS => ?_)
  unfold X5_lock at hF
  have hl : lv_has ls 5 [(0, .ref (As 0)), (1, .int p1), (2, .int p2), (3, .int p3), (4, .int p4)] := hl
  have hown : s.vm.findClass RX5 = some m.cls := hown
  have hP : va_P Z.1 vwCl (l_Script Z.2.1 As S.1 S.2.1 S.2.2.1 S.2.2.2.1 S.2.2.2.2.1 S.2.2.2.2.2.1 S.2.2.2.2.2.2.1 S.2.2.2.2.2.2.2.1 S.2.2.2.2.2.2.2.2.1 S.2.2.2.2.2.2.2.2.2).flatten s.heap := hP
  have hD : va_D A (l_Script Z.2.1 As S.1 S.2.1 S.2.2.1 S.2.2.2.1 S.2.2.2.2.1 S.2.2.2.2.2.1 S.2.2.2.2.2.2.1 S.2.2.2.2.2.2.2.1 S.2.2.2.2.2.2.2.2.1 S.2.2.2.2.2.2.2.2.2).flatten := hD
  refine lv_aload_n hx hb (z_d hX5_lock_0 0 rfl) rfl (lv_at hl 0 rfl) ?_
  refine va_get (D := Z.1) (ci := 5) (v := .ref (As 9)) (C := RX5) (T := TX5) (N := 10) hx hb hts zinX5 hown hK.1 (zP_reg hP 0 rfl) 0 rfl rfl 6 (by decide) (hts _ k_f_X5_36) (fun _ h9 => h9) rfl (z_d hX5_lock_0 1 rfl) ?_
  refine lv_iload_n hx hb (z_d hX5_lock_0 2 rfl) rfl (lv_at hl 1 rfl) ?_
  refine lv_iconst (v := 1) hx hb (z_d hX5_lock_0 3 rfl) (by decide) ?_
  refine z_let hF (fun q1 hq1 hF => ?_)
  refine z_mu1 (L := l_Script Z.2.1 As S.1 S.2.1 S.2.2.1 S.2.2.2.1 S.2.2.2.2.1 S.2.2.2.2.2.1 S.2.2.2.2.2.2.1 S.2.2.2.2.2.2.2.1 S.2.2.2.2.2.2.2.2.1 S.2.2.2.2.2.2.2.2.2) (L' := l_Script Z.2.1 As S.1 S.2.1 S.2.2.1 S.2.2.2.1 S.2.2.2.2.1 S.2.2.2.2.2.1 q1 S.2.2.2.2.2.2.2.1 S.2.2.2.2.2.2.2.2.1 S.2.2.2.2.2.2.2.2.2) (z_rV (As := [.int p1, .int 1]) (rest := []) hx hb hml hown hts vt_X3_put (c_rPut l Z 60 (As 9) (As 10) (by decide) S.2.2.2.2.2.2.1 p1 1 _ hq1) rfl rfl ⟨Nat.le_of_ble_eq_true rfl, Nat.le_of_ble_eq_true rfl⟩ k_m_X5_74 zPmu_blind (z_recv (q := (RX3, TX3, 1)) (ci := 3) (q0 := 0) hK (zP_reg hP 5 rfl) rfl rfl) (z_prem hK (zP_reg hP 5 rfl) (zD_one hD 5 _ rfl)) rfl hl.1 (Nat.le_of_ble_eq_true rfl) (z_d hX5_lock_0 4 rfl) ⟨Nat.zero_le _, Nat.zero_le _⟩) hS hP hD 5 rfl rfl rfl (fun H locs hP hD hS => ?_)
  refine W.eq (g2 := F0 m 9 ls []) rfl ?_
  refine lv_aload_n hx hb (z_d hX5_lock_0 5 rfl) rfl (lv_at hl 0 rfl) ?_
  refine va_get (D := Z.1) (ci := 5) (v := .ref (As 11)) (C := RX5) (T := TX5) (N := 10) hx hb hts zinX5 hown hK.1 (zP_reg hP 0 rfl) 0 rfl rfl 7 (by decide) (hts _ k_f_X5_39) (fun _ h9 => h9) rfl (z_d hX5_lock_0 6 rfl) ?_
  refine lv_iload_n hx hb (z_d hX5_lock_0 7 rfl) rfl (lv_at hl 1 rfl) ?_
  refine lv_iload_n hx hb (z_d hX5_lock_0 8 rfl) rfl (lv_at hl 2 rfl) ?_
  refine z_let hF (fun q2 hq2 hF => ?_)
  refine z_mu1 (L := l_Script Z.2.1 As S.1 S.2.1 S.2.2.1 S.2.2.2.1 S.2.2.2.2.1 S.2.2.2.2.2.1 q1 S.2.2.2.2.2.2.2.1 S.2.2.2.2.2.2.2.2.1 S.2.2.2.2.2.2.2.2.2) (L' := l_Script Z.2.1 As S.1 S.2.1 S.2.2.1 S.2.2.2.1 S.2.2.2.2.1 S.2.2.2.2.2.1 q1 q2 S.2.2.2.2.2.2.2.2.1 S.2.2.2.2.2.2.2.2.2) (z_rV (As := [.int p1, .int p2]) (rest := []) hx hb hml hown hts vt_X3_put (c_rPut l Z 60 (As 11) (As 12) (by decide) S.2.2.2.2.2.2.2.1 p1 p2 _ hq2) rfl rfl ⟨Nat.le_of_ble_eq_true rfl, Nat.le_of_ble_eq_true rfl⟩ k_m_X5_74 zPmu_blind (z_recv (q := (RX3, TX3, 1)) (ci := 3) (q0 := 0) hK (zP_reg hP 6 rfl) rfl rfl) (z_prem hK (zP_reg hP 6 rfl) (zD_one hD 6 _ rfl)) rfl hl.1 (Nat.le_of_ble_eq_true rfl) (z_d hX5_lock_0 9 rfl) ⟨Nat.zero_le _, Nat.zero_le _⟩) hS hP hD 6 rfl rfl rfl (fun H locs hP hD hS => ?_)
  refine W.eq (g2 := F0 m 18 ls []) rfl ?_
  refine lv_aload_n hx hb (z_d hX5_lock_0 10 rfl) rfl (lv_at hl 0 rfl) ?_
  refine va_get (D := Z.1) (ci := 5) (v := .ref (As 13)) (C := RX5) (T := TX5) (N := 10) hx hb hts zinX5 hown hK.1 (zP_reg hP 0 rfl) 0 rfl rfl 8 (by decide) (hts _ k_f_X5_42) (fun _ h9 => h9) rfl (z_d hX5_lock_0 11 rfl) ?_
  refine lv_iload_n hx hb (z_d hX5_lock_0 12 rfl) rfl (lv_at hl 1 rfl) ?_
  refine lv_iload_n hx hb (z_d hX5_lock_0 13 rfl) rfl (lv_at hl 3 rfl) ?_
  refine z_let hF (fun q3 hq3 hF => ?_)
  refine z_mu1 (L := l_Script Z.2.1 As S.1 S.2.1 S.2.2.1 S.2.2.2.1 S.2.2.2.2.1 S.2.2.2.2.2.1 q1 q2 S.2.2.2.2.2.2.2.2.1 S.2.2.2.2.2.2.2.2.2) (L' := l_Script Z.2.1 As S.1 S.2.1 S.2.2.1 S.2.2.2.1 S.2.2.2.2.1 S.2.2.2.2.2.1 q1 q2 q3 S.2.2.2.2.2.2.2.2.2) (z_rV (As := [.int p1, .int p3]) (rest := []) hx hb hml hown hts vt_X3_put (c_rPut l Z 60 (As 13) (As 14) (by decide) S.2.2.2.2.2.2.2.2.1 p1 p3 _ hq3) rfl rfl ⟨Nat.le_of_ble_eq_true rfl, Nat.le_of_ble_eq_true rfl⟩ k_m_X5_74 zPmu_blind (z_recv (q := (RX3, TX3, 1)) (ci := 3) (q0 := 0) hK (zP_reg hP 7 rfl) rfl rfl) (z_prem hK (zP_reg hP 7 rfl) (zD_one hD 7 _ rfl)) rfl hl.1 (Nat.le_of_ble_eq_true rfl) (z_d hX5_lock_0 14 rfl) ⟨Nat.zero_le _, Nat.zero_le _⟩) hS hP hD 7 rfl rfl rfl (fun H locs hP hD hS => ?_)
  refine W.eq (g2 := F0 m 27 ls []) rfl ?_
  refine lv_aload_n hx hb (z_d hX5_lock_0 15 rfl) rfl (lv_at hl 0 rfl) ?_
  refine va_get (D := Z.1) (ci := 5) (v := .ref (As 15)) (C := RX5) (T := TX5) (N := 10) hx hb hts zinX5 hown hK.1 (zP_reg hP 0 rfl) 0 rfl rfl 9 (by decide) (hts _ k_f_X5_45) (fun _ h9 => h9) rfl (z_d hX5_lock_0 16 rfl) ?_
  refine lv_iload_n hx hb (z_d hX5_lock_0 17 rfl) rfl (lv_at hl 1 rfl) ?_
  refine lv_iload hx hb (z_d hX5_lock_0 18 rfl) (lv_at hl 4 rfl) ?_
  refine z_let hF (fun q4 hq4 hF => ?_)
  refine z_mu1 (L := l_Script Z.2.1 As S.1 S.2.1 S.2.2.1 S.2.2.2.1 S.2.2.2.2.1 S.2.2.2.2.2.1 q1 q2 q3 S.2.2.2.2.2.2.2.2.2) (L' := l_Script Z.2.1 As S.1 S.2.1 S.2.2.1 S.2.2.2.1 S.2.2.2.2.1 S.2.2.2.2.2.1 q1 q2 q3 q4) (z_rV (As := [.int p1, .int p4]) (rest := []) hx hb hml hown hts vt_X3_put (c_rPut l Z 60 (As 15) (As 16) (by decide) S.2.2.2.2.2.2.2.2.2 p1 p4 _ hq4) rfl rfl ⟨Nat.le_of_ble_eq_true rfl, Nat.le_of_ble_eq_true rfl⟩ k_m_X5_74 zPmu_blind (z_recv (q := (RX3, TX3, 1)) (ci := 3) (q0 := 0) hK (zP_reg hP 8 rfl) rfl rfl) (z_prem hK (zP_reg hP 8 rfl) (zD_one hD 8 _ rfl)) rfl hl.1 (Nat.le_of_ble_eq_true rfl) (z_d hX5_lock_0 19 rfl) ⟨Nat.zero_le _, Nat.zero_le _⟩) hS hP hD 8 rfl rfl rfl (fun H locs hP hD hS => ?_)
  refine W.eq (g2 := F0 m 37 ls []) rfl ?_
  obtain rfl := hF
  subst hQ
  subst hA
  exact W.vret hx hb hr (fun t ht hW => zq_mu (by rw [ht]; exact hP) (hS.F ht)) hS.2.2 (z_d hX5_lock_0 20 rfl)
def rm_X5_markOmitted : Room := { frames := 1, cells := 0, slots := 0, locals := 22 }
set_option maxRecDepth 100000 in
set_option maxHeartbeats 4000000 in
theorem c_X5_markOmitted (l : Launch) (Z : zZ) (As : Nat → Nat) (S : t_Script) (p1 : Int32) (R : t_Script) (hF : X5_markOmitted S p1 = R) : zMU l yX5_markOmitted (zw yX5_markOmitted cX5_markOmitted 2 none) rm_X5_markOmitted Z [.ref (As 0), .int p1] (w_Script Z.2.1 As S) (w_Script Z.2.1 As R) none := by
  refine zMU_of (by decide) (Nat.le_of_ble_eq_true rfl) (fun p e s m below meth c hx hb hr hml hown hts hlocks hK A hA Q hQ ls hl hP hD hS => ?_)
  unfold X5_markOmitted at hF
  have hl : lv_has ls 2 [(0, .ref (As 0)), (1, .int p1)] := hl
  have hown : s.vm.findClass RX5 = some m.cls := hown
  have hP : va_P Z.1 vwCl (l_Script Z.2.1 As S.1 S.2.1 S.2.2.1 S.2.2.2.1 S.2.2.2.2.1 S.2.2.2.2.2.1 S.2.2.2.2.2.2.1 S.2.2.2.2.2.2.2.1 S.2.2.2.2.2.2.2.2.1 S.2.2.2.2.2.2.2.2.2).flatten s.heap := hP
  have hD : va_D A (l_Script Z.2.1 As S.1 S.2.1 S.2.2.1 S.2.2.2.1 S.2.2.2.2.1 S.2.2.2.2.2.1 S.2.2.2.2.2.2.1 S.2.2.2.2.2.2.2.1 S.2.2.2.2.2.2.2.2.1 S.2.2.2.2.2.2.2.2.2).flatten := hD
  refine lv_aload_n hx hb (z_d hX5_markOmitted_0 0 rfl) rfl (lv_at hl 0 rfl) ?_
  refine va_get (D := Z.1) (ci := 5) (v := .ref (As 9)) (C := RX5) (T := TX5) (N := 10) hx hb hts zinX5 hown hK.1 (zP_reg hP 0 rfl) 0 rfl rfl 6 (by decide) (hts _ k_f_X5_36) (fun _ h9 => h9) rfl (z_d hX5_markOmitted_0 1 rfl) ?_
  refine lv_iload_n hx hb (z_d hX5_markOmitted_0 2 rfl) rfl (lv_at hl 1 rfl) ?_
  refine lv_iconst (v := 2) hx hb (z_d hX5_markOmitted_0 3 rfl) (by decide) ?_
  refine z_let hF (fun q1 hq1 hF => ?_)
  refine z_mu1 (L := l_Script Z.2.1 As S.1 S.2.1 S.2.2.1 S.2.2.2.1 S.2.2.2.2.1 S.2.2.2.2.2.1 S.2.2.2.2.2.2.1 S.2.2.2.2.2.2.2.1 S.2.2.2.2.2.2.2.2.1 S.2.2.2.2.2.2.2.2.2) (L' := l_Script Z.2.1 As S.1 S.2.1 S.2.2.1 S.2.2.2.1 S.2.2.2.2.1 S.2.2.2.2.2.1 q1 S.2.2.2.2.2.2.2.1 S.2.2.2.2.2.2.2.2.1 S.2.2.2.2.2.2.2.2.2) (z_rV (As := [.int p1, .int 2]) (rest := []) hx hb hml hown hts vt_X3_put (c_rPut l Z 60 (As 9) (As 10) (by decide) S.2.2.2.2.2.2.1 p1 2 _ hq1) rfl rfl ⟨Nat.le_of_ble_eq_true rfl, Nat.le_of_ble_eq_true rfl⟩ k_m_X5_74 zPmu_blind (z_recv (q := (RX3, TX3, 1)) (ci := 3) (q0 := 0) hK (zP_reg hP 5 rfl) rfl rfl) (z_prem hK (zP_reg hP 5 rfl) (zD_one hD 5 _ rfl)) rfl hl.1 (Nat.le_of_ble_eq_true rfl) (z_d hX5_markOmitted_0 4 rfl) ⟨Nat.zero_le _, Nat.zero_le _⟩) hS hP hD 5 rfl rfl rfl (fun H locs hP hD hS => ?_)
  refine W.eq (g2 := F0 m 9 ls []) rfl ?_
  obtain rfl := hF
  subst hQ
  subst hA
  exact W.vret hx hb hr (fun t ht hW => zq_mu (by rw [ht]; exact hP) (hS.F ht)) hS.2.2 (z_d hX5_markOmitted_0 5 rfl)
def rm_X5_copyFrom : Room := { frames := 1, cells := 0, slots := 0, locals := 22 }
set_option maxRecDepth 100000 in
set_option maxHeartbeats 4000000 in
theorem c_X5_copyFrom (l : Launch) (Z : zZ) (As : Nat → Nat) (As2 : Nat → Nat) (S : t_Script) (S2 : t_Script) (R : t_Script) (hF : X5_copyFrom S S2 = R) : zMU l yX5_copyFrom (zw yX5_copyFrom cX5_copyFrom 2 none) rm_X5_copyFrom Z [.ref (As 0), .ref (As2 0)] (List.flatten [w_Script Z.2.1 As S, w_Script Z.2.1 As2 S2]) (List.flatten [w_Script Z.2.1 As R, w_Script Z.2.1 As2 S2]) none := by
  refine zMU_of (by decide) (Nat.le_of_ble_eq_true rfl) (fun p e s m below meth c hx hb hr hml hown hts hlocks hK A hA Q hQ ls hl hP hD hS => ?_)
  unfold X5_copyFrom at hF
  have hl : lv_has ls 2 [(0, .ref (As 0)), (1, .ref (As2 0))] := hl
  have hown : s.vm.findClass RX5 = some m.cls := hown
  have hP : va_P Z.1 vwCl (l_Script Z.2.1 As S.1 S.2.1 S.2.2.1 S.2.2.2.1 S.2.2.2.2.1 S.2.2.2.2.2.1 S.2.2.2.2.2.2.1 S.2.2.2.2.2.2.2.1 S.2.2.2.2.2.2.2.2.1 S.2.2.2.2.2.2.2.2.2 ++ l_Script Z.2.1 As2 S2.1 S2.2.1 S2.2.2.1 S2.2.2.2.1 S2.2.2.2.2.1 S2.2.2.2.2.2.1 S2.2.2.2.2.2.2.1 S2.2.2.2.2.2.2.2.1 S2.2.2.2.2.2.2.2.2.1 S2.2.2.2.2.2.2.2.2.2).flatten s.heap := zfr2 hP
  have hD : va_D A (l_Script Z.2.1 As S.1 S.2.1 S.2.2.1 S.2.2.2.1 S.2.2.2.2.1 S.2.2.2.2.2.1 S.2.2.2.2.2.2.1 S.2.2.2.2.2.2.2.1 S.2.2.2.2.2.2.2.2.1 S.2.2.2.2.2.2.2.2.2 ++ l_Script Z.2.1 As2 S2.1 S2.2.1 S2.2.2.1 S2.2.2.2.1 S2.2.2.2.2.1 S2.2.2.2.2.2.1 S2.2.2.2.2.2.2.1 S2.2.2.2.2.2.2.2.1 S2.2.2.2.2.2.2.2.2.1 S2.2.2.2.2.2.2.2.2.2).flatten := zfr2D hD
  refine lv_aload_n hx hb (z_d hX5_copyFrom_0 0 rfl) rfl (lv_at hl 0 rfl) ?_
  refine lv_aload_n hx hb (z_d hX5_copyFrom_0 1 rfl) rfl (lv_at hl 1 rfl) ?_
  refine va_get (D := Z.1) (ci := 5) (v := .int S2.1) (C := RX5) (T := TX5) (N := 10) hx hb hts zinX5 hown hK.1 (zP_reg hP 9 rfl) 0 rfl rfl 0 (by decide) (hts _ k_f_X5_9) (fun _ h9 => h9) rfl (z_d hX5_copyFrom_0 2 rfl) ?_
  refine z_put (Z := Z) (ci := 5) (v := .int S2.1) (ty := .int) (L := l_Script Z.2.1 As S.1 S.2.1 S.2.2.1 S.2.2.2.1 S.2.2.2.2.1 S.2.2.2.2.2.1 S.2.2.2.2.2.2.1 S.2.2.2.2.2.2.2.1 S.2.2.2.2.2.2.2.2.1 S.2.2.2.2.2.2.2.2.2 ++ l_Script Z.2.1 As2 S2.1 S2.2.1 S2.2.2.1 S2.2.2.2.1 S2.2.2.2.2.1 S2.2.2.2.2.2.1 S2.2.2.2.2.2.2.1 S2.2.2.2.2.2.2.2.1 S2.2.2.2.2.2.2.2.2.1 S2.2.2.2.2.2.2.2.2.2) (L' := l_Script Z.2.1 As S2.1 S.2.1 S.2.2.1 S.2.2.2.1 S.2.2.2.2.1 S.2.2.2.2.2.1 S.2.2.2.2.2.2.1 S.2.2.2.2.2.2.2.1 S.2.2.2.2.2.2.2.2.1 S.2.2.2.2.2.2.2.2.2 ++ l_Script Z.2.1 As2 S2.1 S2.2.1 S2.2.2.1 S2.2.2.2.1 S2.2.2.2.2.1 S2.2.2.2.2.2.1 S2.2.2.2.2.2.2.1 S2.2.2.2.2.2.2.2.1 S2.2.2.2.2.2.2.2.2.1 S2.2.2.2.2.2.2.2.2.2) (C := RX5) (T := TX5) (N := 10) hx hb hts zinX5 tyX5 tyX5_ok nmX5 hown hK hP hD hS 0 rfl rfl 0 (by decide) (hts _ k_f_X5_9) (fun _ h9 => h9) rfl (tyX5_ok 0 (by decide)) rfl rfl (Nat.le_of_ble_eq_true rfl) rfl (z_d hX5_copyFrom_0 3 rfl) (fun H locs hP hD hS => ?_)
  refine lv_aload_n hx hb (z_d hX5_copyFrom_0 4 rfl) rfl (lv_at hl 0 rfl) ?_
  refine lv_aload_n hx hb (z_d hX5_copyFrom_0 5 rfl) rfl (lv_at hl 1 rfl) ?_
  refine va_get (D := Z.1) (ci := 5) (v := .int S2.2.1) (C := RX5) (T := TX5) (N := 10) hx hb hts zinX5 hown hK.1 (zP_reg hP 9 rfl) 0 rfl rfl 1 (by decide) (hts _ k_f_X5_15) (fun _ h9 => h9) rfl (z_d hX5_copyFrom_0 6 rfl) ?_
  refine z_put (Z := Z) (ci := 5) (v := .int S2.2.1) (ty := .int) (L := l_Script Z.2.1 As S2.1 S.2.1 S.2.2.1 S.2.2.2.1 S.2.2.2.2.1 S.2.2.2.2.2.1 S.2.2.2.2.2.2.1 S.2.2.2.2.2.2.2.1 S.2.2.2.2.2.2.2.2.1 S.2.2.2.2.2.2.2.2.2 ++ l_Script Z.2.1 As2 S2.1 S2.2.1 S2.2.2.1 S2.2.2.2.1 S2.2.2.2.2.1 S2.2.2.2.2.2.1 S2.2.2.2.2.2.2.1 S2.2.2.2.2.2.2.2.1 S2.2.2.2.2.2.2.2.2.1 S2.2.2.2.2.2.2.2.2.2) (L' := l_Script Z.2.1 As S2.1 S2.2.1 S.2.2.1 S.2.2.2.1 S.2.2.2.2.1 S.2.2.2.2.2.1 S.2.2.2.2.2.2.1 S.2.2.2.2.2.2.2.1 S.2.2.2.2.2.2.2.2.1 S.2.2.2.2.2.2.2.2.2 ++ l_Script Z.2.1 As2 S2.1 S2.2.1 S2.2.2.1 S2.2.2.2.1 S2.2.2.2.2.1 S2.2.2.2.2.2.1 S2.2.2.2.2.2.2.1 S2.2.2.2.2.2.2.2.1 S2.2.2.2.2.2.2.2.2.1 S2.2.2.2.2.2.2.2.2.2) (C := RX5) (T := TX5) (N := 10) hx hb hts zinX5 tyX5 tyX5_ok nmX5 hown hK hP hD hS 0 rfl rfl 1 (by decide) (hts _ k_f_X5_15) (fun _ h9 => h9) rfl (tyX5_ok 1 (by decide)) rfl rfl (Nat.le_of_ble_eq_true rfl) rfl (z_d hX5_copyFrom_0 7 rfl) (fun H locs hP hD hS => ?_)
  refine lv_aload_n hx hb (z_d hX5_copyFrom_0 8 rfl) rfl (lv_at hl 0 rfl) ?_
  refine va_get (D := Z.1) (ci := 5) (v := .ref (As 1)) (C := RX5) (T := TX5) (N := 10) hx hb hts zinX5 hown hK.1 (zP_reg hP 0 rfl) 0 rfl rfl 2 (by decide) (hts _ k_f_X5_23) (fun _ h9 => h9) rfl (z_d hX5_copyFrom_0 9 rfl) ?_
  refine lv_aload_n hx hb (z_d hX5_copyFrom_0 10 rfl) rfl (lv_at hl 1 rfl) ?_
  refine va_get (D := Z.1) (ci := 5) (v := .ref (As2 1)) (C := RX5) (T := TX5) (N := 10) hx hb hts zinX5 hown hK.1 (zP_reg hP 9 rfl) 0 rfl rfl 2 (by decide) (hts _ k_f_X5_23) (fun _ h9 => h9) rfl (z_d hX5_copyFrom_0 11 rfl) ?_
  refine z_let hF (fun q1 hq1 hF => ?_)
  refine z_mu2 (L := l_Script Z.2.1 As S2.1 S2.2.1 S.2.2.1 S.2.2.2.1 S.2.2.2.2.1 S.2.2.2.2.2.1 S.2.2.2.2.2.2.1 S.2.2.2.2.2.2.2.1 S.2.2.2.2.2.2.2.2.1 S.2.2.2.2.2.2.2.2.2 ++ l_Script Z.2.1 As2 S2.1 S2.2.1 S2.2.2.1 S2.2.2.2.1 S2.2.2.2.2.1 S2.2.2.2.2.2.1 S2.2.2.2.2.2.2.1 S2.2.2.2.2.2.2.2.1 S2.2.2.2.2.2.2.2.2.1 S2.2.2.2.2.2.2.2.2.2) (L' := l_Script Z.2.1 As S2.1 S2.2.1 q1 S.2.2.2.1 S.2.2.2.2.1 S.2.2.2.2.2.1 S.2.2.2.2.2.2.1 S.2.2.2.2.2.2.2.1 S.2.2.2.2.2.2.2.2.1 S.2.2.2.2.2.2.2.2.2 ++ l_Script Z.2.1 As2 S2.1 S2.2.1 S2.2.2.1 S2.2.2.2.1 S2.2.2.2.2.1 S2.2.2.2.2.2.1 S2.2.2.2.2.2.2.1 S2.2.2.2.2.2.2.2.1 S2.2.2.2.2.2.2.2.2.1 S2.2.2.2.2.2.2.2.2.2) (z_rV (As := [.ref (As2 1)]) (rest := []) hx hb hml hown hts vt_X3_copyFrom (c_rCopy l Z 60 (As 1) (As 2) 60 (As2 1) (As2 2) (by decide) S.2.2.1 S2.2.2.1 _ hq1) rfl rfl ⟨Nat.le_of_ble_eq_true rfl, Nat.le_of_ble_eq_true rfl⟩ k_m_X5_77 zPmu_blind (z_recv (q := (RX3, TX3, 1)) (ci := 3) (q0 := 0) hK (zP_reg hP 1 rfl) rfl rfl) (z_prem hK (zP_r2 hP 1 10 rfl rfl) (zD_r2 hD 1 10 rfl rfl (by decide))) rfl hl.1 (Nat.le_of_ble_eq_true rfl) (z_d hX5_copyFrom_0 12 rfl) ⟨Nat.zero_le _, Nat.zero_le _⟩) hS hP hD 1 10 rfl rfl (by decide) rfl rfl rfl (fun H locs hP hD hS => ?_)
  refine W.eq (g2 := F0 m 27 ls []) rfl ?_
  refine lv_aload_n hx hb (z_d hX5_copyFrom_0 13 rfl) rfl (lv_at hl 0 rfl) ?_
  refine va_get (D := Z.1) (ci := 5) (v := .ref (As 3)) (C := RX5) (T := TX5) (N := 10) hx hb hts zinX5 hown hK.1 (zP_reg hP 0 rfl) 0 rfl rfl 3 (by decide) (hts _ k_f_X5_27) (fun _ h9 => h9) rfl (z_d hX5_copyFrom_0 14 rfl) ?_
  refine lv_aload_n hx hb (z_d hX5_copyFrom_0 15 rfl) rfl (lv_at hl 1 rfl) ?_
  refine va_get (D := Z.1) (ci := 5) (v := .ref (As2 3)) (C := RX5) (T := TX5) (N := 10) hx hb hts zinX5 hown hK.1 (zP_reg hP 9 rfl) 0 rfl rfl 3 (by decide) (hts _ k_f_X5_27) (fun _ h9 => h9) rfl (z_d hX5_copyFrom_0 16 rfl) ?_
  refine z_let hF (fun q2 hq2 hF => ?_)
  refine z_mu2 (L := l_Script Z.2.1 As S2.1 S2.2.1 q1 S.2.2.2.1 S.2.2.2.2.1 S.2.2.2.2.2.1 S.2.2.2.2.2.2.1 S.2.2.2.2.2.2.2.1 S.2.2.2.2.2.2.2.2.1 S.2.2.2.2.2.2.2.2.2 ++ l_Script Z.2.1 As2 S2.1 S2.2.1 S2.2.2.1 S2.2.2.2.1 S2.2.2.2.2.1 S2.2.2.2.2.2.1 S2.2.2.2.2.2.2.1 S2.2.2.2.2.2.2.2.1 S2.2.2.2.2.2.2.2.2.1 S2.2.2.2.2.2.2.2.2.2) (L' := l_Script Z.2.1 As S2.1 S2.2.1 q1 q2 S.2.2.2.2.1 S.2.2.2.2.2.1 S.2.2.2.2.2.2.1 S.2.2.2.2.2.2.2.1 S.2.2.2.2.2.2.2.2.1 S.2.2.2.2.2.2.2.2.2 ++ l_Script Z.2.1 As2 S2.1 S2.2.1 S2.2.2.1 S2.2.2.2.1 S2.2.2.2.2.1 S2.2.2.2.2.2.1 S2.2.2.2.2.2.2.1 S2.2.2.2.2.2.2.2.1 S2.2.2.2.2.2.2.2.2.1 S2.2.2.2.2.2.2.2.2.2) (z_rV (As := [.ref (As2 3)]) (rest := []) hx hb hml hown hts vt_X3_copyFrom (c_rCopy l Z 60 (As 3) (As 4) 60 (As2 3) (As2 4) (by decide) S.2.2.2.1 S2.2.2.2.1 _ hq2) rfl rfl ⟨Nat.le_of_ble_eq_true rfl, Nat.le_of_ble_eq_true rfl⟩ k_m_X5_77 zPmu_blind (z_recv (q := (RX3, TX3, 1)) (ci := 3) (q0 := 0) hK (zP_reg hP 2 rfl) rfl rfl) (z_prem hK (zP_r2 hP 2 11 rfl rfl) (zD_r2 hD 2 11 rfl rfl (by decide))) rfl hl.1 (Nat.le_of_ble_eq_true rfl) (z_d hX5_copyFrom_0 17 rfl) ⟨Nat.zero_le _, Nat.zero_le _⟩) hS hP hD 2 11 rfl rfl (by decide) rfl rfl rfl (fun H locs hP hD hS => ?_)
  refine W.eq (g2 := F0 m 38 ls []) rfl ?_
  refine lv_aload_n hx hb (z_d hX5_copyFrom_0 18 rfl) rfl (lv_at hl 0 rfl) ?_
  refine va_get (D := Z.1) (ci := 5) (v := .ref (As 5)) (C := RX5) (T := TX5) (N := 10) hx hb hts zinX5 hown hK.1 (zP_reg hP 0 rfl) 0 rfl rfl 4 (by decide) (hts _ k_f_X5_30) (fun _ h9 => h9) rfl (z_d hX5_copyFrom_0 19 rfl) ?_
  refine lv_aload_n hx hb (z_d hX5_copyFrom_0 20 rfl) rfl (lv_at hl 1 rfl) ?_
  refine va_get (D := Z.1) (ci := 5) (v := .ref (As2 5)) (C := RX5) (T := TX5) (N := 10) hx hb hts zinX5 hown hK.1 (zP_reg hP 9 rfl) 0 rfl rfl 4 (by decide) (hts _ k_f_X5_30) (fun _ h9 => h9) rfl (z_d hX5_copyFrom_0 21 rfl) ?_
  refine z_let hF (fun q3 hq3 hF => ?_)
  refine z_mu2 (L := l_Script Z.2.1 As S2.1 S2.2.1 q1 q2 S.2.2.2.2.1 S.2.2.2.2.2.1 S.2.2.2.2.2.2.1 S.2.2.2.2.2.2.2.1 S.2.2.2.2.2.2.2.2.1 S.2.2.2.2.2.2.2.2.2 ++ l_Script Z.2.1 As2 S2.1 S2.2.1 S2.2.2.1 S2.2.2.2.1 S2.2.2.2.2.1 S2.2.2.2.2.2.1 S2.2.2.2.2.2.2.1 S2.2.2.2.2.2.2.2.1 S2.2.2.2.2.2.2.2.2.1 S2.2.2.2.2.2.2.2.2.2) (L' := l_Script Z.2.1 As S2.1 S2.2.1 q1 q2 q3 S.2.2.2.2.2.1 S.2.2.2.2.2.2.1 S.2.2.2.2.2.2.2.1 S.2.2.2.2.2.2.2.2.1 S.2.2.2.2.2.2.2.2.2 ++ l_Script Z.2.1 As2 S2.1 S2.2.1 S2.2.2.1 S2.2.2.2.1 S2.2.2.2.2.1 S2.2.2.2.2.2.1 S2.2.2.2.2.2.2.1 S2.2.2.2.2.2.2.2.1 S2.2.2.2.2.2.2.2.2.1 S2.2.2.2.2.2.2.2.2.2) (z_rV (As := [.ref (As2 5)]) (rest := []) hx hb hml hown hts vt_X3_copyFrom (c_rCopy l Z 60 (As 5) (As 6) 60 (As2 5) (As2 6) (by decide) S.2.2.2.2.1 S2.2.2.2.2.1 _ hq3) rfl rfl ⟨Nat.le_of_ble_eq_true rfl, Nat.le_of_ble_eq_true rfl⟩ k_m_X5_77 zPmu_blind (z_recv (q := (RX3, TX3, 1)) (ci := 3) (q0 := 0) hK (zP_reg hP 3 rfl) rfl rfl) (z_prem hK (zP_r2 hP 3 12 rfl rfl) (zD_r2 hD 3 12 rfl rfl (by decide))) rfl hl.1 (Nat.le_of_ble_eq_true rfl) (z_d hX5_copyFrom_0 22 rfl) ⟨Nat.zero_le _, Nat.zero_le _⟩) hS hP hD 3 12 rfl rfl (by decide) rfl rfl rfl (fun H locs hP hD hS => ?_)
  refine W.eq (g2 := F0 m 49 ls []) rfl ?_
  refine lv_aload_n hx hb (z_d hX5_copyFrom_0 23 rfl) rfl (lv_at hl 0 rfl) ?_
  refine va_get (D := Z.1) (ci := 5) (v := .ref (As 7)) (C := RX5) (T := TX5) (N := 10) hx hb hts zinX5 hown hK.1 (zP_reg hP 0 rfl) 0 rfl rfl 5 (by decide) (hts _ k_f_X5_33) (fun _ h9 => h9) rfl (z_d hX5_copyFrom_0 24 rfl) ?_
  refine lv_aload_n hx hb (z_d hX5_copyFrom_0 25 rfl) rfl (lv_at hl 1 rfl) ?_
  refine va_get (D := Z.1) (ci := 5) (v := .ref (As2 7)) (C := RX5) (T := TX5) (N := 10) hx hb hts zinX5 hown hK.1 (zP_reg hP 9 rfl) 0 rfl rfl 5 (by decide) (hts _ k_f_X5_33) (fun _ h9 => h9) rfl (z_d hX5_copyFrom_0 26 rfl) ?_
  refine z_let hF (fun q4 hq4 hF => ?_)
  refine z_mu2 (L := l_Script Z.2.1 As S2.1 S2.2.1 q1 q2 q3 S.2.2.2.2.2.1 S.2.2.2.2.2.2.1 S.2.2.2.2.2.2.2.1 S.2.2.2.2.2.2.2.2.1 S.2.2.2.2.2.2.2.2.2 ++ l_Script Z.2.1 As2 S2.1 S2.2.1 S2.2.2.1 S2.2.2.2.1 S2.2.2.2.2.1 S2.2.2.2.2.2.1 S2.2.2.2.2.2.2.1 S2.2.2.2.2.2.2.2.1 S2.2.2.2.2.2.2.2.2.1 S2.2.2.2.2.2.2.2.2.2) (L' := l_Script Z.2.1 As S2.1 S2.2.1 q1 q2 q3 q4 S.2.2.2.2.2.2.1 S.2.2.2.2.2.2.2.1 S.2.2.2.2.2.2.2.2.1 S.2.2.2.2.2.2.2.2.2 ++ l_Script Z.2.1 As2 S2.1 S2.2.1 S2.2.2.1 S2.2.2.2.1 S2.2.2.2.2.1 S2.2.2.2.2.2.1 S2.2.2.2.2.2.2.1 S2.2.2.2.2.2.2.2.1 S2.2.2.2.2.2.2.2.2.1 S2.2.2.2.2.2.2.2.2.2) (z_rV (As := [.ref (As2 7)]) (rest := []) hx hb hml hown hts vt_X3_copyFrom (c_rCopy l Z 60 (As 7) (As 8) 60 (As2 7) (As2 8) (by decide) S.2.2.2.2.2.1 S2.2.2.2.2.2.1 _ hq4) rfl rfl ⟨Nat.le_of_ble_eq_true rfl, Nat.le_of_ble_eq_true rfl⟩ k_m_X5_77 zPmu_blind (z_recv (q := (RX3, TX3, 1)) (ci := 3) (q0 := 0) hK (zP_reg hP 4 rfl) rfl rfl) (z_prem hK (zP_r2 hP 4 13 rfl rfl) (zD_r2 hD 4 13 rfl rfl (by decide))) rfl hl.1 (Nat.le_of_ble_eq_true rfl) (z_d hX5_copyFrom_0 27 rfl) ⟨Nat.zero_le _, Nat.zero_le _⟩) hS hP hD 4 13 rfl rfl (by decide) rfl rfl rfl (fun H locs hP hD hS => ?_)
  refine W.eq (g2 := F0 m 60 ls []) rfl ?_
  refine lv_aload_n hx hb (z_d hX5_copyFrom_0 28 rfl) rfl (lv_at hl 0 rfl) ?_
  refine va_get (D := Z.1) (ci := 5) (v := .ref (As 9)) (C := RX5) (T := TX5) (N := 10) hx hb hts zinX5 hown hK.1 (zP_reg hP 0 rfl) 0 rfl rfl 6 (by decide) (hts _ k_f_X5_36) (fun _ h9 => h9) rfl (z_d hX5_copyFrom_0 29 rfl) ?_
  refine lv_aload_n hx hb (z_d hX5_copyFrom_0 30 rfl) rfl (lv_at hl 1 rfl) ?_
  refine va_get (D := Z.1) (ci := 5) (v := .ref (As2 9)) (C := RX5) (T := TX5) (N := 10) hx hb hts zinX5 hown hK.1 (zP_reg hP 9 rfl) 0 rfl rfl 6 (by decide) (hts _ k_f_X5_36) (fun _ h9 => h9) rfl (z_d hX5_copyFrom_0 31 rfl) ?_
  refine z_let hF (fun q5 hq5 hF => ?_)
  refine z_mu2 (L := l_Script Z.2.1 As S2.1 S2.2.1 q1 q2 q3 q4 S.2.2.2.2.2.2.1 S.2.2.2.2.2.2.2.1 S.2.2.2.2.2.2.2.2.1 S.2.2.2.2.2.2.2.2.2 ++ l_Script Z.2.1 As2 S2.1 S2.2.1 S2.2.2.1 S2.2.2.2.1 S2.2.2.2.2.1 S2.2.2.2.2.2.1 S2.2.2.2.2.2.2.1 S2.2.2.2.2.2.2.2.1 S2.2.2.2.2.2.2.2.2.1 S2.2.2.2.2.2.2.2.2.2) (L' := l_Script Z.2.1 As S2.1 S2.2.1 q1 q2 q3 q4 q5 S.2.2.2.2.2.2.2.1 S.2.2.2.2.2.2.2.2.1 S.2.2.2.2.2.2.2.2.2 ++ l_Script Z.2.1 As2 S2.1 S2.2.1 S2.2.2.1 S2.2.2.2.1 S2.2.2.2.2.1 S2.2.2.2.2.2.1 S2.2.2.2.2.2.2.1 S2.2.2.2.2.2.2.2.1 S2.2.2.2.2.2.2.2.2.1 S2.2.2.2.2.2.2.2.2.2) (z_rV (As := [.ref (As2 9)]) (rest := []) hx hb hml hown hts vt_X3_copyFrom (c_rCopy l Z 60 (As 9) (As 10) 60 (As2 9) (As2 10) (by decide) S.2.2.2.2.2.2.1 S2.2.2.2.2.2.2.1 _ hq5) rfl rfl ⟨Nat.le_of_ble_eq_true rfl, Nat.le_of_ble_eq_true rfl⟩ k_m_X5_77 zPmu_blind (z_recv (q := (RX3, TX3, 1)) (ci := 3) (q0 := 0) hK (zP_reg hP 5 rfl) rfl rfl) (z_prem hK (zP_r2 hP 5 14 rfl rfl) (zD_r2 hD 5 14 rfl rfl (by decide))) rfl hl.1 (Nat.le_of_ble_eq_true rfl) (z_d hX5_copyFrom_0 32 rfl) ⟨Nat.zero_le _, Nat.zero_le _⟩) hS hP hD 5 14 rfl rfl (by decide) rfl rfl rfl (fun H locs hP hD hS => ?_)
  refine W.eq (g2 := F0 m 71 ls []) rfl ?_
  refine lv_aload_n hx hb (z_d hX5_copyFrom_0 33 rfl) rfl (lv_at hl 0 rfl) ?_
  refine va_get (D := Z.1) (ci := 5) (v := .ref (As 11)) (C := RX5) (T := TX5) (N := 10) hx hb hts zinX5 hown hK.1 (zP_reg hP 0 rfl) 0 rfl rfl 7 (by decide) (hts _ k_f_X5_39) (fun _ h9 => h9) rfl (z_d hX5_copyFrom_0 34 rfl) ?_
  refine lv_aload_n hx hb (z_d hX5_copyFrom_0 35 rfl) rfl (lv_at hl 1 rfl) ?_
  refine va_get (D := Z.1) (ci := 5) (v := .ref (As2 11)) (C := RX5) (T := TX5) (N := 10) hx hb hts zinX5 hown hK.1 (zP_reg hP 9 rfl) 0 rfl rfl 7 (by decide) (hts _ k_f_X5_39) (fun _ h9 => h9) rfl (z_d hX5_copyFrom_0 36 rfl) ?_
  refine z_let hF (fun q6 hq6 hF => ?_)
  refine z_mu2 (L := l_Script Z.2.1 As S2.1 S2.2.1 q1 q2 q3 q4 q5 S.2.2.2.2.2.2.2.1 S.2.2.2.2.2.2.2.2.1 S.2.2.2.2.2.2.2.2.2 ++ l_Script Z.2.1 As2 S2.1 S2.2.1 S2.2.2.1 S2.2.2.2.1 S2.2.2.2.2.1 S2.2.2.2.2.2.1 S2.2.2.2.2.2.2.1 S2.2.2.2.2.2.2.2.1 S2.2.2.2.2.2.2.2.2.1 S2.2.2.2.2.2.2.2.2.2) (L' := l_Script Z.2.1 As S2.1 S2.2.1 q1 q2 q3 q4 q5 q6 S.2.2.2.2.2.2.2.2.1 S.2.2.2.2.2.2.2.2.2 ++ l_Script Z.2.1 As2 S2.1 S2.2.1 S2.2.2.1 S2.2.2.2.1 S2.2.2.2.2.1 S2.2.2.2.2.2.1 S2.2.2.2.2.2.2.1 S2.2.2.2.2.2.2.2.1 S2.2.2.2.2.2.2.2.2.1 S2.2.2.2.2.2.2.2.2.2) (z_rV (As := [.ref (As2 11)]) (rest := []) hx hb hml hown hts vt_X3_copyFrom (c_rCopy l Z 60 (As 11) (As 12) 60 (As2 11) (As2 12) (by decide) S.2.2.2.2.2.2.2.1 S2.2.2.2.2.2.2.2.1 _ hq6) rfl rfl ⟨Nat.le_of_ble_eq_true rfl, Nat.le_of_ble_eq_true rfl⟩ k_m_X5_77 zPmu_blind (z_recv (q := (RX3, TX3, 1)) (ci := 3) (q0 := 0) hK (zP_reg hP 6 rfl) rfl rfl) (z_prem hK (zP_r2 hP 6 15 rfl rfl) (zD_r2 hD 6 15 rfl rfl (by decide))) rfl hl.1 (Nat.le_of_ble_eq_true rfl) (z_d hX5_copyFrom_0 37 rfl) ⟨Nat.zero_le _, Nat.zero_le _⟩) hS hP hD 6 15 rfl rfl (by decide) rfl rfl rfl (fun H locs hP hD hS => ?_)
  refine W.eq (g2 := F0 m 82 ls []) rfl ?_
  refine lv_aload_n hx hb (z_d hX5_copyFrom_0 38 rfl) rfl (lv_at hl 0 rfl) ?_
  refine va_get (D := Z.1) (ci := 5) (v := .ref (As 13)) (C := RX5) (T := TX5) (N := 10) hx hb hts zinX5 hown hK.1 (zP_reg hP 0 rfl) 0 rfl rfl 8 (by decide) (hts _ k_f_X5_42) (fun _ h9 => h9) rfl (z_d hX5_copyFrom_0 39 rfl) ?_
  refine lv_aload_n hx hb (z_d hX5_copyFrom_0 40 rfl) rfl (lv_at hl 1 rfl) ?_
  refine va_get (D := Z.1) (ci := 5) (v := .ref (As2 13)) (C := RX5) (T := TX5) (N := 10) hx hb hts zinX5 hown hK.1 (zP_reg hP 9 rfl) 0 rfl rfl 8 (by decide) (hts _ k_f_X5_42) (fun _ h9 => h9) rfl (z_d hX5_copyFrom_0 41 rfl) ?_
  refine z_let hF (fun q7 hq7 hF => ?_)
  refine z_mu2 (L := l_Script Z.2.1 As S2.1 S2.2.1 q1 q2 q3 q4 q5 q6 S.2.2.2.2.2.2.2.2.1 S.2.2.2.2.2.2.2.2.2 ++ l_Script Z.2.1 As2 S2.1 S2.2.1 S2.2.2.1 S2.2.2.2.1 S2.2.2.2.2.1 S2.2.2.2.2.2.1 S2.2.2.2.2.2.2.1 S2.2.2.2.2.2.2.2.1 S2.2.2.2.2.2.2.2.2.1 S2.2.2.2.2.2.2.2.2.2) (L' := l_Script Z.2.1 As S2.1 S2.2.1 q1 q2 q3 q4 q5 q6 q7 S.2.2.2.2.2.2.2.2.2 ++ l_Script Z.2.1 As2 S2.1 S2.2.1 S2.2.2.1 S2.2.2.2.1 S2.2.2.2.2.1 S2.2.2.2.2.2.1 S2.2.2.2.2.2.2.1 S2.2.2.2.2.2.2.2.1 S2.2.2.2.2.2.2.2.2.1 S2.2.2.2.2.2.2.2.2.2) (z_rV (As := [.ref (As2 13)]) (rest := []) hx hb hml hown hts vt_X3_copyFrom (c_rCopy l Z 60 (As 13) (As 14) 60 (As2 13) (As2 14) (by decide) S.2.2.2.2.2.2.2.2.1 S2.2.2.2.2.2.2.2.2.1 _ hq7) rfl rfl ⟨Nat.le_of_ble_eq_true rfl, Nat.le_of_ble_eq_true rfl⟩ k_m_X5_77 zPmu_blind (z_recv (q := (RX3, TX3, 1)) (ci := 3) (q0 := 0) hK (zP_reg hP 7 rfl) rfl rfl) (z_prem hK (zP_r2 hP 7 16 rfl rfl) (zD_r2 hD 7 16 rfl rfl (by decide))) rfl hl.1 (Nat.le_of_ble_eq_true rfl) (z_d hX5_copyFrom_0 42 rfl) ⟨Nat.zero_le _, Nat.zero_le _⟩) hS hP hD 7 16 rfl rfl (by decide) rfl rfl rfl (fun H locs hP hD hS => ?_)
  refine W.eq (g2 := F0 m 93 ls []) rfl ?_
  refine lv_aload_n hx hb (z_d hX5_copyFrom_0 43 rfl) rfl (lv_at hl 0 rfl) ?_
  refine va_get (D := Z.1) (ci := 5) (v := .ref (As 15)) (C := RX5) (T := TX5) (N := 10) hx hb hts zinX5 hown hK.1 (zP_reg hP 0 rfl) 0 rfl rfl 9 (by decide) (hts _ k_f_X5_45) (fun _ h9 => h9) rfl (z_d hX5_copyFrom_0 44 rfl) ?_
  refine lv_aload_n hx hb (z_d hX5_copyFrom_0 45 rfl) rfl (lv_at hl 1 rfl) ?_
  refine va_get (D := Z.1) (ci := 5) (v := .ref (As2 15)) (C := RX5) (T := TX5) (N := 10) hx hb hts zinX5 hown hK.1 (zP_reg hP 9 rfl) 0 rfl rfl 9 (by decide) (hts _ k_f_X5_45) (fun _ h9 => h9) rfl (z_d hX5_copyFrom_0 46 rfl) ?_
  refine z_let hF (fun q8 hq8 hF => ?_)
  refine z_mu2 (L := l_Script Z.2.1 As S2.1 S2.2.1 q1 q2 q3 q4 q5 q6 q7 S.2.2.2.2.2.2.2.2.2 ++ l_Script Z.2.1 As2 S2.1 S2.2.1 S2.2.2.1 S2.2.2.2.1 S2.2.2.2.2.1 S2.2.2.2.2.2.1 S2.2.2.2.2.2.2.1 S2.2.2.2.2.2.2.2.1 S2.2.2.2.2.2.2.2.2.1 S2.2.2.2.2.2.2.2.2.2) (L' := l_Script Z.2.1 As S2.1 S2.2.1 q1 q2 q3 q4 q5 q6 q7 q8 ++ l_Script Z.2.1 As2 S2.1 S2.2.1 S2.2.2.1 S2.2.2.2.1 S2.2.2.2.2.1 S2.2.2.2.2.2.1 S2.2.2.2.2.2.2.1 S2.2.2.2.2.2.2.2.1 S2.2.2.2.2.2.2.2.2.1 S2.2.2.2.2.2.2.2.2.2) (z_rV (As := [.ref (As2 15)]) (rest := []) hx hb hml hown hts vt_X3_copyFrom (c_rCopy l Z 60 (As 15) (As 16) 60 (As2 15) (As2 16) (by decide) S.2.2.2.2.2.2.2.2.2 S2.2.2.2.2.2.2.2.2.2 _ hq8) rfl rfl ⟨Nat.le_of_ble_eq_true rfl, Nat.le_of_ble_eq_true rfl⟩ k_m_X5_77 zPmu_blind (z_recv (q := (RX3, TX3, 1)) (ci := 3) (q0 := 0) hK (zP_reg hP 8 rfl) rfl rfl) (z_prem hK (zP_r2 hP 8 17 rfl rfl) (zD_r2 hD 8 17 rfl rfl (by decide))) rfl hl.1 (Nat.le_of_ble_eq_true rfl) (z_d hX5_copyFrom_0 47 rfl) ⟨Nat.zero_le _, Nat.zero_le _⟩) hS hP hD 8 17 rfl rfl (by decide) rfl rfl rfl (fun H locs hP hD hS => ?_)
  refine W.eq (g2 := F0 m 104 ls []) rfl ?_
  obtain rfl := hF
  subst hQ
  subst hA
  exact W.vret hx hb hr (fun t ht hW => zq_mu (by rw [ht]; exact zfl2 hP) (hS.F ht)) hS.2.2 (z_d hX5_copyFrom_0 48 rfl)
end
section
def X4_has (C : t_Scenes) (p1 : Int32) : Int32 := zlet (X6_isBelow p1 C.1) fun q1 => q1
theorem X4_has_b (C : t_Scenes) (p1 : Int32) : X4_has C p1 = 0 ∨ X4_has C p1 = 1 := by
  unfold X4_has
  try simp only [zlet]
  repeat (first | exact Or.inl rfl | exact Or.inr rfl | exact X6_isBelow_b _ _ | split)
def j_X4_gather_109 (S : t_Script) (rec : (t_Scenes × Int32) → Option (t_Scenes)) (C : t_Scenes) (x2 : Int32) (z0 : Int32) : Option (t_Scenes) := zlet (rPut 60 C.2.2.2.2.2.2.2.2.2.2.1 x2 z0) fun q3 => zlet (rPlus 60 C.2.2.2.2.1 z0 1) fun q4 => zlet (X5_linesOf S x2) fun q5 => zlet (rPlus 60 C.2.2.2.2.2.1 z0 q5) fun q6 => zlet (x2 + 1) fun u7 => rec ((C.1, C.2.1, C.2.2.1, C.2.2.2.1, q4, q6, C.2.2.2.2.2.2.1, C.2.2.2.2.2.2.2.1, C.2.2.2.2.2.2.2.2.1, C.2.2.2.2.2.2.2.2.2.1, q3, C.2.2.2.2.2.2.2.2.2.2.2), u7)
def j_X4_gather_92 (S : t_Script) (rec : (t_Scenes × Int32) → Option (t_Scenes)) (C : t_Scenes) (x2 : Int32) : Option (t_Scenes) := if C.1 ≤ 0 then (j_X4_gather_109 S rec C x2 (-1)) else (zlet (C.1 - 1) fun u8 => j_X4_gather_109 S rec C x2 u8)
def j_X4_gather_74 (S : t_Script) (rec : (t_Scenes × Int32) → Option (t_Scenes)) (C : t_Scenes) (x2 : Int32) : Option (t_Scenes) := zlet (X5_isLocked S x2) fun q2 => if q2 = 0 then (j_X4_gather_92 S rec C x2) else (zlet (C.2.1 + 1) fun u9 => j_X4_gather_92 S rec (C.1, u9, C.2.2.1, C.2.2.2.1, C.2.2.2.2.1, C.2.2.2.2.2.1, C.2.2.2.2.2.2.1, C.2.2.2.2.2.2.2.1, C.2.2.2.2.2.2.2.2.1, C.2.2.2.2.2.2.2.2.2.1, C.2.2.2.2.2.2.2.2.2.2.1, C.2.2.2.2.2.2.2.2.2.2.2) x2)
def b_X4_gather_12 (S : t_Script)  (rec : (t_Scenes × Int32) → Option (t_Scenes)) (v : t_Scenes × Int32) : Option (t_Scenes) := if S.1 ≤ v.2 then (some v.1) else (zlet (X5_isHeading S v.2) fun q1 => if q1 = 0 then (j_X4_gather_74 S rec v.1 v.2) else (zlet (rPut 60 v.1.2.2.2.1 v.1.1 v.2) fun q10 => zlet (rPut 60 v.1.2.2.2.2.1 v.1.1 0) fun q11 => zlet (rPut 60 v.1.2.2.2.2.2.1 v.1.1 0) fun q12 => zlet (v.1.1 + 1) fun u13 => j_X4_gather_74 S rec (u13, v.1.2.1, v.1.2.2.1, q10, q11, q12, v.1.2.2.2.2.2.2.1, v.1.2.2.2.2.2.2.2.1, v.1.2.2.2.2.2.2.2.2.1, v.1.2.2.2.2.2.2.2.2.2.1, v.1.2.2.2.2.2.2.2.2.2.2.1, v.1.2.2.2.2.2.2.2.2.2.2.2) v.2))
def X4_gather (C : t_Scenes) (S : t_Script) : Option t_Scenes := (zloop (b_X4_gather_12 S) FU ((0, 0, C.2.2.1, C.2.2.2.1, C.2.2.2.2.1, C.2.2.2.2.2.1, C.2.2.2.2.2.2.1, C.2.2.2.2.2.2.2.1, C.2.2.2.2.2.2.2.2.1, C.2.2.2.2.2.2.2.2.2.1, C.2.2.2.2.2.2.2.2.2.2.1, C.2.2.2.2.2.2.2.2.2.2.2), 0)).bind fun q14 => some q14
def j_X4_findCarriedNames_91 (S : t_Script) (rec : (t_Scenes × Int32 × Int32) → Option (t_Scenes)) (C : t_Scenes) (x2 : Int32) (x3 : Int32) (x4 : Int32) : Option (t_Scenes) := zlet (X5_isHeading S x3) fun q3 => if q3 = 0 then (if x4 = (-1) then (zlet (x3 + 1) fun u4 => rec (C, x2, u4)) else (zlet (x3 + 1) fun u5 => rec (C, x4, u5))) else (zlet (x3 + 1) fun u6 => rec (C, (-1), u6))
def j_X4_findCarriedNames_73 (S : t_Script) (rec : (t_Scenes × Int32 × Int32) → Option (t_Scenes)) (C : t_Scenes) (x2 : Int32) (x3 : Int32) (x4 : Int32) (x5 : Int32) (z0 : Int32) (z1 : Int32) : Option (t_Scenes) := zlet (rPut 60 C.2.2.2.2.2.2.2.2.2.2.2 z1 z0) fun q2 => if x5 = 0 then (j_X4_findCarriedNames_91 S rec (C.1, C.2.1, C.2.2.1, C.2.2.2.1, C.2.2.2.2.1, C.2.2.2.2.2.1, C.2.2.2.2.2.2.1, C.2.2.2.2.2.2.2.1, C.2.2.2.2.2.2.2.2.1, C.2.2.2.2.2.2.2.2.2.1, C.2.2.2.2.2.2.2.2.2.2.1, q2) x2 x3 x4) else (zlet (C.2.2.1 + 1) fun u7 => j_X4_findCarriedNames_91 S rec (C.1, C.2.1, u7, C.2.2.2.1, C.2.2.2.2.1, C.2.2.2.2.2.1, C.2.2.2.2.2.2.1, C.2.2.2.2.2.2.2.1, C.2.2.2.2.2.2.2.2.1, C.2.2.2.2.2.2.2.2.2.1, C.2.2.2.2.2.2.2.2.2.2.1, q2) x2 x3 x4)
def j_X4_findCarriedNames_56 (S : t_Script) (rec : (t_Scenes × Int32 × Int32) → Option (t_Scenes)) (C : t_Scenes) (x2 : Int32) (x3 : Int32) (x4 : Int32) (z0 : Int32) : Option (t_Scenes) := if z0 = 0 then (j_X4_findCarriedNames_73 S rec C x2 x3 x4 z0 0 x3) else (j_X4_findCarriedNames_73 S rec C x2 x3 x4 z0 1 x3)
def j_X4_findCarriedNames_55 (S : t_Script) (rec : (t_Scenes × Int32 × Int32) → Option (t_Scenes)) (C : t_Scenes) (x2 : Int32) (x3 : Int32) (x4 : Int32) : Option (t_Scenes) := j_X4_findCarriedNames_56 S rec C x2 x3 x4 0
def b_X4_findCarriedNames_9 (S : t_Script)  (rec : (t_Scenes × Int32 × Int32) → Option (t_Scenes)) (v : t_Scenes × Int32 × Int32) : Option (t_Scenes) := if S.1 ≤ v.2.2 then (some v.1) else (zlet (rAt 60 S.2.2.2.2.1 v.2.2) fun q1 => if q1 = (-1) then (j_X4_findCarriedNames_55 S rec v.1 v.2.1 v.2.2 q1) else (if q1 = v.2.1 then (zlet (rAt 60 v.1.2.2.2.2.2.2.2.2.2.2.1 v.2.2) fun q8 => if q8 = (-1) then (j_X4_findCarriedNames_55 S rec v.1 v.2.1 v.2.2 q1) else (j_X4_findCarriedNames_56 S rec v.1 v.2.1 v.2.2 q1 1)) else (j_X4_findCarriedNames_55 S rec v.1 v.2.1 v.2.2 q1)))
def X4_findCarriedNames (C : t_Scenes) (S : t_Script) : Option t_Scenes := (zloop (b_X4_findCarriedNames_9 S) FU ((C.1, C.2.1, 0, C.2.2.2.1, C.2.2.2.2.1, C.2.2.2.2.2.1, C.2.2.2.2.2.2.1, C.2.2.2.2.2.2.2.1, C.2.2.2.2.2.2.2.2.1, C.2.2.2.2.2.2.2.2.2.1, C.2.2.2.2.2.2.2.2.2.2.1, C.2.2.2.2.2.2.2.2.2.2.2), (-1), 0)).bind fun q9 => some q9
def b_X4_findLimits_9 (S : t_Script)  (rec : (t_Scenes × Int32 × Int32) → Option (t_Scenes)) (v : t_Scenes × Int32 × Int32) : Option (t_Scenes) := if v.2.2 < 0 then (some v.1) else (zlet (rPut 60 v.1.2.2.2.2.2.2.2.2.2.1 v.2.2 v.2.1) fun q2 => zlet (rAt 60 v.1.2.2.2.1 v.2.2) fun q3 => zlet (X5_isLocked S q3) fun q4 => if q4 = 0 then (zlet (v.2.2 + (-1)) fun u5 => rec ((v.1.1, v.1.2.1, v.1.2.2.1, v.1.2.2.2.1, v.1.2.2.2.2.1, v.1.2.2.2.2.2.1, v.1.2.2.2.2.2.2.1, v.1.2.2.2.2.2.2.2.1, v.1.2.2.2.2.2.2.2.2.1, q2, v.1.2.2.2.2.2.2.2.2.2.2.1, v.1.2.2.2.2.2.2.2.2.2.2.2), v.2.1, u5)) else (zlet (rAt 60 S.2.2.2.2.2.2.2.1 q3) fun q6 => zlet (v.2.2 + (-1)) fun u7 => rec ((v.1.1, v.1.2.1, v.1.2.2.1, v.1.2.2.2.1, v.1.2.2.2.2.1, v.1.2.2.2.2.2.1, v.1.2.2.2.2.2.2.1, v.1.2.2.2.2.2.2.2.1, v.1.2.2.2.2.2.2.2.2.1, q2, v.1.2.2.2.2.2.2.2.2.2.2.1, v.1.2.2.2.2.2.2.2.2.2.2.2), q6, u7)))
def X4_findLimits (C : t_Scenes) (S : t_Script) : Option t_Scenes := zlet (C.1 - 1) fun u1 => (zloop (b_X4_findLimits_9 S) FU (C, (-1), u1)).bind fun q8 => some q8
def X4_putLabel (C : t_Scenes) (p1 : Int32) (p2 : Int32) (p3 : Int32) (p4 : Int32) : t_Scenes := zlet (rPut 60 C.2.2.2.2.2.2.1 p1 p2) fun q1 => zlet (rPut 60 C.2.2.2.2.2.2.2.1 p1 p3) fun q2 => zlet (rPut 60 C.2.2.2.2.2.2.2.2.1 p1 p4) fun q3 => (C.1, C.2.1, C.2.2.1, C.2.2.2.1, C.2.2.2.2.1, C.2.2.2.2.2.1, q1, q2, q3, C.2.2.2.2.2.2.2.2.2.1, C.2.2.2.2.2.2.2.2.2.2.1, C.2.2.2.2.2.2.2.2.2.2.2)
def X4_labelOpen (C : t_Scenes) (p1 : Int32) (p2 : Int32) (p3 : Int32) (p4 : Int32) (p5 : Int32) : t_Scenes := if C.2.1 = 0 then (zlet (X4_putLabel C p1 p5 0 0) fun q6 => q6) else (zlet (rAt 60 C.2.2.2.2.2.2.2.2.2.1 p1) fun q1 => if q1 = p2 then (zlet (p4 + p5) fun u4 => zlet (X4_putLabel C p1 p2 p3 u4) fun q5 => q5) else (zlet (p3 + p5) fun u2 => zlet (X4_putLabel C p1 p2 u2 0) fun q3 => q3))
def b_X4_label_13 (S : t_Script)  (rec : (t_Scenes × Int32 × Int32 × Int32 × Int32 × Int32) → Option (t_Scenes)) (v : t_Scenes × Int32 × Int32 × Int32 × Int32 × Int32) : Option (t_Scenes) := if v.1.1 ≤ v.2.2.2.2.2 then (some v.1) else (zlet (rAt 60 v.1.2.2.2.1 v.2.2.2.2.2) fun q1 => zlet (X5_isLocked S q1) fun q2 => if q2 = 0 then (zlet (v.2.2.2.2.1 + 1) fun u3 => zlet (X4_labelOpen v.1 v.2.2.2.2.2 v.2.1 v.2.2.1 v.2.2.2.1 u3) fun q4 => zlet (v.2.2.2.2.2 + 1) fun u5 => rec (q4, v.2.1, v.2.2.1, v.2.2.2.1, u3, u5)) else (zlet (rAt 60 S.2.2.2.2.2.2.2.1 q1) fun q6 => zlet (rAt 60 S.2.2.2.2.2.2.2.2.1 q1) fun q7 => zlet (rAt 60 S.2.2.2.2.2.2.2.2.2 q1) fun q8 => zlet (X4_putLabel v.1 v.2.2.2.2.2 q6 q7 q8) fun q9 => zlet (v.2.2.2.2.2 + 1) fun u10 => rec (q9, q6, q7, q8, 0, u10)))
def X4_label (C : t_Scenes) (S : t_Script) : Option t_Scenes := (zloop (b_X4_label_13 S) FU (C, 0, 0, 0, 0, 0)).bind fun q11 => some q11
def X4_survey (C : t_Scenes) (S : t_Script) : Option t_Scenes := (X4_gather C S).bind fun q1 => (X4_findCarriedNames q1 S).bind fun q2 => (X4_findLimits q2 S).bind fun q3 => (X4_label q3 S).bind fun q4 => some q4
def X4_areTwins (C : t_Scenes) (p1 : Int32) (p2 : Int32) : Int32 := zlet (rAt 60 C.2.2.2.2.2.2.1 p1) fun q1 => zlet (rAt 60 C.2.2.2.2.2.2.1 p2) fun q2 => if q1 = q2 then (zlet (rAt 60 C.2.2.2.2.2.2.2.1 p1) fun q3 => zlet (rAt 60 C.2.2.2.2.2.2.2.1 p2) fun q4 => if q3 = q4 then (zlet (rAt 60 C.2.2.2.2.2.2.2.2.1 p1) fun q5 => zlet (rAt 60 C.2.2.2.2.2.2.2.2.1 p2) fun q6 => if q5 = q6 then (1) else (0)) else (0)) else (0)
theorem X4_areTwins_b (C : t_Scenes) (p1 : Int32) (p2 : Int32) : X4_areTwins C p1 p2 = 0 ∨ X4_areTwins C p1 p2 = 1 := by
  unfold X4_areTwins
  try simp only [zlet]
  repeat (first | exact Or.inl rfl | exact Or.inr rfl | split)
def b_X4_hasTwins_12 (C : t_Scenes) (x1 : Int32) (rec : Int32 → Option ((Unit) ⊕ (Int32))) (v : Int32) : Option ((Unit) ⊕ (Int32)) := if x1 ≤ v then (some (.inl ())) else (zlet (X4_areTwins C x1 v) fun q1 => if q1 = 0 then (zlet (v + 1) fun u2 => rec u2) else (some (.inr 1)))
def b_X4_hasTwins_2 (C : t_Scenes)  (rec : Int32 → Option ((Unit) ⊕ (Int32))) (v : Int32) : Option ((Unit) ⊕ (Int32)) := if C.1 ≤ v then (some (.inl ())) else ((zloop (b_X4_hasTwins_12 C v) FU 0).bind fun q3 => Sum.elim (fun y4 => zlet (v + 1) fun u5 => rec u5) (fun r => some (.inr r)) q3)
def X4_hasTwins (C : t_Scenes) : Option Int32 := (zloop (b_X4_hasTwins_2 C) FU 0).bind fun q6 => Sum.elim (fun y7 => some 0) (fun r => some r) q6
end
section
theorem vt_X5_isHeading : zVt yX5_isHeading cX5_isHeading 2 (some .boolean) 1 := ⟨zG_at 382 (by decide +kernel) (by decide +kernel), zG_at 383 (by decide +kernel) (by decide +kernel), zG_at 76 (by decide +kernel) (by decide +kernel), zG_at 384 (by decide +kernel) (by decide +kernel), by decide +kernel⟩
theorem vt_X5_isLocked : zVt yX5_isLocked cX5_isLocked 2 (some .boolean) 1 := ⟨zG_at 344 (by decide +kernel) (by decide +kernel), zG_at 345 (by decide +kernel) (by decide +kernel), zG_at 76 (by decide +kernel) (by decide +kernel), zG_at 346 (by decide +kernel) (by decide +kernel), by decide +kernel⟩
theorem vt_X3_plus : zVt yX3_plus cX3_plus 3 none 2 := ⟨zG_at 388 (by decide +kernel) (by decide +kernel), zG_at 389 (by decide +kernel) (by decide +kernel), zG_at 77 (by decide +kernel) (by decide +kernel), zG_at 390 (by decide +kernel) (by decide +kernel), by decide +kernel⟩
theorem vt_X5_linesOf : zVt yX5_linesOf cX5_linesOf 4 (some .int) 1 := ⟨zG_at 392 (by decide +kernel) (by decide +kernel), zG_at 393 (by decide +kernel) (by decide +kernel), zG_at 76 (by decide +kernel) (by decide +kernel), zG_at 394 (by decide +kernel) (by decide +kernel), by decide +kernel⟩
theorem vt_X4_putLabel : zVt yX4_putLabel cX4_putLabel 5 none 4 := ⟨zG_at 414 (by decide +kernel) (by decide +kernel), zG_at 7 (by decide +kernel) (by decide +kernel), zG_at 78 (by decide +kernel) (by decide +kernel), zG_at 415 (by decide +kernel) (by decide +kernel), by decide +kernel⟩
theorem vt_X4_labelOpen : zVt yX4_labelOpen cX4_labelOpen 6 none 5 := ⟨zG_at 418 (by decide +kernel) (by decide +kernel), zG_at 8 (by decide +kernel) (by decide +kernel), zG_at 78 (by decide +kernel) (by decide +kernel), zG_at 419 (by decide +kernel) (by decide +kernel), by decide +kernel⟩
theorem vt_X4_gather : zVt yX4_gather cX4_gather 4 none 1 := ⟨zG_at 379 (by decide +kernel) (by decide +kernel), zG_at 3 (by decide +kernel) (by decide +kernel), zG_at 78 (by decide +kernel) (by decide +kernel), zG_at 380 (by decide +kernel) (by decide +kernel), by decide +kernel⟩
theorem vt_X4_findCarriedNames : zVt yX4_findCarriedNames cX4_findCarriedNames 6 none 1 := ⟨zG_at 401 (by decide +kernel) (by decide +kernel), zG_at 4 (by decide +kernel) (by decide +kernel), zG_at 78 (by decide +kernel) (by decide +kernel), zG_at 402 (by decide +kernel) (by decide +kernel), by decide +kernel⟩
theorem vt_X4_findLimits : zVt yX4_findLimits cX4_findLimits 5 none 1 := ⟨zG_at 406 (by decide +kernel) (by decide +kernel), zG_at 5 (by decide +kernel) (by decide +kernel), zG_at 78 (by decide +kernel) (by decide +kernel), zG_at 407 (by decide +kernel) (by decide +kernel), by decide +kernel⟩
theorem vt_X4_label : zVt yX4_label cX4_label 8 none 1 := ⟨zG_at 410 (by decide +kernel) (by decide +kernel), zG_at 6 (by decide +kernel) (by decide +kernel), zG_at 78 (by decide +kernel) (by decide +kernel), zG_at 411 (by decide +kernel) (by decide +kernel), by decide +kernel⟩
theorem vt_X4_areTwins : zVt yX4_areTwins cX4_areTwins 3 (some .boolean) 2 := ⟨zG_at 740 (by decide +kernel) (by decide +kernel), zG_at 31 (by decide +kernel) (by decide +kernel), zG_at 78 (by decide +kernel) (by decide +kernel), zG_at 741 (by decide +kernel) (by decide +kernel), by decide +kernel⟩
theorem k_f_X4_9 : Cond.fieldLink RX4 9 "ScriptPages$Scenes" "count" "I" ∈ zG := zG_at 170 (by decide +kernel) (by decide +kernel)
theorem k_f_X4_15 : Cond.fieldLink RX4 15 "ScriptPages$Scenes" "lockedCount" "I" ∈ zG := zG_at 172 (by decide +kernel) (by decide +kernel)
theorem k_m_X4_76 : Cond.methodLink RX4 76 yX5_isHeading ∈ zG := zG_at 381 (by decide +kernel) (by decide +kernel)
theorem k_m_X4_84 : Cond.methodLink RX4 84 yX5_isLocked ∈ zG := zG_at 386 (by decide +kernel) (by decide +kernel)
theorem k_f_X4_48 : Cond.fieldLink RX4 48 "ScriptPages$Scenes" "homes" "LScriptPages$Row;" ∈ zG := zG_at 189 (by decide +kernel) (by decide +kernel)
theorem k_m_X4_80 : Cond.methodLink RX4 80 yX3_put ∈ zG := zG_at 385 (by decide +kernel) (by decide +kernel)
theorem k_f_X4_30 : Cond.fieldLink RX4 30 "ScriptPages$Scenes" "sizes" "LScriptPages$Row;" ∈ zG := zG_at 178 (by decide +kernel) (by decide +kernel)
theorem k_m_X4_87 : Cond.methodLink RX4 87 yX3_plus ∈ zG := zG_at 387 (by decide +kernel) (by decide +kernel)
theorem k_f_X4_33 : Cond.fieldLink RX4 33 "ScriptPages$Scenes" "sums" "LScriptPages$Row;" ∈ zG := zG_at 180 (by decide +kernel) (by decide +kernel)
theorem k_m_X4_90 : Cond.methodLink RX4 90 yX5_linesOf ∈ zG := zG_at 391 (by decide +kernel) (by decide +kernel)
theorem k_f_X4_26 : Cond.fieldLink RX4 26 "ScriptPages$Scenes" "headings" "LScriptPages$Row;" ∈ zG := zG_at 176 (by decide +kernel) (by decide +kernel)
theorem k_f_X4_18 : Cond.fieldLink RX4 18 "ScriptPages$Scenes" "carriedCount" "I" ∈ zG := zG_at 174 (by decide +kernel) (by decide +kernel)
theorem k_m_X4_97 : Cond.methodLink RX4 97 yX3_at ∈ zG := zG_at 403 (by decide +kernel) (by decide +kernel)
theorem k_f_X4_51 : Cond.fieldLink RX4 51 "ScriptPages$Scenes" "carries" "LScriptPages$Row;" ∈ zG := zG_at 191 (by decide +kernel) (by decide +kernel)
theorem k_f_X4_45 : Cond.fieldLink RX4 45 "ScriptPages$Scenes" "limits" "LScriptPages$Row;" ∈ zG := zG_at 188 (by decide +kernel) (by decide +kernel)
theorem k_f_X4_36 : Cond.fieldLink RX4 36 "ScriptPages$Scenes" "firsts" "LScriptPages$Row;" ∈ zG := zG_at 182 (by decide +kernel) (by decide +kernel)
theorem k_f_X4_39 : Cond.fieldLink RX4 39 "ScriptPages$Scenes" "seconds" "LScriptPages$Row;" ∈ zG := zG_at 184 (by decide +kernel) (by decide +kernel)
theorem k_f_X4_42 : Cond.fieldLink RX4 42 "ScriptPages$Scenes" "thirds" "LScriptPages$Row;" ∈ zG := zG_at 186 (by decide +kernel) (by decide +kernel)
theorem k_m_X4_103 : Cond.methodLink RX4 103 yX4_putLabel ∈ zG := zG_at 412 (by decide +kernel) (by decide +kernel)
theorem k_m_X4_107 : Cond.methodLink RX4 107 yX4_labelOpen ∈ zG := zG_at 416 (by decide +kernel) (by decide +kernel)
theorem k_m_X4_58 : Cond.methodLink RX4 58 yX4_gather ∈ zG := zG_at 377 (by decide +kernel) (by decide +kernel)
theorem k_m_X4_62 : Cond.methodLink RX4 62 yX4_findCarriedNames ∈ zG := zG_at 399 (by decide +kernel) (by decide +kernel)
theorem k_m_X4_65 : Cond.methodLink RX4 65 yX4_findLimits ∈ zG := zG_at 404 (by decide +kernel) (by decide +kernel)
theorem k_m_X4_68 : Cond.methodLink RX4 68 yX4_label ∈ zG := zG_at 408 (by decide +kernel) (by decide +kernel)
theorem k_m_X4_111 : Cond.methodLink RX4 111 yX4_areTwins ∈ zG := zG_at 738 (by decide +kernel) (by decide +kernel)
theorem kn_X4_54 {U : State} (h : zNW U) : va_Nw (.methodLinkNest RX4 54 yX6_isBelow "ScriptPages") U := h.mth 6 (by decide +kernel)
theorem kn_X4_71 {U : State} (h : zNW U) {args : Array Value} : (Cond.fieldLinkNest RX4 71 "ScriptPages$Script" "size" "I" "ScriptPages").before args U = true := h.fld 3 (by decide +kernel)
theorem kn_X4_94 {U : State} (h : zNW U) {args : Array Value} : (Cond.fieldLinkNest RX4 94 "ScriptPages$Script" "persons" "LScriptPages$Row;" "ScriptPages").before args U = true := h.fld 9 (by decide +kernel)
theorem kn_X4_100 {U : State} (h : zNW U) {args : Array Value} : (Cond.fieldLinkNest RX4 100 "ScriptPages$Script" "firsts" "LScriptPages$Row;" "ScriptPages").before args U = true := h.fld 13 (by decide +kernel)
theorem kn_X4_101 {U : State} (h : zNW U) {args : Array Value} : (Cond.fieldLinkNest RX4 101 "ScriptPages$Script" "seconds" "LScriptPages$Row;" "ScriptPages").before args U = true := h.fld 14 (by decide +kernel)
theorem kn_X4_102 {U : State} (h : zNW U) {args : Array Value} : (Cond.fieldLinkNest RX4 102 "ScriptPages$Script" "thirds" "LScriptPages$Row;" "ScriptPages").before args U = true := h.fld 15 (by decide +kernel)
def rm_X4_has : Room := { frames := 1, cells := 0, slots := 0, locals := 21 }
set_option maxRecDepth 100000 in
set_option maxHeartbeats 4000000 in
theorem c_X4_has (l : Launch) (Z : zZ) (Ac : Nat → Nat) (C : t_Scenes) (p1 : Int32) (R : Int32) (hF : X4_has C p1 = R) : zRO l yX4_has (zw yX4_has cX4_has 2 (some .boolean)) rm_X4_has Z [.ref (Ac 0), .int p1] (w_Scenes Z.2.1 Ac C) (some (.int R)) := by
  refine zRO_of (by decide) (Nat.le_of_ble_eq_true rfl) (fun p e s m below meth c hx hb hr hml hown hts hlocks hK Q hQ ls hl hP hS => ?_)
  unfold X4_has at hF
  have hl : lv_has ls 2 [(0, .ref (Ac 0)), (1, .int p1)] := hl
  have hown : s.vm.findClass RX4 = some m.cls := hown
  have hP : va_P Z.1 vwCl (l_Scenes Z.2.1 Ac C.1 C.2.1 C.2.2.1 C.2.2.2.1 C.2.2.2.2.1 C.2.2.2.2.2.1 C.2.2.2.2.2.2.1 C.2.2.2.2.2.2.2.1 C.2.2.2.2.2.2.2.2.1 C.2.2.2.2.2.2.2.2.2.1 C.2.2.2.2.2.2.2.2.2.2.1 C.2.2.2.2.2.2.2.2.2.2.2).flatten s.heap := hP
  refine lv_iload_n hx hb (z_d hX4_has_0 0 rfl) rfl (lv_at hl 1 rfl) ?_
  refine lv_aload_n hx hb (z_d hX4_has_0 1 rfl) rfl (lv_at hl 0 rfl) ?_
  refine va_get (D := Z.1) (ci := 4) (v := .int C.1) (C := RX4) (T := TX4) (N := 12) hx hb hts zinX4 hown hK.1 (zP_reg hP 0 rfl) 0 rfl rfl 0 (by decide) (hts _ k_f_X4_9) (fun _ h9 => h9) rfl (z_d hX4_has_0 2 rfl) ?_
  refine z_let hF (fun q1 hq1 hF => ?_)
  refine z_ro_i (z_rSN (As := [.int p1, .int C.1]) (rest := []) hx hb hml hown hts vs_X6_isBelow (c_X6_isBelow l Z p1 C.1 _ hq1) rfl rfl ⟨Nat.le_of_ble_eq_true rfl, Nat.le_of_ble_eq_true rfl⟩ (kn_X4_54 hK.2) zPro_blind (z_prec hK zP_nil) rfl hl.1 (Nat.le_of_ble_eq_true rfl) (z_d hX4_has_0 3 rfl) ⟨Nat.zero_le _, Nat.zero_le _⟩) hS hP (fun H locs hP hS => ?_)
  have hz9 := z_bool (hq1 ▸ X6_isBelow_b p1 C.1)
  obtain rfl := hF
  subst hQ
  exact W.zret hx hb hr hz9 (fun t ht hW => zq_ro (hS.F ht)) hS.2.2 (z_d hX4_has_0 4 rfl)
def rm_X4_gather : Room := { frames := 3, cells := 0, slots := 0, locals := 65 }
set_option maxRecDepth 100000 in
set_option maxHeartbeats 4000000 in
theorem c_X4_gather (l : Launch) (Z : zZ) (Ac : Nat → Nat) (As : Nat → Nat) (C : t_Scenes) (S : t_Script) (R : t_Scenes) (hF : X4_gather C S = some R) : zMU l yX4_gather (zw yX4_gather cX4_gather 4 none) rm_X4_gather Z [.ref (Ac 0), .ref (As 0)] (List.flatten [w_Scenes Z.2.1 Ac C, w_Script Z.2.1 As S]) (List.flatten [w_Scenes Z.2.1 Ac R, w_Script Z.2.1 As S]) none := by
  refine zMU_of (by decide) (Nat.le_of_ble_eq_true rfl) (fun p e s m below meth c hx hb hr hml hown hts hlocks hK A hA Q hQ ls hl hP hD hS => ?_)
  unfold X4_gather at hF
  have hl : lv_has ls 4 [(0, .ref (Ac 0)), (1, .ref (As 0))] := hl
  have hown : s.vm.findClass RX4 = some m.cls := hown
  have hP : va_P Z.1 vwCl (l_Scenes Z.2.1 Ac C.1 C.2.1 C.2.2.1 C.2.2.2.1 C.2.2.2.2.1 C.2.2.2.2.2.1 C.2.2.2.2.2.2.1 C.2.2.2.2.2.2.2.1 C.2.2.2.2.2.2.2.2.1 C.2.2.2.2.2.2.2.2.2.1 C.2.2.2.2.2.2.2.2.2.2.1 C.2.2.2.2.2.2.2.2.2.2.2 ++ [w_Script Z.2.1 As S]).flatten s.heap := zfr hP
  have hD : va_D A (l_Scenes Z.2.1 Ac C.1 C.2.1 C.2.2.1 C.2.2.2.1 C.2.2.2.2.1 C.2.2.2.2.2.1 C.2.2.2.2.2.2.1 C.2.2.2.2.2.2.2.1 C.2.2.2.2.2.2.2.2.1 C.2.2.2.2.2.2.2.2.2.1 C.2.2.2.2.2.2.2.2.2.2.1 C.2.2.2.2.2.2.2.2.2.2.2 ++ [w_Script Z.2.1 As S]).flatten := zfrD hD
  have L12 : ∀  (n : Nat) (v : t_Scenes × Int32) (X : t_Scenes) (hF : zloop (b_X4_gather_12 S ) n v = some X) (H : Heap) (locs : List Loc) (ls : Array Slot) (hP : va_P Z.1 vwCl (l_Scenes Z.2.1 Ac v.1.1 v.1.2.1 v.1.2.2.1 v.1.2.2.2.1 v.1.2.2.2.2.1 v.1.2.2.2.2.2.1 v.1.2.2.2.2.2.2.1 v.1.2.2.2.2.2.2.2.1 v.1.2.2.2.2.2.2.2.2.1 v.1.2.2.2.2.2.2.2.2.2.1 v.1.2.2.2.2.2.2.2.2.2.2.1 v.1.2.2.2.2.2.2.2.2.2.2.2 ++ [w_Script Z.2.1 As S]).flatten H) (hD : va_D A (l_Scenes Z.2.1 Ac v.1.1 v.1.2.1 v.1.2.2.1 v.1.2.2.2.1 v.1.2.2.2.2.1 v.1.2.2.2.2.2.1 v.1.2.2.2.2.2.2.1 v.1.2.2.2.2.2.2.2.1 v.1.2.2.2.2.2.2.2.2.1 v.1.2.2.2.2.2.2.2.2.2.1 v.1.2.2.2.2.2.2.2.2.2.2.1 v.1.2.2.2.2.2.2.2.2.2.2.2 ++ [w_Script Z.2.1 As S]).flatten) (hS : va_S A s.heap H locs) (hl : lv_has ls 4 [(0, .ref (Ac 0)), (1, .ref (As 0)), (2, .int v.2)]) (K1 : ∀ (H : Heap) (locs : List Loc) (ls : Array Slot) (hP : va_P Z.1 vwCl (l_Scenes Z.2.1 Ac X.1 X.2.1 X.2.2.1 X.2.2.2.1 X.2.2.2.2.1 X.2.2.2.2.2.1 X.2.2.2.2.2.2.1 X.2.2.2.2.2.2.2.1 X.2.2.2.2.2.2.2.2.1 X.2.2.2.2.2.2.2.2.2.1 X.2.2.2.2.2.2.2.2.2.2.1 X.2.2.2.2.2.2.2.2.2.2.2 ++ [w_Script Z.2.1 As S]).flatten H) (hD : va_D A (l_Scenes Z.2.1 Ac X.1 X.2.1 X.2.2.1 X.2.2.2.1 X.2.2.2.2.1 X.2.2.2.2.2.1 X.2.2.2.2.2.2.1 X.2.2.2.2.2.2.2.1 X.2.2.2.2.2.2.2.2.1 X.2.2.2.2.2.2.2.2.2.1 X.2.2.2.2.2.2.2.2.2.2.1 X.2.2.2.2.2.2.2.2.2.2.2 ++ [w_Script Z.2.1 As S]).flatten) (hS : va_S A s.heap H locs) (hl : lv_has ls 4 [(0, .ref (Ac 0)), (1, .ref (As 0))]), W p l e rm_X4_gather s m ([.ref (Ac 0), .ref (As 0)] : List Value).toArray below meth c H locs 0 0 Q (F0 m 147 ls [])), W p l e rm_X4_gather s m ([.ref (Ac 0), .ref (As 0)] : List Value).toArray below meth c H locs 0 0 Q (F0 m 12 ls []) := by
    skip
    refine z_loopE (fun rec ih v X hF H locs ls hP hD hS hl K1 => ?_)
    unfold b_X4_gather_12 at hF
    have J109 : ∀ (C : t_Scenes) (x2 : Int32) (z0 : Int32) (hF : j_X4_gather_109 S rec C x2 z0 = some X) (H : Heap) (locs : List Loc) (ls : Array Slot) (hP : va_P Z.1 vwCl (l_Scenes Z.2.1 Ac C.1 C.2.1 C.2.2.1 C.2.2.2.1 C.2.2.2.2.1 C.2.2.2.2.2.1 C.2.2.2.2.2.2.1 C.2.2.2.2.2.2.2.1 C.2.2.2.2.2.2.2.2.1 C.2.2.2.2.2.2.2.2.2.1 C.2.2.2.2.2.2.2.2.2.2.1 C.2.2.2.2.2.2.2.2.2.2.2 ++ [w_Script Z.2.1 As S]).flatten H) (hD : va_D A (l_Scenes Z.2.1 Ac C.1 C.2.1 C.2.2.1 C.2.2.2.1 C.2.2.2.2.1 C.2.2.2.2.2.1 C.2.2.2.2.2.2.1 C.2.2.2.2.2.2.2.1 C.2.2.2.2.2.2.2.2.1 C.2.2.2.2.2.2.2.2.2.1 C.2.2.2.2.2.2.2.2.2.2.1 C.2.2.2.2.2.2.2.2.2.2.2 ++ [w_Script Z.2.1 As S]).flatten) (hS : va_S A s.heap H locs) (hl : lv_has ls 4 [(0, .ref (Ac 0)), (1, .ref (As 0)), (2, .int x2)]), W p l e rm_X4_gather s m ([.ref (Ac 0), .ref (As 0)] : List Value).toArray below meth c H locs 0 0 Q (F0 m 109 ls [.int z0]) := by
      intro C x2 z0 hF H locs ls hP hD hS hl
      unfold j_X4_gather_109 at hF
      refine lv_istore_n (lv' := [(3, .int z0), (0, .ref (Ac 0)), (1, .ref (As 0)), (2, .int x2)]) hx hb (z_d hX4_gather_0 59 rfl) rfl hl (by decide) rfl (fun ls hl => ?_)
      refine lv_aload_n hx hb (z_d hX4_gather_1 0 rfl) rfl (lv_at hl 1 rfl) ?_
      refine va_get (D := Z.1) (ci := 4) (v := .ref (Ac 15)) (C := RX4) (T := TX4) (N := 12) hx hb hts zinX4 hown hK.1 (zP_reg hP 0 rfl) 0 rfl rfl 10 (by decide) (hts _ k_f_X4_48) (fun _ h9 => h9) rfl (z_d hX4_gather_1 1 rfl) ?_
      refine lv_iload_n hx hb (z_d hX4_gather_1 2 rfl) rfl (lv_at hl 3 rfl) ?_
      refine lv_iload_n hx hb (z_d hX4_gather_1 3 rfl) rfl (lv_at hl 0 rfl) ?_
      refine z_let hF (fun q3 hq3 hF => ?_)
      refine z_mu1 (L := l_Scenes Z.2.1 Ac C.1 C.2.1 C.2.2.1 C.2.2.2.1 C.2.2.2.2.1 C.2.2.2.2.2.1 C.2.2.2.2.2.2.1 C.2.2.2.2.2.2.2.1 C.2.2.2.2.2.2.2.2.1 C.2.2.2.2.2.2.2.2.2.1 C.2.2.2.2.2.2.2.2.2.2.1 C.2.2.2.2.2.2.2.2.2.2.2 ++ [w_Script Z.2.1 As S]) (L' := l_Scenes Z.2.1 Ac C.1 C.2.1 C.2.2.1 C.2.2.2.1 C.2.2.2.2.1 C.2.2.2.2.2.1 C.2.2.2.2.2.2.1 C.2.2.2.2.2.2.2.1 C.2.2.2.2.2.2.2.2.1 C.2.2.2.2.2.2.2.2.2.1 q3 C.2.2.2.2.2.2.2.2.2.2.2 ++ [w_Script Z.2.1 As S]) (z_rV (As := [.int x2, .int z0]) (rest := []) hx hb hml hown hts vt_X3_put (c_rPut l Z 60 (Ac 15) (Ac 16) (by decide) C.2.2.2.2.2.2.2.2.2.2.1 x2 z0 _ hq3) rfl rfl ⟨Nat.le_of_ble_eq_true rfl, Nat.le_of_ble_eq_true rfl⟩ k_m_X4_80 zPmu_blind (z_recv (q := (RX3, TX3, 1)) (ci := 3) (q0 := 0) hK (zP_reg hP 8 rfl) rfl rfl) (z_prem hK (zP_reg hP 8 rfl) (zD_one hD 8 _ rfl)) rfl hl.1 (Nat.le_of_ble_eq_true rfl) (z_d hX4_gather_1 4 rfl) ⟨Nat.zero_le _, Nat.zero_le _⟩) hS hP hD 8 rfl rfl rfl (fun H locs hP hD hS => ?_)
      refine W.eq (g2 := F0 m 119 ls []) rfl ?_
      refine lv_aload_n hx hb (z_d hX4_gather_1 5 rfl) rfl (lv_at hl 1 rfl) ?_
      refine va_get (D := Z.1) (ci := 4) (v := .ref (Ac 3)) (C := RX4) (T := TX4) (N := 12) hx hb hts zinX4 hown hK.1 (zP_reg hP 0 rfl) 0 rfl rfl 4 (by decide) (hts _ k_f_X4_30) (fun _ h9 => h9) rfl (z_d hX4_gather_1 6 rfl) ?_
      refine lv_iload_n hx hb (z_d hX4_gather_1 7 rfl) rfl (lv_at hl 0 rfl) ?_
      refine lv_iconst (v := 1) hx hb (z_d hX4_gather_1 8 rfl) (by decide) ?_
      refine z_let hF (fun q4 hq4 hF => ?_)
      refine z_mu1 (L := l_Scenes Z.2.1 Ac C.1 C.2.1 C.2.2.1 C.2.2.2.1 C.2.2.2.2.1 C.2.2.2.2.2.1 C.2.2.2.2.2.2.1 C.2.2.2.2.2.2.2.1 C.2.2.2.2.2.2.2.2.1 C.2.2.2.2.2.2.2.2.2.1 q3 C.2.2.2.2.2.2.2.2.2.2.2 ++ [w_Script Z.2.1 As S]) (L' := l_Scenes Z.2.1 Ac C.1 C.2.1 C.2.2.1 C.2.2.2.1 q4 C.2.2.2.2.2.1 C.2.2.2.2.2.2.1 C.2.2.2.2.2.2.2.1 C.2.2.2.2.2.2.2.2.1 C.2.2.2.2.2.2.2.2.2.1 q3 C.2.2.2.2.2.2.2.2.2.2.2 ++ [w_Script Z.2.1 As S]) (z_rV (As := [.int z0, .int 1]) (rest := []) hx hb hml hown hts vt_X3_plus (c_rPlus l Z 60 (Ac 3) (Ac 4) (by decide) C.2.2.2.2.1 z0 1 _ hq4) rfl rfl ⟨Nat.le_of_ble_eq_true rfl, Nat.le_of_ble_eq_true rfl⟩ k_m_X4_87 zPmu_blind (z_recv (q := (RX3, TX3, 1)) (ci := 3) (q0 := 0) hK (zP_reg hP 2 rfl) rfl rfl) (z_prem hK (zP_reg hP 2 rfl) (zD_one hD 2 _ rfl)) rfl hl.1 (Nat.le_of_ble_eq_true rfl) (z_d hX4_gather_1 9 rfl) ⟨Nat.zero_le _, Nat.zero_le _⟩) hS hP hD 2 rfl rfl rfl (fun H locs hP hD hS => ?_)
      refine W.eq (g2 := F0 m 128 ls []) rfl ?_
      refine lv_aload_n hx hb (z_d hX4_gather_1 10 rfl) rfl (lv_at hl 1 rfl) ?_
      refine va_get (D := Z.1) (ci := 4) (v := .ref (Ac 5)) (C := RX4) (T := TX4) (N := 12) hx hb hts zinX4 hown hK.1 (zP_reg hP 0 rfl) 0 rfl rfl 5 (by decide) (hts _ k_f_X4_33) (fun _ h9 => h9) rfl (z_d hX4_gather_1 11 rfl) ?_
      refine lv_iload_n hx hb (z_d hX4_gather_1 12 rfl) rfl (lv_at hl 0 rfl) ?_
      refine lv_aload_n hx hb (z_d hX4_gather_1 13 rfl) rfl (lv_at hl 2 rfl) ?_
      refine lv_iload_n hx hb (z_d hX4_gather_1 14 rfl) rfl (lv_at hl 3 rfl) ?_
      refine z_let hF (fun q5 hq5 hF => ?_)
      refine z_ro_i (z_rV (As := [.int x2]) (rest := [.int z0, .ref (Ac 5)]) hx hb hml hown hts vt_X5_linesOf (c_X5_linesOf l Z As S x2 _ hq5) rfl rfl ⟨Nat.le_of_ble_eq_true rfl, Nat.le_of_ble_eq_true rfl⟩ k_m_X4_90 zPro_blind (z_recv (q := (RX5, TX5, 10)) (ci := 5) (q0 := 0) hK (zP_reg (L := l_Script Z.2.1 As S.1 S.2.1 S.2.2.1 S.2.2.2.1 S.2.2.2.2.1 S.2.2.2.2.2.1 S.2.2.2.2.2.2.1 S.2.2.2.2.2.2.2.1 S.2.2.2.2.2.2.2.2.1 S.2.2.2.2.2.2.2.2.2) (zP_reg hP 10 rfl) 0 rfl) rfl rfl) (z_prec hK (zP_reg hP 10 rfl)) rfl hl.1 (Nat.le_of_ble_eq_true rfl) (z_d hX4_gather_1 15 rfl) ⟨Nat.zero_le _, Nat.zero_le _⟩) hS hP (fun H locs hP hS => ?_)
      refine z_let hF (fun q6 hq6 hF => ?_)
      refine z_mu1 (L := l_Scenes Z.2.1 Ac C.1 C.2.1 C.2.2.1 C.2.2.2.1 q4 C.2.2.2.2.2.1 C.2.2.2.2.2.2.1 C.2.2.2.2.2.2.2.1 C.2.2.2.2.2.2.2.2.1 C.2.2.2.2.2.2.2.2.2.1 q3 C.2.2.2.2.2.2.2.2.2.2.2 ++ [w_Script Z.2.1 As S]) (L' := l_Scenes Z.2.1 Ac C.1 C.2.1 C.2.2.1 C.2.2.2.1 q4 q6 C.2.2.2.2.2.2.1 C.2.2.2.2.2.2.2.1 C.2.2.2.2.2.2.2.2.1 C.2.2.2.2.2.2.2.2.2.1 q3 C.2.2.2.2.2.2.2.2.2.2.2 ++ [w_Script Z.2.1 As S]) (z_rV (As := [.int z0, .int q5]) (rest := []) hx hb hml hown hts vt_X3_plus (c_rPlus l Z 60 (Ac 5) (Ac 6) (by decide) C.2.2.2.2.2.1 z0 q5 _ hq6) rfl rfl ⟨Nat.le_of_ble_eq_true rfl, Nat.le_of_ble_eq_true rfl⟩ k_m_X4_87 zPmu_blind (z_recv (q := (RX3, TX3, 1)) (ci := 3) (q0 := 0) hK (zP_reg hP 3 rfl) rfl rfl) (z_prem hK (zP_reg hP 3 rfl) (zD_one hD 3 _ rfl)) rfl hl.1 (Nat.le_of_ble_eq_true rfl) (z_d hX4_gather_1 16 rfl) ⟨Nat.zero_le _, Nat.zero_le _⟩) hS hP hD 3 rfl rfl rfl (fun H locs hP hD hS => ?_)
      refine W.eq (g2 := F0 m 141 ls []) rfl ?_
      refine z_let hF (fun u7 hu7 hF => ?_)
      refine lv_iinc (v := u7) (lv' := [(2, .int u7), (3, .int z0), (0, .ref (Ac 0)), (1, .ref (As 0))]) hx hb (z_d hX4_gather_1 17 rfl) hl (k := 3) rfl (z_inc1 hu7) (by decide) rfl (fun ls hl => ?_)
      refine lv_goto (tgt := 12) hx hb (z_d hX4_gather_1 18 rfl) (by decide) ?_
      exact ih _ _ hF _ _ ls hP hD hS (lv_sub hl [2, 3, 0] rfl) K1
    have J92 : ∀ (C : t_Scenes) (x2 : Int32) (hF : j_X4_gather_92 S rec C x2 = some X) (H : Heap) (locs : List Loc) (ls : Array Slot) (hP : va_P Z.1 vwCl (l_Scenes Z.2.1 Ac C.1 C.2.1 C.2.2.1 C.2.2.2.1 C.2.2.2.2.1 C.2.2.2.2.2.1 C.2.2.2.2.2.2.1 C.2.2.2.2.2.2.2.1 C.2.2.2.2.2.2.2.2.1 C.2.2.2.2.2.2.2.2.2.1 C.2.2.2.2.2.2.2.2.2.2.1 C.2.2.2.2.2.2.2.2.2.2.2 ++ [w_Script Z.2.1 As S]).flatten H) (hD : va_D A (l_Scenes Z.2.1 Ac C.1 C.2.1 C.2.2.1 C.2.2.2.1 C.2.2.2.2.1 C.2.2.2.2.2.1 C.2.2.2.2.2.2.1 C.2.2.2.2.2.2.2.1 C.2.2.2.2.2.2.2.2.1 C.2.2.2.2.2.2.2.2.2.1 C.2.2.2.2.2.2.2.2.2.2.1 C.2.2.2.2.2.2.2.2.2.2.2 ++ [w_Script Z.2.1 As S]).flatten) (hS : va_S A s.heap H locs) (hl : lv_has ls 4 [(0, .ref (Ac 0)), (1, .ref (As 0)), (2, .int x2)]), W p l e rm_X4_gather s m ([.ref (Ac 0), .ref (As 0)] : List Value).toArray below meth c H locs 0 0 Q (F0 m 92 ls []) := by
      intro C x2 hF H locs ls hP hD hS hl
      unfold j_X4_gather_92 at hF
      refine lv_aload_n hx hb (z_d hX4_gather_0 50 rfl) rfl (lv_at hl 0 rfl) ?_
      refine va_get (D := Z.1) (ci := 4) (v := .int C.1) (C := RX4) (T := TX4) (N := 12) hx hb hts zinX4 hown hK.1 (zP_reg hP 0 rfl) 0 rfl rfl 0 (by decide) (hts _ k_f_X4_9) (fun _ h9 => h9) rfl (z_d hX4_gather_0 51 rfl) ?_
      refine lv_if_le (tgt := 108) hx hb (z_d hX4_gather_0 52 rfl) (by decide) (fun hc96 => ?_) (fun hc96 => ?_)
      · have hF := z_pos hc96 hF
        refine lv_iconst (v := (-1)) hx hb (z_d hX4_gather_0 58 rfl) (by decide) ?_
        exact J109 C x2 (-1) hF _ _ ls hP hD hS (lv_sub hl [0, 1, 2] rfl)
      · have hF := z_neg hc96 hF
        refine lv_aload_n hx hb (z_d hX4_gather_0 53 rfl) rfl (lv_at hl 0 rfl) ?_
        refine va_get (D := Z.1) (ci := 4) (v := .int C.1) (C := RX4) (T := TX4) (N := 12) hx hb hts zinX4 hown hK.1 (zP_reg hP 0 rfl) 0 rfl rfl 0 (by decide) (hts _ k_f_X4_9) (fun _ h9 => h9) rfl (z_d hX4_gather_0 54 rfl) ?_
        refine lv_iconst (v := 1) hx hb (z_d hX4_gather_0 55 rfl) (by decide) ?_
        refine lv_isub hx hb (z_d hX4_gather_0 56 rfl) ?_
        refine z_let hF (fun u8 hu8 hF => ?_)
        refine lv_topE hu8 ?_
        refine lv_goto (tgt := 109) hx hb (z_d hX4_gather_0 57 rfl) (by decide) ?_
        exact J109 C x2 u8 hF _ _ ls hP hD hS (lv_sub hl [0, 1, 2] rfl)
    have J74 : ∀ (C : t_Scenes) (x2 : Int32) (hF : j_X4_gather_74 S rec C x2 = some X) (H : Heap) (locs : List Loc) (ls : Array Slot) (hP : va_P Z.1 vwCl (l_Scenes Z.2.1 Ac C.1 C.2.1 C.2.2.1 C.2.2.2.1 C.2.2.2.2.1 C.2.2.2.2.2.1 C.2.2.2.2.2.2.1 C.2.2.2.2.2.2.2.1 C.2.2.2.2.2.2.2.2.1 C.2.2.2.2.2.2.2.2.2.1 C.2.2.2.2.2.2.2.2.2.2.1 C.2.2.2.2.2.2.2.2.2.2.2 ++ [w_Script Z.2.1 As S]).flatten H) (hD : va_D A (l_Scenes Z.2.1 Ac C.1 C.2.1 C.2.2.1 C.2.2.2.1 C.2.2.2.2.1 C.2.2.2.2.2.1 C.2.2.2.2.2.2.1 C.2.2.2.2.2.2.2.1 C.2.2.2.2.2.2.2.2.1 C.2.2.2.2.2.2.2.2.2.1 C.2.2.2.2.2.2.2.2.2.2.1 C.2.2.2.2.2.2.2.2.2.2.2 ++ [w_Script Z.2.1 As S]).flatten) (hS : va_S A s.heap H locs) (hl : lv_has ls 4 [(0, .ref (Ac 0)), (1, .ref (As 0)), (2, .int x2)]), W p l e rm_X4_gather s m ([.ref (Ac 0), .ref (As 0)] : List Value).toArray below meth c H locs 0 0 Q (F0 m 74 ls []) := by
      intro C x2 hF H locs ls hP hD hS hl
      unfold j_X4_gather_74 at hF
      refine lv_aload_n hx hb (z_d hX4_gather_0 40 rfl) rfl (lv_at hl 1 rfl) ?_
      refine lv_iload_n hx hb (z_d hX4_gather_0 41 rfl) rfl (lv_at hl 2 rfl) ?_
      refine z_let hF (fun q2 hq2 hF => ?_)
      refine z_ro_i (z_rV (As := [.int x2]) (rest := []) hx hb hml hown hts vt_X5_isLocked (c_X5_isLocked l Z As S x2 _ hq2) rfl rfl ⟨Nat.le_of_ble_eq_true rfl, Nat.le_of_ble_eq_true rfl⟩ k_m_X4_84 zPro_blind (z_recv (q := (RX5, TX5, 10)) (ci := 5) (q0 := 0) hK (zP_reg (L := l_Script Z.2.1 As S.1 S.2.1 S.2.2.1 S.2.2.2.1 S.2.2.2.2.1 S.2.2.2.2.2.1 S.2.2.2.2.2.2.1 S.2.2.2.2.2.2.2.1 S.2.2.2.2.2.2.2.2.1 S.2.2.2.2.2.2.2.2.2) (zP_reg hP 10 rfl) 0 rfl) rfl rfl) (z_prec hK (zP_reg hP 10 rfl)) rfl hl.1 (Nat.le_of_ble_eq_true rfl) (z_d hX4_gather_0 42 rfl) ⟨Nat.zero_le _, Nat.zero_le _⟩) hS hP (fun H locs hP hS => ?_)
      refine lv_if_eq (tgt := 92) hx hb (z_d hX4_gather_0 43 rfl) (by decide) (fun hc79 => ?_) (fun hc79 => ?_)
      · have hF := z_pos hc79 hF
        exact J92 C x2 hF _ _ ls hP hD hS (lv_sub hl [0, 1, 2] rfl)
      · have hF := z_neg hc79 hF
        refine lv_aload_n hx hb (z_d hX4_gather_0 44 rfl) rfl (lv_at hl 0 rfl) ?_
        refine lv_dup hx hb (z_d hX4_gather_0 45 rfl) rfl ?_
        refine va_get (D := Z.1) (ci := 4) (v := .int C.2.1) (C := RX4) (T := TX4) (N := 12) hx hb hts zinX4 hown hK.1 (zP_reg hP 0 rfl) 0 rfl rfl 1 (by decide) (hts _ k_f_X4_15) (fun _ h9 => h9) rfl (z_d hX4_gather_0 46 rfl) ?_
        refine lv_iconst (v := 1) hx hb (z_d hX4_gather_0 47 rfl) (by decide) ?_
        refine lv_iadd hx hb (z_d hX4_gather_0 48 rfl) ?_
        refine z_let hF (fun u9 hu9 hF => ?_)
        refine lv_topE hu9 ?_
        refine z_put (Z := Z) (ci := 4) (v := .int u9) (ty := .int) (L := l_Scenes Z.2.1 Ac C.1 C.2.1 C.2.2.1 C.2.2.2.1 C.2.2.2.2.1 C.2.2.2.2.2.1 C.2.2.2.2.2.2.1 C.2.2.2.2.2.2.2.1 C.2.2.2.2.2.2.2.2.1 C.2.2.2.2.2.2.2.2.2.1 C.2.2.2.2.2.2.2.2.2.2.1 C.2.2.2.2.2.2.2.2.2.2.2 ++ [w_Script Z.2.1 As S]) (L' := l_Scenes Z.2.1 Ac C.1 u9 C.2.2.1 C.2.2.2.1 C.2.2.2.2.1 C.2.2.2.2.2.1 C.2.2.2.2.2.2.1 C.2.2.2.2.2.2.2.1 C.2.2.2.2.2.2.2.2.1 C.2.2.2.2.2.2.2.2.2.1 C.2.2.2.2.2.2.2.2.2.2.1 C.2.2.2.2.2.2.2.2.2.2.2 ++ [w_Script Z.2.1 As S]) (C := RX4) (T := TX4) (N := 12) hx hb hts zinX4 tyX4 tyX4_ok nmX4 hown hK hP hD hS 0 rfl rfl 1 (by decide) (hts _ k_f_X4_15) (fun _ h9 => h9) rfl (tyX4_ok 1 (by decide)) rfl rfl (Nat.le_of_ble_eq_true rfl) rfl (z_d hX4_gather_0 49 rfl) (fun H locs hP hD hS => ?_)
        exact J92 (C.1, u9, C.2.2.1, C.2.2.2.1, C.2.2.2.2.1, C.2.2.2.2.2.1, C.2.2.2.2.2.2.1, C.2.2.2.2.2.2.2.1, C.2.2.2.2.2.2.2.2.1, C.2.2.2.2.2.2.2.2.2.1, C.2.2.2.2.2.2.2.2.2.2.1, C.2.2.2.2.2.2.2.2.2.2.2) x2 hF _ _ ls hP hD hS (lv_sub hl [0, 1, 2] rfl)
    refine lv_iload_n hx hb (z_d hX4_gather_0 8 rfl) rfl (lv_at hl 2 rfl) ?_
    refine lv_aload_n hx hb (z_d hX4_gather_0 9 rfl) rfl (lv_at hl 1 rfl) ?_
    refine va_getN (D := Z.1) (ci := 5) (v := .int S.1) (C := RX5) (T := TX5) (N := 10) hx hb hts zinX5 hown hK.1 (zP_reg (L := l_Script Z.2.1 As S.1 S.2.1 S.2.2.1 S.2.2.2.1 S.2.2.2.2.1 S.2.2.2.2.2.1 S.2.2.2.2.2.2.1 S.2.2.2.2.2.2.2.1 S.2.2.2.2.2.2.2.2.1 S.2.2.2.2.2.2.2.2.2) (zP_reg hP 10 rfl) 0 rfl) 0 rfl rfl 0 (by decide) (kn_X4_71 hK.2) (fun _ h9 => h9) rfl (z_d hX4_gather_0 10 rfl) ?_
    refine lv_icmp_ge (tgt := 147) hx hb (z_d hX4_gather_0 11 rfl) (by decide) (fun hc17 => ?_) (fun hc17 => ?_)
    · have hF := z_pos hc17 hF
      obtain rfl := Option.some.inj hF
      exact K1 _ _ ls hP hD hS (lv_sub hl [0, 1] rfl)
    · have hF := z_neg hc17 hF
      refine lv_aload_n hx hb (z_d hX4_gather_0 12 rfl) rfl (lv_at hl 1 rfl) ?_
      refine lv_iload_n hx hb (z_d hX4_gather_0 13 rfl) rfl (lv_at hl 2 rfl) ?_
      refine z_let hF (fun q1 hq1 hF => ?_)
      refine z_ro_i (z_rV (As := [.int v.2]) (rest := []) hx hb hml hown hts vt_X5_isHeading (c_X5_isHeading l Z As S v.2 _ hq1) rfl rfl ⟨Nat.le_of_ble_eq_true rfl, Nat.le_of_ble_eq_true rfl⟩ k_m_X4_76 zPro_blind (z_recv (q := (RX5, TX5, 10)) (ci := 5) (q0 := 0) hK (zP_reg (L := l_Script Z.2.1 As S.1 S.2.1 S.2.2.1 S.2.2.2.1 S.2.2.2.2.1 S.2.2.2.2.2.1 S.2.2.2.2.2.2.1 S.2.2.2.2.2.2.2.1 S.2.2.2.2.2.2.2.2.1 S.2.2.2.2.2.2.2.2.2) (zP_reg hP 10 rfl) 0 rfl) rfl rfl) (z_prec hK (zP_reg hP 10 rfl)) rfl hl.1 (Nat.le_of_ble_eq_true rfl) (z_d hX4_gather_0 14 rfl) ⟨Nat.zero_le _, Nat.zero_le _⟩) hS hP (fun H locs hP hS => ?_)
      refine lv_if_eq (tgt := 74) hx hb (z_d hX4_gather_0 15 rfl) (by decide) (fun hc25 => ?_) (fun hc25 => ?_)
      · have hF := z_pos hc25 hF
        exact J74 v.1 v.2 hF _ _ ls hP hD hS (lv_sub hl [0, 1, 2] rfl)
      · have hF := z_neg hc25 hF
        refine lv_aload_n hx hb (z_d hX4_gather_0 16 rfl) rfl (lv_at hl 0 rfl) ?_
        refine va_get (D := Z.1) (ci := 4) (v := .ref (Ac 1)) (C := RX4) (T := TX4) (N := 12) hx hb hts zinX4 hown hK.1 (zP_reg hP 0 rfl) 0 rfl rfl 3 (by decide) (hts _ k_f_X4_26) (fun _ h9 => h9) rfl (z_d hX4_gather_0 17 rfl) ?_
        refine lv_aload_n hx hb (z_d hX4_gather_0 18 rfl) rfl (lv_at hl 0 rfl) ?_
        refine va_get (D := Z.1) (ci := 4) (v := .int v.1.1) (C := RX4) (T := TX4) (N := 12) hx hb hts zinX4 hown hK.1 (zP_reg hP 0 rfl) 0 rfl rfl 0 (by decide) (hts _ k_f_X4_9) (fun _ h9 => h9) rfl (z_d hX4_gather_0 19 rfl) ?_
        refine lv_iload_n hx hb (z_d hX4_gather_0 20 rfl) rfl (lv_at hl 2 rfl) ?_
        refine z_let hF (fun q10 hq10 hF => ?_)
        refine z_mu1 (L := l_Scenes Z.2.1 Ac v.1.1 v.1.2.1 v.1.2.2.1 v.1.2.2.2.1 v.1.2.2.2.2.1 v.1.2.2.2.2.2.1 v.1.2.2.2.2.2.2.1 v.1.2.2.2.2.2.2.2.1 v.1.2.2.2.2.2.2.2.2.1 v.1.2.2.2.2.2.2.2.2.2.1 v.1.2.2.2.2.2.2.2.2.2.2.1 v.1.2.2.2.2.2.2.2.2.2.2.2 ++ [w_Script Z.2.1 As S]) (L' := l_Scenes Z.2.1 Ac v.1.1 v.1.2.1 v.1.2.2.1 q10 v.1.2.2.2.2.1 v.1.2.2.2.2.2.1 v.1.2.2.2.2.2.2.1 v.1.2.2.2.2.2.2.2.1 v.1.2.2.2.2.2.2.2.2.1 v.1.2.2.2.2.2.2.2.2.2.1 v.1.2.2.2.2.2.2.2.2.2.2.1 v.1.2.2.2.2.2.2.2.2.2.2.2 ++ [w_Script Z.2.1 As S]) (z_rV (As := [.int v.1.1, .int v.2]) (rest := []) hx hb hml hown hts vt_X3_put (c_rPut l Z 60 (Ac 1) (Ac 2) (by decide) v.1.2.2.2.1 v.1.1 v.2 _ hq10) rfl rfl ⟨Nat.le_of_ble_eq_true rfl, Nat.le_of_ble_eq_true rfl⟩ k_m_X4_80 zPmu_blind (z_recv (q := (RX3, TX3, 1)) (ci := 3) (q0 := 0) hK (zP_reg hP 1 rfl) rfl rfl) (z_prem hK (zP_reg hP 1 rfl) (zD_one hD 1 _ rfl)) rfl hl.1 (Nat.le_of_ble_eq_true rfl) (z_d hX4_gather_0 21 rfl) ⟨Nat.zero_le _, Nat.zero_le _⟩) hS hP hD 1 rfl rfl rfl (fun H locs hP hD hS => ?_)
        refine W.eq (g2 := F0 m 40 ls []) rfl ?_
        refine lv_aload_n hx hb (z_d hX4_gather_0 22 rfl) rfl (lv_at hl 0 rfl) ?_
        refine va_get (D := Z.1) (ci := 4) (v := .ref (Ac 3)) (C := RX4) (T := TX4) (N := 12) hx hb hts zinX4 hown hK.1 (zP_reg hP 0 rfl) 0 rfl rfl 4 (by decide) (hts _ k_f_X4_30) (fun _ h9 => h9) rfl (z_d hX4_gather_0 23 rfl) ?_
        refine lv_aload_n hx hb (z_d hX4_gather_0 24 rfl) rfl (lv_at hl 0 rfl) ?_
        refine va_get (D := Z.1) (ci := 4) (v := .int v.1.1) (C := RX4) (T := TX4) (N := 12) hx hb hts zinX4 hown hK.1 (zP_reg hP 0 rfl) 0 rfl rfl 0 (by decide) (hts _ k_f_X4_9) (fun _ h9 => h9) rfl (z_d hX4_gather_0 25 rfl) ?_
        refine lv_iconst (v := 0) hx hb (z_d hX4_gather_0 26 rfl) (by decide) ?_
        refine z_let hF (fun q11 hq11 hF => ?_)
        refine z_mu1 (L := l_Scenes Z.2.1 Ac v.1.1 v.1.2.1 v.1.2.2.1 q10 v.1.2.2.2.2.1 v.1.2.2.2.2.2.1 v.1.2.2.2.2.2.2.1 v.1.2.2.2.2.2.2.2.1 v.1.2.2.2.2.2.2.2.2.1 v.1.2.2.2.2.2.2.2.2.2.1 v.1.2.2.2.2.2.2.2.2.2.2.1 v.1.2.2.2.2.2.2.2.2.2.2.2 ++ [w_Script Z.2.1 As S]) (L' := l_Scenes Z.2.1 Ac v.1.1 v.1.2.1 v.1.2.2.1 q10 q11 v.1.2.2.2.2.2.1 v.1.2.2.2.2.2.2.1 v.1.2.2.2.2.2.2.2.1 v.1.2.2.2.2.2.2.2.2.1 v.1.2.2.2.2.2.2.2.2.2.1 v.1.2.2.2.2.2.2.2.2.2.2.1 v.1.2.2.2.2.2.2.2.2.2.2.2 ++ [w_Script Z.2.1 As S]) (z_rV (As := [.int v.1.1, .int 0]) (rest := []) hx hb hml hown hts vt_X3_put (c_rPut l Z 60 (Ac 3) (Ac 4) (by decide) v.1.2.2.2.2.1 v.1.1 0 _ hq11) rfl rfl ⟨Nat.le_of_ble_eq_true rfl, Nat.le_of_ble_eq_true rfl⟩ k_m_X4_80 zPmu_blind (z_recv (q := (RX3, TX3, 1)) (ci := 3) (q0 := 0) hK (zP_reg hP 2 rfl) rfl rfl) (z_prem hK (zP_reg hP 2 rfl) (zD_one hD 2 _ rfl)) rfl hl.1 (Nat.le_of_ble_eq_true rfl) (z_d hX4_gather_0 27 rfl) ⟨Nat.zero_le _, Nat.zero_le _⟩) hS hP hD 2 rfl rfl rfl (fun H locs hP hD hS => ?_)
        refine W.eq (g2 := F0 m 52 ls []) rfl ?_
        refine lv_aload_n hx hb (z_d hX4_gather_0 28 rfl) rfl (lv_at hl 0 rfl) ?_
        refine va_get (D := Z.1) (ci := 4) (v := .ref (Ac 5)) (C := RX4) (T := TX4) (N := 12) hx hb hts zinX4 hown hK.1 (zP_reg hP 0 rfl) 0 rfl rfl 5 (by decide) (hts _ k_f_X4_33) (fun _ h9 => h9) rfl (z_d hX4_gather_0 29 rfl) ?_
        refine lv_aload_n hx hb (z_d hX4_gather_0 30 rfl) rfl (lv_at hl 0 rfl) ?_
        refine va_get (D := Z.1) (ci := 4) (v := .int v.1.1) (C := RX4) (T := TX4) (N := 12) hx hb hts zinX4 hown hK.1 (zP_reg hP 0 rfl) 0 rfl rfl 0 (by decide) (hts _ k_f_X4_9) (fun _ h9 => h9) rfl (z_d hX4_gather_0 31 rfl) ?_
        refine lv_iconst (v := 0) hx hb (z_d hX4_gather_0 32 rfl) (by decide) ?_
        refine z_let hF (fun q12 hq12 hF => ?_)
        refine z_mu1 (L := l_Scenes Z.2.1 Ac v.1.1 v.1.2.1 v.1.2.2.1 q10 q11 v.1.2.2.2.2.2.1 v.1.2.2.2.2.2.2.1 v.1.2.2.2.2.2.2.2.1 v.1.2.2.2.2.2.2.2.2.1 v.1.2.2.2.2.2.2.2.2.2.1 v.1.2.2.2.2.2.2.2.2.2.2.1 v.1.2.2.2.2.2.2.2.2.2.2.2 ++ [w_Script Z.2.1 As S]) (L' := l_Scenes Z.2.1 Ac v.1.1 v.1.2.1 v.1.2.2.1 q10 q11 q12 v.1.2.2.2.2.2.2.1 v.1.2.2.2.2.2.2.2.1 v.1.2.2.2.2.2.2.2.2.1 v.1.2.2.2.2.2.2.2.2.2.1 v.1.2.2.2.2.2.2.2.2.2.2.1 v.1.2.2.2.2.2.2.2.2.2.2.2 ++ [w_Script Z.2.1 As S]) (z_rV (As := [.int v.1.1, .int 0]) (rest := []) hx hb hml hown hts vt_X3_put (c_rPut l Z 60 (Ac 5) (Ac 6) (by decide) v.1.2.2.2.2.2.1 v.1.1 0 _ hq12) rfl rfl ⟨Nat.le_of_ble_eq_true rfl, Nat.le_of_ble_eq_true rfl⟩ k_m_X4_80 zPmu_blind (z_recv (q := (RX3, TX3, 1)) (ci := 3) (q0 := 0) hK (zP_reg hP 3 rfl) rfl rfl) (z_prem hK (zP_reg hP 3 rfl) (zD_one hD 3 _ rfl)) rfl hl.1 (Nat.le_of_ble_eq_true rfl) (z_d hX4_gather_0 33 rfl) ⟨Nat.zero_le _, Nat.zero_le _⟩) hS hP hD 3 rfl rfl rfl (fun H locs hP hD hS => ?_)
        refine W.eq (g2 := F0 m 64 ls []) rfl ?_
        refine lv_aload_n hx hb (z_d hX4_gather_0 34 rfl) rfl (lv_at hl 0 rfl) ?_
        refine lv_dup hx hb (z_d hX4_gather_0 35 rfl) rfl ?_
        refine va_get (D := Z.1) (ci := 4) (v := .int v.1.1) (C := RX4) (T := TX4) (N := 12) hx hb hts zinX4 hown hK.1 (zP_reg hP 0 rfl) 0 rfl rfl 0 (by decide) (hts _ k_f_X4_9) (fun _ h9 => h9) rfl (z_d hX4_gather_0 36 rfl) ?_
        refine lv_iconst (v := 1) hx hb (z_d hX4_gather_0 37 rfl) (by decide) ?_
        refine lv_iadd hx hb (z_d hX4_gather_0 38 rfl) ?_
        refine z_let hF (fun u13 hu13 hF => ?_)
        refine lv_topE hu13 ?_
        refine z_put (Z := Z) (ci := 4) (v := .int u13) (ty := .int) (L := l_Scenes Z.2.1 Ac v.1.1 v.1.2.1 v.1.2.2.1 q10 q11 q12 v.1.2.2.2.2.2.2.1 v.1.2.2.2.2.2.2.2.1 v.1.2.2.2.2.2.2.2.2.1 v.1.2.2.2.2.2.2.2.2.2.1 v.1.2.2.2.2.2.2.2.2.2.2.1 v.1.2.2.2.2.2.2.2.2.2.2.2 ++ [w_Script Z.2.1 As S]) (L' := l_Scenes Z.2.1 Ac u13 v.1.2.1 v.1.2.2.1 q10 q11 q12 v.1.2.2.2.2.2.2.1 v.1.2.2.2.2.2.2.2.1 v.1.2.2.2.2.2.2.2.2.1 v.1.2.2.2.2.2.2.2.2.2.1 v.1.2.2.2.2.2.2.2.2.2.2.1 v.1.2.2.2.2.2.2.2.2.2.2.2 ++ [w_Script Z.2.1 As S]) (C := RX4) (T := TX4) (N := 12) hx hb hts zinX4 tyX4 tyX4_ok nmX4 hown hK hP hD hS 0 rfl rfl 0 (by decide) (hts _ k_f_X4_9) (fun _ h9 => h9) rfl (tyX4_ok 0 (by decide)) rfl rfl (Nat.le_of_ble_eq_true rfl) rfl (z_d hX4_gather_0 39 rfl) (fun H locs hP hD hS => ?_)
        exact J74 (u13, v.1.2.1, v.1.2.2.1, q10, q11, q12, v.1.2.2.2.2.2.2.1, v.1.2.2.2.2.2.2.2.1, v.1.2.2.2.2.2.2.2.2.1, v.1.2.2.2.2.2.2.2.2.2.1, v.1.2.2.2.2.2.2.2.2.2.2.1, v.1.2.2.2.2.2.2.2.2.2.2.2) v.2 hF _ _ ls hP hD hS (lv_sub hl [0, 1, 2] rfl)
  refine lv_aload_n hx hb (z_d hX4_gather_0 0 rfl) rfl (lv_at hl 0 rfl) ?_
  refine lv_iconst (v := 0) hx hb (z_d hX4_gather_0 1 rfl) (by decide) ?_
  refine z_put (Z := Z) (ci := 4) (v := .int 0) (ty := .int) (L := l_Scenes Z.2.1 Ac C.1 C.2.1 C.2.2.1 C.2.2.2.1 C.2.2.2.2.1 C.2.2.2.2.2.1 C.2.2.2.2.2.2.1 C.2.2.2.2.2.2.2.1 C.2.2.2.2.2.2.2.2.1 C.2.2.2.2.2.2.2.2.2.1 C.2.2.2.2.2.2.2.2.2.2.1 C.2.2.2.2.2.2.2.2.2.2.2 ++ [w_Script Z.2.1 As S]) (L' := l_Scenes Z.2.1 Ac 0 C.2.1 C.2.2.1 C.2.2.2.1 C.2.2.2.2.1 C.2.2.2.2.2.1 C.2.2.2.2.2.2.1 C.2.2.2.2.2.2.2.1 C.2.2.2.2.2.2.2.2.1 C.2.2.2.2.2.2.2.2.2.1 C.2.2.2.2.2.2.2.2.2.2.1 C.2.2.2.2.2.2.2.2.2.2.2 ++ [w_Script Z.2.1 As S]) (C := RX4) (T := TX4) (N := 12) hx hb hts zinX4 tyX4 tyX4_ok nmX4 hown hK hP hD hS 0 rfl rfl 0 (by decide) (hts _ k_f_X4_9) (fun _ h9 => h9) rfl (tyX4_ok 0 (by decide)) rfl rfl (Nat.le_of_ble_eq_true rfl) rfl (z_d hX4_gather_0 2 rfl) (fun H locs hP hD hS => ?_)
  refine lv_aload_n hx hb (z_d hX4_gather_0 3 rfl) rfl (lv_at hl 0 rfl) ?_
  refine lv_iconst (v := 0) hx hb (z_d hX4_gather_0 4 rfl) (by decide) ?_
  refine z_put (Z := Z) (ci := 4) (v := .int 0) (ty := .int) (L := l_Scenes Z.2.1 Ac 0 C.2.1 C.2.2.1 C.2.2.2.1 C.2.2.2.2.1 C.2.2.2.2.2.1 C.2.2.2.2.2.2.1 C.2.2.2.2.2.2.2.1 C.2.2.2.2.2.2.2.2.1 C.2.2.2.2.2.2.2.2.2.1 C.2.2.2.2.2.2.2.2.2.2.1 C.2.2.2.2.2.2.2.2.2.2.2 ++ [w_Script Z.2.1 As S]) (L' := l_Scenes Z.2.1 Ac 0 0 C.2.2.1 C.2.2.2.1 C.2.2.2.2.1 C.2.2.2.2.2.1 C.2.2.2.2.2.2.1 C.2.2.2.2.2.2.2.1 C.2.2.2.2.2.2.2.2.1 C.2.2.2.2.2.2.2.2.2.1 C.2.2.2.2.2.2.2.2.2.2.1 C.2.2.2.2.2.2.2.2.2.2.2 ++ [w_Script Z.2.1 As S]) (C := RX4) (T := TX4) (N := 12) hx hb hts zinX4 tyX4 tyX4_ok nmX4 hown hK hP hD hS 0 rfl rfl 1 (by decide) (hts _ k_f_X4_15) (fun _ h9 => h9) rfl (tyX4_ok 1 (by decide)) rfl rfl (Nat.le_of_ble_eq_true rfl) rfl (z_d hX4_gather_0 5 rfl) (fun H locs hP hD hS => ?_)
  refine lv_iconst (v := 0) hx hb (z_d hX4_gather_0 6 rfl) (by decide) ?_
  refine lv_istore_n (lv' := [(2, .int 0), (0, .ref (Ac 0)), (1, .ref (As 0))]) hx hb (z_d hX4_gather_0 7 rfl) rfl hl (by decide) rfl (fun ls hl => ?_)
  refine z_bnd hF (fun q14 hq14 hF => ?_)
  refine L12  _ _ _ hq14 _ _ ls hP hD hS (lv_sub hl [1, 2, 0] rfl) (fun H locs ls hP hD hS hl => ?_)
  obtain rfl := Option.some.inj hF
  subst hQ
  subst hA
  exact W.vret hx hb hr (fun t ht hW => zq_mu (by rw [ht]; exact zfl hP) (hS.F ht)) hS.2.2 (z_d hX4_gather_1 19 rfl)
def rm_X4_findCarriedNames : Room := { frames := 2, cells := 0, slots := 0, locals := 42 }
set_option maxRecDepth 100000 in
set_option maxHeartbeats 4000000 in
theorem c_X4_findCarriedNames (l : Launch) (Z : zZ) (Ac : Nat → Nat) (As : Nat → Nat) (C : t_Scenes) (S : t_Script) (R : t_Scenes) (hF : X4_findCarriedNames C S = some R) : zMU l yX4_findCarriedNames (zw yX4_findCarriedNames cX4_findCarriedNames 6 none) rm_X4_findCarriedNames Z [.ref (Ac 0), .ref (As 0)] (List.flatten [w_Scenes Z.2.1 Ac C, w_Script Z.2.1 As S]) (List.flatten [w_Scenes Z.2.1 Ac R, w_Script Z.2.1 As S]) none := by
  refine zMU_of (by decide) (Nat.le_of_ble_eq_true rfl) (fun p e s m below meth c hx hb hr hml hown hts hlocks hK A hA Q hQ ls hl hP hD hS => ?_)
  unfold X4_findCarriedNames at hF
  have hl : lv_has ls 6 [(0, .ref (Ac 0)), (1, .ref (As 0))] := hl
  have hown : s.vm.findClass RX4 = some m.cls := hown
  have hP : va_P Z.1 vwCl (l_Scenes Z.2.1 Ac C.1 C.2.1 C.2.2.1 C.2.2.2.1 C.2.2.2.2.1 C.2.2.2.2.2.1 C.2.2.2.2.2.2.1 C.2.2.2.2.2.2.2.1 C.2.2.2.2.2.2.2.2.1 C.2.2.2.2.2.2.2.2.2.1 C.2.2.2.2.2.2.2.2.2.2.1 C.2.2.2.2.2.2.2.2.2.2.2 ++ [w_Script Z.2.1 As S]).flatten s.heap := zfr hP
  have hD : va_D A (l_Scenes Z.2.1 Ac C.1 C.2.1 C.2.2.1 C.2.2.2.1 C.2.2.2.2.1 C.2.2.2.2.2.1 C.2.2.2.2.2.2.1 C.2.2.2.2.2.2.2.1 C.2.2.2.2.2.2.2.2.1 C.2.2.2.2.2.2.2.2.2.1 C.2.2.2.2.2.2.2.2.2.2.1 C.2.2.2.2.2.2.2.2.2.2.2 ++ [w_Script Z.2.1 As S]).flatten := zfrD hD
  have L9 : ∀  (n : Nat) (v : t_Scenes × Int32 × Int32) (X : t_Scenes) (hF : zloop (b_X4_findCarriedNames_9 S ) n v = some X) (H : Heap) (locs : List Loc) (ls : Array Slot) (hP : va_P Z.1 vwCl (l_Scenes Z.2.1 Ac v.1.1 v.1.2.1 v.1.2.2.1 v.1.2.2.2.1 v.1.2.2.2.2.1 v.1.2.2.2.2.2.1 v.1.2.2.2.2.2.2.1 v.1.2.2.2.2.2.2.2.1 v.1.2.2.2.2.2.2.2.2.1 v.1.2.2.2.2.2.2.2.2.2.1 v.1.2.2.2.2.2.2.2.2.2.2.1 v.1.2.2.2.2.2.2.2.2.2.2.2 ++ [w_Script Z.2.1 As S]).flatten H) (hD : va_D A (l_Scenes Z.2.1 Ac v.1.1 v.1.2.1 v.1.2.2.1 v.1.2.2.2.1 v.1.2.2.2.2.1 v.1.2.2.2.2.2.1 v.1.2.2.2.2.2.2.1 v.1.2.2.2.2.2.2.2.1 v.1.2.2.2.2.2.2.2.2.1 v.1.2.2.2.2.2.2.2.2.2.1 v.1.2.2.2.2.2.2.2.2.2.2.1 v.1.2.2.2.2.2.2.2.2.2.2.2 ++ [w_Script Z.2.1 As S]).flatten) (hS : va_S A s.heap H locs) (hl : lv_has ls 6 [(0, .ref (Ac 0)), (1, .ref (As 0)), (2, .int v.2.1), (3, .int v.2.2)]) (K1 : ∀ (H : Heap) (locs : List Loc) (ls : Array Slot) (hP : va_P Z.1 vwCl (l_Scenes Z.2.1 Ac X.1 X.2.1 X.2.2.1 X.2.2.2.1 X.2.2.2.2.1 X.2.2.2.2.2.1 X.2.2.2.2.2.2.1 X.2.2.2.2.2.2.2.1 X.2.2.2.2.2.2.2.2.1 X.2.2.2.2.2.2.2.2.2.1 X.2.2.2.2.2.2.2.2.2.2.1 X.2.2.2.2.2.2.2.2.2.2.2 ++ [w_Script Z.2.1 As S]).flatten H) (hD : va_D A (l_Scenes Z.2.1 Ac X.1 X.2.1 X.2.2.1 X.2.2.2.1 X.2.2.2.2.1 X.2.2.2.2.2.1 X.2.2.2.2.2.2.1 X.2.2.2.2.2.2.2.1 X.2.2.2.2.2.2.2.2.1 X.2.2.2.2.2.2.2.2.2.1 X.2.2.2.2.2.2.2.2.2.2.1 X.2.2.2.2.2.2.2.2.2.2.2 ++ [w_Script Z.2.1 As S]).flatten) (hS : va_S A s.heap H locs) (hl : lv_has ls 6 [(0, .ref (Ac 0)), (1, .ref (As 0))]), W p l e rm_X4_findCarriedNames s m ([.ref (Ac 0), .ref (As 0)] : List Value).toArray below meth c H locs 0 0 Q (F0 m 119 ls [])), W p l e rm_X4_findCarriedNames s m ([.ref (Ac 0), .ref (As 0)] : List Value).toArray below meth c H locs 0 0 Q (F0 m 9 ls []) := by
    skip
    refine z_loopE (fun rec ih v X hF H locs ls hP hD hS hl K1 => ?_)
    unfold b_X4_findCarriedNames_9 at hF
    have J91 : ∀ (C : t_Scenes) (x2 : Int32) (x3 : Int32) (x4 : Int32) (hF : j_X4_findCarriedNames_91 S rec C x2 x3 x4 = some X) (H : Heap) (locs : List Loc) (ls : Array Slot) (hP : va_P Z.1 vwCl (l_Scenes Z.2.1 Ac C.1 C.2.1 C.2.2.1 C.2.2.2.1 C.2.2.2.2.1 C.2.2.2.2.2.1 C.2.2.2.2.2.2.1 C.2.2.2.2.2.2.2.1 C.2.2.2.2.2.2.2.2.1 C.2.2.2.2.2.2.2.2.2.1 C.2.2.2.2.2.2.2.2.2.2.1 C.2.2.2.2.2.2.2.2.2.2.2 ++ [w_Script Z.2.1 As S]).flatten H) (hD : va_D A (l_Scenes Z.2.1 Ac C.1 C.2.1 C.2.2.1 C.2.2.2.1 C.2.2.2.2.1 C.2.2.2.2.2.1 C.2.2.2.2.2.2.1 C.2.2.2.2.2.2.2.1 C.2.2.2.2.2.2.2.2.1 C.2.2.2.2.2.2.2.2.2.1 C.2.2.2.2.2.2.2.2.2.2.1 C.2.2.2.2.2.2.2.2.2.2.2 ++ [w_Script Z.2.1 As S]).flatten) (hS : va_S A s.heap H locs) (hl : lv_has ls 6 [(0, .ref (Ac 0)), (1, .ref (As 0)), (2, .int x2), (3, .int x3), (4, .int x4)]), W p l e rm_X4_findCarriedNames s m ([.ref (Ac 0), .ref (As 0)] : List Value).toArray below meth c H locs 0 0 Q (F0 m 91 ls []) := by
      intro C x2 x3 x4 hF H locs ls hP hD hS hl
      unfold j_X4_findCarriedNames_91 at hF
      refine lv_aload_n hx hb (z_d hX4_findCarriedNames_0 49 rfl) rfl (lv_at hl 1 rfl) ?_
      refine lv_iload_n hx hb (z_d hX4_findCarriedNames_0 50 rfl) rfl (lv_at hl 3 rfl) ?_
      refine z_let hF (fun q3 hq3 hF => ?_)
      refine z_ro_i (z_rV (As := [.int x3]) (rest := []) hx hb hml hown hts vt_X5_isHeading (c_X5_isHeading l Z As S x3 _ hq3) rfl rfl ⟨Nat.le_of_ble_eq_true rfl, Nat.le_of_ble_eq_true rfl⟩ k_m_X4_76 zPro_blind (z_recv (q := (RX5, TX5, 10)) (ci := 5) (q0 := 0) hK (zP_reg (L := l_Script Z.2.1 As S.1 S.2.1 S.2.2.1 S.2.2.2.1 S.2.2.2.2.1 S.2.2.2.2.2.1 S.2.2.2.2.2.2.1 S.2.2.2.2.2.2.2.1 S.2.2.2.2.2.2.2.2.1 S.2.2.2.2.2.2.2.2.2) (zP_reg hP 10 rfl) 0 rfl) rfl rfl) (z_prec hK (zP_reg hP 10 rfl)) rfl hl.1 (Nat.le_of_ble_eq_true rfl) (z_d hX4_findCarriedNames_0 51 rfl) ⟨Nat.zero_le _, Nat.zero_le _⟩) hS hP (fun H locs hP hS => ?_)
      refine lv_if_eq (tgt := 104) hx hb (z_d hX4_findCarriedNames_0 52 rfl) (by decide) (fun hc96 => ?_) (fun hc96 => ?_)
      · have hF := z_pos hc96 hF
        refine lv_iload hx hb (z_d hX4_findCarriedNames_0 56 rfl) (lv_at hl 4 rfl) ?_
        refine lv_iconst (v := (-1)) hx hb (z_d hX4_findCarriedNames_0 57 rfl) (by decide) ?_
        refine lv_icmp_eq (tgt := 113) hx hb (z_d hX4_findCarriedNames_0 58 rfl) (by decide) (fun hc107 => ?_) (fun hc107 => ?_)
        · have hF := z_pos hc107 hF
          refine z_let hF (fun u4 hu4 hF => ?_)
          refine lv_iinc (v := u4) (lv' := [(3, .int u4), (0, .ref (Ac 0)), (1, .ref (As 0)), (2, .int x2), (4, .int x4)]) hx hb (z_d hX4_findCarriedNames_1 1 rfl) hl (k := 3) rfl (z_inc1 hu4) (by decide) rfl (fun ls hl => ?_)
          refine lv_goto (tgt := 9) hx hb (z_d hX4_findCarriedNames_1 2 rfl) (by decide) ?_
          exact ih _ _ hF _ _ ls hP hD hS (lv_sub hl [1, 2, 3, 0] rfl) K1
        · have hF := z_neg hc107 hF
          refine lv_iload hx hb (z_d hX4_findCarriedNames_0 59 rfl) (lv_at hl 4 rfl) ?_
          refine lv_istore_n (lv' := [(2, .int x4), (0, .ref (Ac 0)), (1, .ref (As 0)), (3, .int x3), (4, .int x4)]) hx hb (z_d hX4_findCarriedNames_1 0 rfl) rfl hl (by decide) rfl (fun ls hl => ?_)
          refine z_let hF (fun u5 hu5 hF => ?_)
          refine lv_iinc (v := u5) (lv' := [(3, .int u5), (2, .int x4), (0, .ref (Ac 0)), (1, .ref (As 0)), (4, .int x4)]) hx hb (z_d hX4_findCarriedNames_1 1 rfl) hl (k := 3) rfl (z_inc1 hu5) (by decide) rfl (fun ls hl => ?_)
          refine lv_goto (tgt := 9) hx hb (z_d hX4_findCarriedNames_1 2 rfl) (by decide) ?_
          exact ih _ _ hF _ _ ls hP hD hS (lv_sub hl [2, 3, 1, 0] rfl) K1
      · have hF := z_neg hc96 hF
        refine lv_iconst (v := (-1)) hx hb (z_d hX4_findCarriedNames_0 53 rfl) (by decide) ?_
        refine lv_istore_n (lv' := [(2, .int (-1)), (0, .ref (Ac 0)), (1, .ref (As 0)), (3, .int x3), (4, .int x4)]) hx hb (z_d hX4_findCarriedNames_0 54 rfl) rfl hl (by decide) rfl (fun ls hl => ?_)
        refine lv_goto (tgt := 113) hx hb (z_d hX4_findCarriedNames_0 55 rfl) (by decide) ?_
        refine z_let hF (fun u6 hu6 hF => ?_)
        refine lv_iinc (v := u6) (lv' := [(3, .int u6), (2, .int (-1)), (0, .ref (Ac 0)), (1, .ref (As 0)), (4, .int x4)]) hx hb (z_d hX4_findCarriedNames_1 1 rfl) hl (k := 3) rfl (z_inc1 hu6) (by decide) rfl (fun ls hl => ?_)
        refine lv_goto (tgt := 9) hx hb (z_d hX4_findCarriedNames_1 2 rfl) (by decide) ?_
        exact ih _ _ hF _ _ ls hP hD hS (lv_sub hl [2, 3, 1, 0] rfl) K1
    have J73 : ∀ (C : t_Scenes) (x2 : Int32) (x3 : Int32) (x4 : Int32) (x5 : Int32) (z0 : Int32) (z1 : Int32) (hF : j_X4_findCarriedNames_73 S rec C x2 x3 x4 x5 z0 z1 = some X) (H : Heap) (locs : List Loc) (ls : Array Slot) (hP : va_P Z.1 vwCl (l_Scenes Z.2.1 Ac C.1 C.2.1 C.2.2.1 C.2.2.2.1 C.2.2.2.2.1 C.2.2.2.2.2.1 C.2.2.2.2.2.2.1 C.2.2.2.2.2.2.2.1 C.2.2.2.2.2.2.2.2.1 C.2.2.2.2.2.2.2.2.2.1 C.2.2.2.2.2.2.2.2.2.2.1 C.2.2.2.2.2.2.2.2.2.2.2 ++ [w_Script Z.2.1 As S]).flatten H) (hD : va_D A (l_Scenes Z.2.1 Ac C.1 C.2.1 C.2.2.1 C.2.2.2.1 C.2.2.2.2.1 C.2.2.2.2.2.1 C.2.2.2.2.2.2.1 C.2.2.2.2.2.2.2.1 C.2.2.2.2.2.2.2.2.1 C.2.2.2.2.2.2.2.2.2.1 C.2.2.2.2.2.2.2.2.2.2.1 C.2.2.2.2.2.2.2.2.2.2.2 ++ [w_Script Z.2.1 As S]).flatten) (hS : va_S A s.heap H locs) (hl : lv_has ls 6 [(0, .ref (Ac 0)), (1, .ref (As 0)), (2, .int x2), (3, .int x3), (4, .int x4), (5, .int x5)]), W p l e rm_X4_findCarriedNames s m ([.ref (Ac 0), .ref (As 0)] : List Value).toArray below meth c H locs 0 0 Q (F0 m 73 ls [.int z0, .int z1, .ref (Ac 17)]) := by
      intro C x2 x3 x4 x5 z0 z1 hF H locs ls hP hD hS hl
      unfold j_X4_findCarriedNames_73 at hF
      refine z_let hF (fun q2 hq2 hF => ?_)
      refine z_mu1 (L := l_Scenes Z.2.1 Ac C.1 C.2.1 C.2.2.1 C.2.2.2.1 C.2.2.2.2.1 C.2.2.2.2.2.1 C.2.2.2.2.2.2.1 C.2.2.2.2.2.2.2.1 C.2.2.2.2.2.2.2.2.1 C.2.2.2.2.2.2.2.2.2.1 C.2.2.2.2.2.2.2.2.2.2.1 C.2.2.2.2.2.2.2.2.2.2.2 ++ [w_Script Z.2.1 As S]) (L' := l_Scenes Z.2.1 Ac C.1 C.2.1 C.2.2.1 C.2.2.2.1 C.2.2.2.2.1 C.2.2.2.2.2.1 C.2.2.2.2.2.2.1 C.2.2.2.2.2.2.2.1 C.2.2.2.2.2.2.2.2.1 C.2.2.2.2.2.2.2.2.2.1 C.2.2.2.2.2.2.2.2.2.2.1 q2 ++ [w_Script Z.2.1 As S]) (z_rV (As := [.int z1, .int z0]) (rest := []) hx hb hml hown hts vt_X3_put (c_rPut l Z 60 (Ac 17) (Ac 18) (by decide) C.2.2.2.2.2.2.2.2.2.2.2 z1 z0 _ hq2) rfl rfl ⟨Nat.le_of_ble_eq_true rfl, Nat.le_of_ble_eq_true rfl⟩ k_m_X4_80 zPmu_blind (z_recv (q := (RX3, TX3, 1)) (ci := 3) (q0 := 0) hK (zP_reg hP 9 rfl) rfl rfl) (z_prem hK (zP_reg hP 9 rfl) (zD_one hD 9 _ rfl)) rfl hl.1 (Nat.le_of_ble_eq_true rfl) (z_d hX4_findCarriedNames_0 40 rfl) ⟨Nat.zero_le _, Nat.zero_le _⟩) hS hP hD 9 rfl rfl rfl (fun H locs hP hD hS => ?_)
      refine W.eq (g2 := F0 m 76 ls []) rfl ?_
      refine lv_iload hx hb (z_d hX4_findCarriedNames_0 41 rfl) (lv_at hl 5 rfl) ?_
      refine lv_if_eq (tgt := 91) hx hb (z_d hX4_findCarriedNames_0 42 rfl) (by decide) (fun hc78 => ?_) (fun hc78 => ?_)
      · have hF := z_pos hc78 hF
        exact J91 (C.1, C.2.1, C.2.2.1, C.2.2.2.1, C.2.2.2.2.1, C.2.2.2.2.2.1, C.2.2.2.2.2.2.1, C.2.2.2.2.2.2.2.1, C.2.2.2.2.2.2.2.2.1, C.2.2.2.2.2.2.2.2.2.1, C.2.2.2.2.2.2.2.2.2.2.1, q2) x2 x3 x4 hF _ _ ls hP hD hS (lv_sub hl [0, 1, 2, 3, 4] rfl)
      · have hF := z_neg hc78 hF
        refine lv_aload_n hx hb (z_d hX4_findCarriedNames_0 43 rfl) rfl (lv_at hl 0 rfl) ?_
        refine lv_dup hx hb (z_d hX4_findCarriedNames_0 44 rfl) rfl ?_
        refine va_get (D := Z.1) (ci := 4) (v := .int C.2.2.1) (C := RX4) (T := TX4) (N := 12) hx hb hts zinX4 hown hK.1 (zP_reg hP 0 rfl) 0 rfl rfl 2 (by decide) (hts _ k_f_X4_18) (fun _ h9 => h9) rfl (z_d hX4_findCarriedNames_0 45 rfl) ?_
        refine lv_iconst (v := 1) hx hb (z_d hX4_findCarriedNames_0 46 rfl) (by decide) ?_
        refine lv_iadd hx hb (z_d hX4_findCarriedNames_0 47 rfl) ?_
        refine z_let hF (fun u7 hu7 hF => ?_)
        refine lv_topE hu7 ?_
        refine z_put (Z := Z) (ci := 4) (v := .int u7) (ty := .int) (L := l_Scenes Z.2.1 Ac C.1 C.2.1 C.2.2.1 C.2.2.2.1 C.2.2.2.2.1 C.2.2.2.2.2.1 C.2.2.2.2.2.2.1 C.2.2.2.2.2.2.2.1 C.2.2.2.2.2.2.2.2.1 C.2.2.2.2.2.2.2.2.2.1 C.2.2.2.2.2.2.2.2.2.2.1 q2 ++ [w_Script Z.2.1 As S]) (L' := l_Scenes Z.2.1 Ac C.1 C.2.1 u7 C.2.2.2.1 C.2.2.2.2.1 C.2.2.2.2.2.1 C.2.2.2.2.2.2.1 C.2.2.2.2.2.2.2.1 C.2.2.2.2.2.2.2.2.1 C.2.2.2.2.2.2.2.2.2.1 C.2.2.2.2.2.2.2.2.2.2.1 q2 ++ [w_Script Z.2.1 As S]) (C := RX4) (T := TX4) (N := 12) hx hb hts zinX4 tyX4 tyX4_ok nmX4 hown hK hP hD hS 0 rfl rfl 2 (by decide) (hts _ k_f_X4_18) (fun _ h9 => h9) rfl (tyX4_ok 2 (by decide)) rfl rfl (Nat.le_of_ble_eq_true rfl) rfl (z_d hX4_findCarriedNames_0 48 rfl) (fun H locs hP hD hS => ?_)
        exact J91 (C.1, C.2.1, u7, C.2.2.2.1, C.2.2.2.2.1, C.2.2.2.2.2.1, C.2.2.2.2.2.2.1, C.2.2.2.2.2.2.2.1, C.2.2.2.2.2.2.2.2.1, C.2.2.2.2.2.2.2.2.2.1, C.2.2.2.2.2.2.2.2.2.2.1, q2) x2 x3 x4 hF _ _ ls hP hD hS (lv_sub hl [0, 1, 2, 3, 4] rfl)
    have J56 : ∀ (C : t_Scenes) (x2 : Int32) (x3 : Int32) (x4 : Int32) (z0 : Int32) (hF : j_X4_findCarriedNames_56 S rec C x2 x3 x4 z0 = some X) (H : Heap) (locs : List Loc) (ls : Array Slot) (hP : va_P Z.1 vwCl (l_Scenes Z.2.1 Ac C.1 C.2.1 C.2.2.1 C.2.2.2.1 C.2.2.2.2.1 C.2.2.2.2.2.1 C.2.2.2.2.2.2.1 C.2.2.2.2.2.2.2.1 C.2.2.2.2.2.2.2.2.1 C.2.2.2.2.2.2.2.2.2.1 C.2.2.2.2.2.2.2.2.2.2.1 C.2.2.2.2.2.2.2.2.2.2.2 ++ [w_Script Z.2.1 As S]).flatten H) (hD : va_D A (l_Scenes Z.2.1 Ac C.1 C.2.1 C.2.2.1 C.2.2.2.1 C.2.2.2.2.1 C.2.2.2.2.2.1 C.2.2.2.2.2.2.1 C.2.2.2.2.2.2.2.1 C.2.2.2.2.2.2.2.2.1 C.2.2.2.2.2.2.2.2.2.1 C.2.2.2.2.2.2.2.2.2.2.1 C.2.2.2.2.2.2.2.2.2.2.2 ++ [w_Script Z.2.1 As S]).flatten) (hS : va_S A s.heap H locs) (hl : lv_has ls 6 [(0, .ref (Ac 0)), (1, .ref (As 0)), (2, .int x2), (3, .int x3), (4, .int x4)]), W p l e rm_X4_findCarriedNames s m ([.ref (Ac 0), .ref (As 0)] : List Value).toArray below meth c H locs 0 0 Q (F0 m 56 ls [.int z0]) := by
      intro C x2 x3 x4 z0 hF H locs ls hP hD hS hl
      unfold j_X4_findCarriedNames_56 at hF
      refine lv_istore (lv' := [(5, .int z0), (0, .ref (Ac 0)), (1, .ref (As 0)), (2, .int x2), (3, .int x3), (4, .int x4)]) hx hb (z_d hX4_findCarriedNames_0 31 rfl) hl (by decide) rfl (fun ls hl => ?_)
      refine lv_aload_n hx hb (z_d hX4_findCarriedNames_0 32 rfl) rfl (lv_at hl 1 rfl) ?_
      refine va_get (D := Z.1) (ci := 4) (v := .ref (Ac 17)) (C := RX4) (T := TX4) (N := 12) hx hb hts zinX4 hown hK.1 (zP_reg hP 0 rfl) 0 rfl rfl 11 (by decide) (hts _ k_f_X4_51) (fun _ h9 => h9) rfl (z_d hX4_findCarriedNames_0 33 rfl) ?_
      refine lv_iload_n hx hb (z_d hX4_findCarriedNames_0 34 rfl) rfl (lv_at hl 4 rfl) ?_
      refine lv_iload hx hb (z_d hX4_findCarriedNames_0 35 rfl) (lv_at hl 0 rfl) ?_
      refine lv_if_eq (tgt := 72) hx hb (z_d hX4_findCarriedNames_0 36 rfl) (by decide) (fun hc65 => ?_) (fun hc65 => ?_)
      · have hF := z_pos hc65 hF
        refine lv_iconst (v := 0) hx hb (z_d hX4_findCarriedNames_0 39 rfl) (by decide) ?_
        exact J73 C x2 x3 x4 z0 0 x3 hF _ _ ls hP hD hS (lv_sub hl [1, 2, 3, 4, 5, 0] rfl)
      · have hF := z_neg hc65 hF
        refine lv_iconst (v := 1) hx hb (z_d hX4_findCarriedNames_0 37 rfl) (by decide) ?_
        refine lv_goto (tgt := 73) hx hb (z_d hX4_findCarriedNames_0 38 rfl) (by decide) ?_
        exact J73 C x2 x3 x4 z0 1 x3 hF _ _ ls hP hD hS (lv_sub hl [1, 2, 3, 4, 5, 0] rfl)
    have J55 : ∀ (C : t_Scenes) (x2 : Int32) (x3 : Int32) (x4 : Int32) (hF : j_X4_findCarriedNames_55 S rec C x2 x3 x4 = some X) (H : Heap) (locs : List Loc) (ls : Array Slot) (hP : va_P Z.1 vwCl (l_Scenes Z.2.1 Ac C.1 C.2.1 C.2.2.1 C.2.2.2.1 C.2.2.2.2.1 C.2.2.2.2.2.1 C.2.2.2.2.2.2.1 C.2.2.2.2.2.2.2.1 C.2.2.2.2.2.2.2.2.1 C.2.2.2.2.2.2.2.2.2.1 C.2.2.2.2.2.2.2.2.2.2.1 C.2.2.2.2.2.2.2.2.2.2.2 ++ [w_Script Z.2.1 As S]).flatten H) (hD : va_D A (l_Scenes Z.2.1 Ac C.1 C.2.1 C.2.2.1 C.2.2.2.1 C.2.2.2.2.1 C.2.2.2.2.2.1 C.2.2.2.2.2.2.1 C.2.2.2.2.2.2.2.1 C.2.2.2.2.2.2.2.2.1 C.2.2.2.2.2.2.2.2.2.1 C.2.2.2.2.2.2.2.2.2.2.1 C.2.2.2.2.2.2.2.2.2.2.2 ++ [w_Script Z.2.1 As S]).flatten) (hS : va_S A s.heap H locs) (hl : lv_has ls 6 [(0, .ref (Ac 0)), (1, .ref (As 0)), (2, .int x2), (3, .int x3), (4, .int x4)]), W p l e rm_X4_findCarriedNames s m ([.ref (Ac 0), .ref (As 0)] : List Value).toArray below meth c H locs 0 0 Q (F0 m 55 ls []) := by
      intro C x2 x3 x4 hF H locs ls hP hD hS hl
      unfold j_X4_findCarriedNames_55 at hF
      refine lv_iconst (v := 0) hx hb (z_d hX4_findCarriedNames_0 30 rfl) (by decide) ?_
      exact J56 C x2 x3 x4 0 hF _ _ ls hP hD hS (lv_sub hl [0, 1, 2, 3, 4] rfl)
    refine lv_iload_n hx hb (z_d hX4_findCarriedNames_0 7 rfl) rfl (lv_at hl 3 rfl) ?_
    refine lv_aload_n hx hb (z_d hX4_findCarriedNames_0 8 rfl) rfl (lv_at hl 1 rfl) ?_
    refine va_getN (D := Z.1) (ci := 5) (v := .int S.1) (C := RX5) (T := TX5) (N := 10) hx hb hts zinX5 hown hK.1 (zP_reg (L := l_Script Z.2.1 As S.1 S.2.1 S.2.2.1 S.2.2.2.1 S.2.2.2.2.1 S.2.2.2.2.2.1 S.2.2.2.2.2.2.1 S.2.2.2.2.2.2.2.1 S.2.2.2.2.2.2.2.2.1 S.2.2.2.2.2.2.2.2.2) (zP_reg hP 10 rfl) 0 rfl) 0 rfl rfl 0 (by decide) (kn_X4_71 hK.2) (fun _ h9 => h9) rfl (z_d hX4_findCarriedNames_0 9 rfl) ?_
    refine lv_icmp_ge (tgt := 119) hx hb (z_d hX4_findCarriedNames_0 10 rfl) (by decide) (fun hc14 => ?_) (fun hc14 => ?_)
    · have hF := z_pos hc14 hF
      obtain rfl := Option.some.inj hF
      exact K1 _ _ ls hP hD hS (lv_sub hl [0, 1] rfl)
    · have hF := z_neg hc14 hF
      refine lv_aload_n hx hb (z_d hX4_findCarriedNames_0 11 rfl) rfl (lv_at hl 1 rfl) ?_
      refine va_getN (D := Z.1) (ci := 5) (v := .ref (As 5)) (C := RX5) (T := TX5) (N := 10) hx hb hts zinX5 hown hK.1 (zP_reg (L := l_Script Z.2.1 As S.1 S.2.1 S.2.2.1 S.2.2.2.1 S.2.2.2.2.1 S.2.2.2.2.2.1 S.2.2.2.2.2.2.1 S.2.2.2.2.2.2.2.1 S.2.2.2.2.2.2.2.2.1 S.2.2.2.2.2.2.2.2.2) (zP_reg hP 10 rfl) 0 rfl) 0 rfl rfl 4 (by decide) (kn_X4_94 hK.2) (fun _ h9 => h9) rfl (z_d hX4_findCarriedNames_0 12 rfl) ?_
      refine lv_iload_n hx hb (z_d hX4_findCarriedNames_0 13 rfl) rfl (lv_at hl 3 rfl) ?_
      refine z_let hF (fun q1 hq1 hF => ?_)
      refine z_ro_i (z_rV (As := [.int v.2.2]) (rest := []) hx hb hml hown hts vt_X3_at (c_rAt l Z 60 (As 5) (As 6) (by decide) S.2.2.2.2.1 v.2.2 _ hq1) rfl rfl ⟨Nat.le_of_ble_eq_true rfl, Nat.le_of_ble_eq_true rfl⟩ k_m_X4_97 zPro_blind (z_recv (q := (RX3, TX3, 1)) (ci := 3) (q0 := 0) hK (zP_reg (L := l_Script Z.2.1 As S.1 S.2.1 S.2.2.1 S.2.2.2.1 S.2.2.2.2.1 S.2.2.2.2.2.1 S.2.2.2.2.2.2.1 S.2.2.2.2.2.2.2.1 S.2.2.2.2.2.2.2.2.1 S.2.2.2.2.2.2.2.2.2) (zP_reg hP 10 rfl) 3 rfl) rfl rfl) (z_prec hK (zP_reg (L := l_Script Z.2.1 As S.1 S.2.1 S.2.2.1 S.2.2.2.1 S.2.2.2.2.1 S.2.2.2.2.2.1 S.2.2.2.2.2.2.1 S.2.2.2.2.2.2.2.1 S.2.2.2.2.2.2.2.2.1 S.2.2.2.2.2.2.2.2.2) (zP_reg hP 10 rfl) 3 rfl)) rfl hl.1 (Nat.le_of_ble_eq_true rfl) (z_d hX4_findCarriedNames_0 14 rfl) ⟨Nat.zero_le _, Nat.zero_le _⟩) hS hP (fun H locs hP hS => ?_)
      refine lv_istore (lv' := [(4, .int q1), (0, .ref (Ac 0)), (1, .ref (As 0)), (2, .int v.2.1), (3, .int v.2.2)]) hx hb (z_d hX4_findCarriedNames_0 15 rfl) hl (by decide) rfl (fun ls hl => ?_)
      refine lv_iload hx hb (z_d hX4_findCarriedNames_0 16 rfl) (lv_at hl 0 rfl) ?_
      refine lv_iconst (v := (-1)) hx hb (z_d hX4_findCarriedNames_0 17 rfl) (by decide) ?_
      refine lv_icmp_eq (tgt := 55) hx hb (z_d hX4_findCarriedNames_0 18 rfl) (by decide) (fun hc30 => ?_) (fun hc30 => ?_)
      · have hF := z_pos hc30 hF
        exact J55 v.1 v.2.1 v.2.2 q1 hF _ _ ls hP hD hS (lv_sub hl [1, 2, 3, 4, 0] rfl)
      · have hF := z_neg hc30 hF
        refine lv_iload hx hb (z_d hX4_findCarriedNames_0 19 rfl) (lv_at hl 0 rfl) ?_
        refine lv_iload_n hx hb (z_d hX4_findCarriedNames_0 20 rfl) rfl (lv_at hl 3 rfl) ?_
        refine lv_icmp_ne (tgt := 55) hx hb (z_d hX4_findCarriedNames_0 21 rfl) (by decide) (fun hc36 => ?_) (fun hc36 => ?_)
        · have hF := z_neg hc36 hF
          exact J55 v.1 v.2.1 v.2.2 q1 hF _ _ ls hP hD hS (lv_sub hl [1, 2, 3, 4, 0] rfl)
        · have hF := z_pos hc36 hF
          refine lv_aload_n hx hb (z_d hX4_findCarriedNames_0 22 rfl) rfl (lv_at hl 1 rfl) ?_
          refine va_get (D := Z.1) (ci := 4) (v := .ref (Ac 15)) (C := RX4) (T := TX4) (N := 12) hx hb hts zinX4 hown hK.1 (zP_reg hP 0 rfl) 0 rfl rfl 10 (by decide) (hts _ k_f_X4_48) (fun _ h9 => h9) rfl (z_d hX4_findCarriedNames_0 23 rfl) ?_
          refine lv_iload_n hx hb (z_d hX4_findCarriedNames_0 24 rfl) rfl (lv_at hl 4 rfl) ?_
          refine z_let hF (fun q8 hq8 hF => ?_)
          refine z_ro_i (z_rV (As := [.int v.2.2]) (rest := []) hx hb hml hown hts vt_X3_at (c_rAt l Z 60 (Ac 15) (Ac 16) (by decide) v.1.2.2.2.2.2.2.2.2.2.2.1 v.2.2 _ hq8) rfl rfl ⟨Nat.le_of_ble_eq_true rfl, Nat.le_of_ble_eq_true rfl⟩ k_m_X4_97 zPro_blind (z_recv (q := (RX3, TX3, 1)) (ci := 3) (q0 := 0) hK (zP_reg hP 8 rfl) rfl rfl) (z_prec hK (zP_reg hP 8 rfl)) rfl hl.1 (Nat.le_of_ble_eq_true rfl) (z_d hX4_findCarriedNames_0 25 rfl) ⟨Nat.zero_le _, Nat.zero_le _⟩) hS hP (fun H locs hP hS => ?_)
          refine lv_iconst (v := (-1)) hx hb (z_d hX4_findCarriedNames_0 26 rfl) (by decide) ?_
          refine lv_icmp_eq (tgt := 55) hx hb (z_d hX4_findCarriedNames_0 27 rfl) (by decide) (fun hc48 => ?_) (fun hc48 => ?_)
          · have hF := z_pos hc48 hF
            exact J55 v.1 v.2.1 v.2.2 q1 hF _ _ ls hP hD hS (lv_sub hl [1, 2, 3, 4, 0] rfl)
          · have hF := z_neg hc48 hF
            refine lv_iconst (v := 1) hx hb (z_d hX4_findCarriedNames_0 28 rfl) (by decide) ?_
            refine lv_goto (tgt := 56) hx hb (z_d hX4_findCarriedNames_0 29 rfl) (by decide) ?_
            exact J56 v.1 v.2.1 v.2.2 q1 1 hF _ _ ls hP hD hS (lv_sub hl [1, 2, 3, 4, 0] rfl)
  refine lv_aload_n hx hb (z_d hX4_findCarriedNames_0 0 rfl) rfl (lv_at hl 0 rfl) ?_
  refine lv_iconst (v := 0) hx hb (z_d hX4_findCarriedNames_0 1 rfl) (by decide) ?_
  refine z_put (Z := Z) (ci := 4) (v := .int 0) (ty := .int) (L := l_Scenes Z.2.1 Ac C.1 C.2.1 C.2.2.1 C.2.2.2.1 C.2.2.2.2.1 C.2.2.2.2.2.1 C.2.2.2.2.2.2.1 C.2.2.2.2.2.2.2.1 C.2.2.2.2.2.2.2.2.1 C.2.2.2.2.2.2.2.2.2.1 C.2.2.2.2.2.2.2.2.2.2.1 C.2.2.2.2.2.2.2.2.2.2.2 ++ [w_Script Z.2.1 As S]) (L' := l_Scenes Z.2.1 Ac C.1 C.2.1 0 C.2.2.2.1 C.2.2.2.2.1 C.2.2.2.2.2.1 C.2.2.2.2.2.2.1 C.2.2.2.2.2.2.2.1 C.2.2.2.2.2.2.2.2.1 C.2.2.2.2.2.2.2.2.2.1 C.2.2.2.2.2.2.2.2.2.2.1 C.2.2.2.2.2.2.2.2.2.2.2 ++ [w_Script Z.2.1 As S]) (C := RX4) (T := TX4) (N := 12) hx hb hts zinX4 tyX4 tyX4_ok nmX4 hown hK hP hD hS 0 rfl rfl 2 (by decide) (hts _ k_f_X4_18) (fun _ h9 => h9) rfl (tyX4_ok 2 (by decide)) rfl rfl (Nat.le_of_ble_eq_true rfl) rfl (z_d hX4_findCarriedNames_0 2 rfl) (fun H locs hP hD hS => ?_)
  refine lv_iconst (v := (-1)) hx hb (z_d hX4_findCarriedNames_0 3 rfl) (by decide) ?_
  refine lv_istore_n (lv' := [(2, .int (-1)), (0, .ref (Ac 0)), (1, .ref (As 0))]) hx hb (z_d hX4_findCarriedNames_0 4 rfl) rfl hl (by decide) rfl (fun ls hl => ?_)
  refine lv_iconst (v := 0) hx hb (z_d hX4_findCarriedNames_0 5 rfl) (by decide) ?_
  refine lv_istore_n (lv' := [(3, .int 0), (2, .int (-1)), (0, .ref (Ac 0)), (1, .ref (As 0))]) hx hb (z_d hX4_findCarriedNames_0 6 rfl) rfl hl (by decide) rfl (fun ls hl => ?_)
  refine z_bnd hF (fun q9 hq9 hF => ?_)
  refine L9  _ _ _ hq9 _ _ ls hP hD hS (lv_sub hl [2, 3, 1, 0] rfl) (fun H locs ls hP hD hS hl => ?_)
  obtain rfl := Option.some.inj hF
  subst hQ
  subst hA
  exact W.vret hx hb hr (fun t ht hW => zq_mu (by rw [ht]; exact zfl hP) (hS.F ht)) hS.2.2 (z_d hX4_findCarriedNames_1 3 rfl)
def rm_X4_findLimits : Room := { frames := 2, cells := 0, slots := 0, locals := 42 }
set_option maxRecDepth 100000 in
set_option maxHeartbeats 4000000 in
theorem c_X4_findLimits (l : Launch) (Z : zZ) (Ac : Nat → Nat) (As : Nat → Nat) (C : t_Scenes) (S : t_Script) (R : t_Scenes) (hF : X4_findLimits C S = some R) : zMU l yX4_findLimits (zw yX4_findLimits cX4_findLimits 5 none) rm_X4_findLimits Z [.ref (Ac 0), .ref (As 0)] (List.flatten [w_Scenes Z.2.1 Ac C, w_Script Z.2.1 As S]) (List.flatten [w_Scenes Z.2.1 Ac R, w_Script Z.2.1 As S]) none := by
  refine zMU_of (by decide) (Nat.le_of_ble_eq_true rfl) (fun p e s m below meth c hx hb hr hml hown hts hlocks hK A hA Q hQ ls hl hP hD hS => ?_)
  unfold X4_findLimits at hF
  have hl : lv_has ls 5 [(0, .ref (Ac 0)), (1, .ref (As 0))] := hl
  have hown : s.vm.findClass RX4 = some m.cls := hown
  have hP : va_P Z.1 vwCl (l_Scenes Z.2.1 Ac C.1 C.2.1 C.2.2.1 C.2.2.2.1 C.2.2.2.2.1 C.2.2.2.2.2.1 C.2.2.2.2.2.2.1 C.2.2.2.2.2.2.2.1 C.2.2.2.2.2.2.2.2.1 C.2.2.2.2.2.2.2.2.2.1 C.2.2.2.2.2.2.2.2.2.2.1 C.2.2.2.2.2.2.2.2.2.2.2 ++ [w_Script Z.2.1 As S]).flatten s.heap := zfr hP
  have hD : va_D A (l_Scenes Z.2.1 Ac C.1 C.2.1 C.2.2.1 C.2.2.2.1 C.2.2.2.2.1 C.2.2.2.2.2.1 C.2.2.2.2.2.2.1 C.2.2.2.2.2.2.2.1 C.2.2.2.2.2.2.2.2.1 C.2.2.2.2.2.2.2.2.2.1 C.2.2.2.2.2.2.2.2.2.2.1 C.2.2.2.2.2.2.2.2.2.2.2 ++ [w_Script Z.2.1 As S]).flatten := zfrD hD
  have L9 : ∀  (n : Nat) (v : t_Scenes × Int32 × Int32) (X : t_Scenes) (hF : zloop (b_X4_findLimits_9 S ) n v = some X) (H : Heap) (locs : List Loc) (ls : Array Slot) (hP : va_P Z.1 vwCl (l_Scenes Z.2.1 Ac v.1.1 v.1.2.1 v.1.2.2.1 v.1.2.2.2.1 v.1.2.2.2.2.1 v.1.2.2.2.2.2.1 v.1.2.2.2.2.2.2.1 v.1.2.2.2.2.2.2.2.1 v.1.2.2.2.2.2.2.2.2.1 v.1.2.2.2.2.2.2.2.2.2.1 v.1.2.2.2.2.2.2.2.2.2.2.1 v.1.2.2.2.2.2.2.2.2.2.2.2 ++ [w_Script Z.2.1 As S]).flatten H) (hD : va_D A (l_Scenes Z.2.1 Ac v.1.1 v.1.2.1 v.1.2.2.1 v.1.2.2.2.1 v.1.2.2.2.2.1 v.1.2.2.2.2.2.1 v.1.2.2.2.2.2.2.1 v.1.2.2.2.2.2.2.2.1 v.1.2.2.2.2.2.2.2.2.1 v.1.2.2.2.2.2.2.2.2.2.1 v.1.2.2.2.2.2.2.2.2.2.2.1 v.1.2.2.2.2.2.2.2.2.2.2.2 ++ [w_Script Z.2.1 As S]).flatten) (hS : va_S A s.heap H locs) (hl : lv_has ls 5 [(0, .ref (Ac 0)), (1, .ref (As 0)), (2, .int v.2.1), (3, .int v.2.2)]) (K1 : ∀ (H : Heap) (locs : List Loc) (ls : Array Slot) (hP : va_P Z.1 vwCl (l_Scenes Z.2.1 Ac X.1 X.2.1 X.2.2.1 X.2.2.2.1 X.2.2.2.2.1 X.2.2.2.2.2.1 X.2.2.2.2.2.2.1 X.2.2.2.2.2.2.2.1 X.2.2.2.2.2.2.2.2.1 X.2.2.2.2.2.2.2.2.2.1 X.2.2.2.2.2.2.2.2.2.2.1 X.2.2.2.2.2.2.2.2.2.2.2 ++ [w_Script Z.2.1 As S]).flatten H) (hD : va_D A (l_Scenes Z.2.1 Ac X.1 X.2.1 X.2.2.1 X.2.2.2.1 X.2.2.2.2.1 X.2.2.2.2.2.1 X.2.2.2.2.2.2.1 X.2.2.2.2.2.2.2.1 X.2.2.2.2.2.2.2.2.1 X.2.2.2.2.2.2.2.2.2.1 X.2.2.2.2.2.2.2.2.2.2.1 X.2.2.2.2.2.2.2.2.2.2.2 ++ [w_Script Z.2.1 As S]).flatten) (hS : va_S A s.heap H locs) (hl : lv_has ls 5 [(0, .ref (Ac 0)), (1, .ref (As 0))]), W p l e rm_X4_findLimits s m ([.ref (Ac 0), .ref (As 0)] : List Value).toArray below meth c H locs 0 0 Q (F0 m 57 ls [])), W p l e rm_X4_findLimits s m ([.ref (Ac 0), .ref (As 0)] : List Value).toArray below meth c H locs 0 0 Q (F0 m 9 ls []) := by
    skip
    refine z_loopE (fun rec ih v X hF H locs ls hP hD hS hl K1 => ?_)
    unfold b_X4_findLimits_9 at hF
    refine lv_iload_n hx hb (z_d hX4_findLimits_0 7 rfl) rfl (lv_at hl 3 rfl) ?_
    refine lv_if_lt (tgt := 57) hx hb (z_d hX4_findLimits_0 8 rfl) (by decide) (fun hc10 => ?_) (fun hc10 => ?_)
    · have hF := z_pos hc10 hF
      obtain rfl := Option.some.inj hF
      exact K1 _ _ ls hP hD hS (lv_sub hl [0, 1] rfl)
    · have hF := z_neg hc10 hF
      refine lv_aload_n hx hb (z_d hX4_findLimits_0 9 rfl) rfl (lv_at hl 0 rfl) ?_
      refine va_get (D := Z.1) (ci := 4) (v := .ref (Ac 13)) (C := RX4) (T := TX4) (N := 12) hx hb hts zinX4 hown hK.1 (zP_reg hP 0 rfl) 0 rfl rfl 9 (by decide) (hts _ k_f_X4_45) (fun _ h9 => h9) rfl (z_d hX4_findLimits_0 10 rfl) ?_
      refine lv_iload_n hx hb (z_d hX4_findLimits_0 11 rfl) rfl (lv_at hl 3 rfl) ?_
      refine lv_iload_n hx hb (z_d hX4_findLimits_0 12 rfl) rfl (lv_at hl 2 rfl) ?_
      refine z_let hF (fun q2 hq2 hF => ?_)
      refine z_mu1 (L := l_Scenes Z.2.1 Ac v.1.1 v.1.2.1 v.1.2.2.1 v.1.2.2.2.1 v.1.2.2.2.2.1 v.1.2.2.2.2.2.1 v.1.2.2.2.2.2.2.1 v.1.2.2.2.2.2.2.2.1 v.1.2.2.2.2.2.2.2.2.1 v.1.2.2.2.2.2.2.2.2.2.1 v.1.2.2.2.2.2.2.2.2.2.2.1 v.1.2.2.2.2.2.2.2.2.2.2.2 ++ [w_Script Z.2.1 As S]) (L' := l_Scenes Z.2.1 Ac v.1.1 v.1.2.1 v.1.2.2.1 v.1.2.2.2.1 v.1.2.2.2.2.1 v.1.2.2.2.2.2.1 v.1.2.2.2.2.2.2.1 v.1.2.2.2.2.2.2.2.1 v.1.2.2.2.2.2.2.2.2.1 q2 v.1.2.2.2.2.2.2.2.2.2.2.1 v.1.2.2.2.2.2.2.2.2.2.2.2 ++ [w_Script Z.2.1 As S]) (z_rV (As := [.int v.2.2, .int v.2.1]) (rest := []) hx hb hml hown hts vt_X3_put (c_rPut l Z 60 (Ac 13) (Ac 14) (by decide) v.1.2.2.2.2.2.2.2.2.2.1 v.2.2 v.2.1 _ hq2) rfl rfl ⟨Nat.le_of_ble_eq_true rfl, Nat.le_of_ble_eq_true rfl⟩ k_m_X4_80 zPmu_blind (z_recv (q := (RX3, TX3, 1)) (ci := 3) (q0 := 0) hK (zP_reg hP 7 rfl) rfl rfl) (z_prem hK (zP_reg hP 7 rfl) (zD_one hD 7 _ rfl)) rfl hl.1 (Nat.le_of_ble_eq_true rfl) (z_d hX4_findLimits_0 13 rfl) ⟨Nat.zero_le _, Nat.zero_le _⟩) hS hP hD 7 rfl rfl rfl (fun H locs hP hD hS => ?_)
      refine W.eq (g2 := F0 m 22 ls []) rfl ?_
      refine lv_aload_n hx hb (z_d hX4_findLimits_0 14 rfl) rfl (lv_at hl 0 rfl) ?_
      refine va_get (D := Z.1) (ci := 4) (v := .ref (Ac 1)) (C := RX4) (T := TX4) (N := 12) hx hb hts zinX4 hown hK.1 (zP_reg hP 0 rfl) 0 rfl rfl 3 (by decide) (hts _ k_f_X4_26) (fun _ h9 => h9) rfl (z_d hX4_findLimits_0 15 rfl) ?_
      refine lv_iload_n hx hb (z_d hX4_findLimits_0 16 rfl) rfl (lv_at hl 3 rfl) ?_
      refine z_let hF (fun q3 hq3 hF => ?_)
      refine z_ro_i (z_rV (As := [.int v.2.2]) (rest := []) hx hb hml hown hts vt_X3_at (c_rAt l Z 60 (Ac 1) (Ac 2) (by decide) v.1.2.2.2.1 v.2.2 _ hq3) rfl rfl ⟨Nat.le_of_ble_eq_true rfl, Nat.le_of_ble_eq_true rfl⟩ k_m_X4_97 zPro_blind (z_recv (q := (RX3, TX3, 1)) (ci := 3) (q0 := 0) hK (zP_reg hP 1 rfl) rfl rfl) (z_prec hK (zP_reg hP 1 rfl)) rfl hl.1 (Nat.le_of_ble_eq_true rfl) (z_d hX4_findLimits_0 17 rfl) ⟨Nat.zero_le _, Nat.zero_le _⟩) hS hP (fun H locs hP hS => ?_)
      refine lv_istore (lv' := [(4, .int q3), (0, .ref (Ac 0)), (1, .ref (As 0)), (2, .int v.2.1), (3, .int v.2.2)]) hx hb (z_d hX4_findLimits_0 18 rfl) hl (by decide) rfl (fun ls hl => ?_)
      refine lv_aload_n hx hb (z_d hX4_findLimits_0 19 rfl) rfl (lv_at hl 2 rfl) ?_
      refine lv_iload hx hb (z_d hX4_findLimits_0 20 rfl) (lv_at hl 0 rfl) ?_
      refine z_let hF (fun q4 hq4 hF => ?_)
      refine z_ro_i (z_rV (As := [.int q3]) (rest := []) hx hb hml hown hts vt_X5_isLocked (c_X5_isLocked l Z As S q3 _ hq4) rfl rfl ⟨Nat.le_of_ble_eq_true rfl, Nat.le_of_ble_eq_true rfl⟩ k_m_X4_84 zPro_blind (z_recv (q := (RX5, TX5, 10)) (ci := 5) (q0 := 0) hK (zP_reg (L := l_Script Z.2.1 As S.1 S.2.1 S.2.2.1 S.2.2.2.1 S.2.2.2.2.1 S.2.2.2.2.2.1 S.2.2.2.2.2.2.1 S.2.2.2.2.2.2.2.1 S.2.2.2.2.2.2.2.2.1 S.2.2.2.2.2.2.2.2.2) (zP_reg hP 10 rfl) 0 rfl) rfl rfl) (z_prec hK (zP_reg hP 10 rfl)) rfl hl.1 (Nat.le_of_ble_eq_true rfl) (z_d hX4_findLimits_0 21 rfl) ⟨Nat.zero_le _, Nat.zero_le _⟩) hS hP (fun H locs hP hS => ?_)
      refine lv_if_eq (tgt := 51) hx hb (z_d hX4_findLimits_0 22 rfl) (by decide) (fun hc38 => ?_) (fun hc38 => ?_)
      · have hF := z_pos hc38 hF
        refine z_let hF (fun u5 hu5 hF => ?_)
        refine lv_iinc (v := u5) (lv' := [(3, .int u5), (4, .int q3), (0, .ref (Ac 0)), (1, .ref (As 0)), (2, .int v.2.1)]) hx hb (z_d hX4_findLimits_0 28 rfl) hl (k := 4) rfl (z_incm1 hu5) (by decide) rfl (fun ls hl => ?_)
        refine lv_goto (tgt := 9) hx hb (z_d hX4_findLimits_0 29 rfl) (by decide) ?_
        exact ih _ _ hF _ _ ls hP hD hS (lv_sub hl [2, 3, 4, 0] rfl) K1
      · have hF := z_neg hc38 hF
        refine lv_aload_n hx hb (z_d hX4_findLimits_0 23 rfl) rfl (lv_at hl 2 rfl) ?_
        refine va_getN (D := Z.1) (ci := 5) (v := .ref (As 11)) (C := RX5) (T := TX5) (N := 10) hx hb hts zinX5 hown hK.1 (zP_reg (L := l_Script Z.2.1 As S.1 S.2.1 S.2.2.1 S.2.2.2.1 S.2.2.2.2.1 S.2.2.2.2.2.1 S.2.2.2.2.2.2.1 S.2.2.2.2.2.2.2.1 S.2.2.2.2.2.2.2.2.1 S.2.2.2.2.2.2.2.2.2) (zP_reg hP 10 rfl) 0 rfl) 0 rfl rfl 7 (by decide) (kn_X4_100 hK.2) (fun _ h9 => h9) rfl (z_d hX4_findLimits_0 24 rfl) ?_
        refine lv_iload hx hb (z_d hX4_findLimits_0 25 rfl) (lv_at hl 0 rfl) ?_
        refine z_let hF (fun q6 hq6 hF => ?_)
        refine z_ro_i (z_rV (As := [.int q3]) (rest := []) hx hb hml hown hts vt_X3_at (c_rAt l Z 60 (As 11) (As 12) (by decide) S.2.2.2.2.2.2.2.1 q3 _ hq6) rfl rfl ⟨Nat.le_of_ble_eq_true rfl, Nat.le_of_ble_eq_true rfl⟩ k_m_X4_97 zPro_blind (z_recv (q := (RX3, TX3, 1)) (ci := 3) (q0 := 0) hK (zP_reg (L := l_Script Z.2.1 As S.1 S.2.1 S.2.2.1 S.2.2.2.1 S.2.2.2.2.1 S.2.2.2.2.2.1 S.2.2.2.2.2.2.1 S.2.2.2.2.2.2.2.1 S.2.2.2.2.2.2.2.2.1 S.2.2.2.2.2.2.2.2.2) (zP_reg hP 10 rfl) 6 rfl) rfl rfl) (z_prec hK (zP_reg (L := l_Script Z.2.1 As S.1 S.2.1 S.2.2.1 S.2.2.2.1 S.2.2.2.2.1 S.2.2.2.2.2.1 S.2.2.2.2.2.2.1 S.2.2.2.2.2.2.2.1 S.2.2.2.2.2.2.2.2.1 S.2.2.2.2.2.2.2.2.2) (zP_reg hP 10 rfl) 6 rfl)) rfl hl.1 (Nat.le_of_ble_eq_true rfl) (z_d hX4_findLimits_0 26 rfl) ⟨Nat.zero_le _, Nat.zero_le _⟩) hS hP (fun H locs hP hS => ?_)
        refine lv_istore_n (lv' := [(2, .int q6), (4, .int q3), (0, .ref (Ac 0)), (1, .ref (As 0)), (3, .int v.2.2)]) hx hb (z_d hX4_findLimits_0 27 rfl) rfl hl (by decide) rfl (fun ls hl => ?_)
        refine z_let hF (fun u7 hu7 hF => ?_)
        refine lv_iinc (v := u7) (lv' := [(3, .int u7), (2, .int q6), (4, .int q3), (0, .ref (Ac 0)), (1, .ref (As 0))]) hx hb (z_d hX4_findLimits_0 28 rfl) hl (k := 4) rfl (z_incm1 hu7) (by decide) rfl (fun ls hl => ?_)
        refine lv_goto (tgt := 9) hx hb (z_d hX4_findLimits_0 29 rfl) (by decide) ?_
        exact ih _ _ hF _ _ ls hP hD hS (lv_sub hl [3, 4, 1, 0] rfl) K1
  refine lv_iconst (v := (-1)) hx hb (z_d hX4_findLimits_0 0 rfl) (by decide) ?_
  refine lv_istore_n (lv' := [(2, .int (-1)), (0, .ref (Ac 0)), (1, .ref (As 0))]) hx hb (z_d hX4_findLimits_0 1 rfl) rfl hl (by decide) rfl (fun ls hl => ?_)
  refine lv_aload_n hx hb (z_d hX4_findLimits_0 2 rfl) rfl (lv_at hl 1 rfl) ?_
  refine va_get (D := Z.1) (ci := 4) (v := .int C.1) (C := RX4) (T := TX4) (N := 12) hx hb hts zinX4 hown hK.1 (zP_reg hP 0 rfl) 0 rfl rfl 0 (by decide) (hts _ k_f_X4_9) (fun _ h9 => h9) rfl (z_d hX4_findLimits_0 3 rfl) ?_
  refine lv_iconst (v := 1) hx hb (z_d hX4_findLimits_0 4 rfl) (by decide) ?_
  refine lv_isub hx hb (z_d hX4_findLimits_0 5 rfl) ?_
  refine z_let hF (fun u1 hu1 hF => ?_)
  refine lv_topE hu1 ?_
  refine lv_istore_n (lv' := [(3, .int u1), (2, .int (-1)), (0, .ref (Ac 0)), (1, .ref (As 0))]) hx hb (z_d hX4_findLimits_0 6 rfl) rfl hl (by decide) rfl (fun ls hl => ?_)
  refine z_bnd hF (fun q8 hq8 hF => ?_)
  refine L9  _ _ _ hq8 _ _ ls hP hD hS (lv_sub hl [2, 3, 1, 0] rfl) (fun H locs ls hP hD hS hl => ?_)
  obtain rfl := Option.some.inj hF
  subst hQ
  subst hA
  exact W.vret hx hb hr (fun t ht hW => zq_mu (by rw [ht]; exact zfl hP) (hS.F ht)) hS.2.2 (z_d hX4_findLimits_0 30 rfl)
def rm_X4_putLabel : Room := { frames := 1, cells := 0, slots := 0, locals := 22 }
set_option maxRecDepth 100000 in
set_option maxHeartbeats 4000000 in
theorem c_X4_putLabel (l : Launch) (Z : zZ) (Ac : Nat → Nat) (C : t_Scenes) (p1 : Int32) (p2 : Int32) (p3 : Int32) (p4 : Int32) (R : t_Scenes) (hF : X4_putLabel C p1 p2 p3 p4 = R) : zMU l yX4_putLabel (zw yX4_putLabel cX4_putLabel 5 none) rm_X4_putLabel Z [.ref (Ac 0), .int p1, .int p2, .int p3, .int p4] (w_Scenes Z.2.1 Ac C) (w_Scenes Z.2.1 Ac R) none := by
  refine zMU_of (by decide) (Nat.le_of_ble_eq_true rfl) (fun p e s m below meth c hx hb hr hml hown hts hlocks hK A hA Q hQ ls hl hP hD hS => ?_)
  unfold X4_putLabel at hF
  have hl : lv_has ls 5 [(0, .ref (Ac 0)), (1, .int p1), (2, .int p2), (3, .int p3), (4, .int p4)] := hl
  have hown : s.vm.findClass RX4 = some m.cls := hown
  have hP : va_P Z.1 vwCl (l_Scenes Z.2.1 Ac C.1 C.2.1 C.2.2.1 C.2.2.2.1 C.2.2.2.2.1 C.2.2.2.2.2.1 C.2.2.2.2.2.2.1 C.2.2.2.2.2.2.2.1 C.2.2.2.2.2.2.2.2.1 C.2.2.2.2.2.2.2.2.2.1 C.2.2.2.2.2.2.2.2.2.2.1 C.2.2.2.2.2.2.2.2.2.2.2).flatten s.heap := hP
  have hD : va_D A (l_Scenes Z.2.1 Ac C.1 C.2.1 C.2.2.1 C.2.2.2.1 C.2.2.2.2.1 C.2.2.2.2.2.1 C.2.2.2.2.2.2.1 C.2.2.2.2.2.2.2.1 C.2.2.2.2.2.2.2.2.1 C.2.2.2.2.2.2.2.2.2.1 C.2.2.2.2.2.2.2.2.2.2.1 C.2.2.2.2.2.2.2.2.2.2.2).flatten := hD
  refine lv_aload_n hx hb (z_d hX4_putLabel_0 0 rfl) rfl (lv_at hl 0 rfl) ?_
  refine va_get (D := Z.1) (ci := 4) (v := .ref (Ac 7)) (C := RX4) (T := TX4) (N := 12) hx hb hts zinX4 hown hK.1 (zP_reg hP 0 rfl) 0 rfl rfl 6 (by decide) (hts _ k_f_X4_36) (fun _ h9 => h9) rfl (z_d hX4_putLabel_0 1 rfl) ?_
  refine lv_iload_n hx hb (z_d hX4_putLabel_0 2 rfl) rfl (lv_at hl 1 rfl) ?_
  refine lv_iload_n hx hb (z_d hX4_putLabel_0 3 rfl) rfl (lv_at hl 2 rfl) ?_
  refine z_let hF (fun q1 hq1 hF => ?_)
  refine z_mu1 (L := l_Scenes Z.2.1 Ac C.1 C.2.1 C.2.2.1 C.2.2.2.1 C.2.2.2.2.1 C.2.2.2.2.2.1 C.2.2.2.2.2.2.1 C.2.2.2.2.2.2.2.1 C.2.2.2.2.2.2.2.2.1 C.2.2.2.2.2.2.2.2.2.1 C.2.2.2.2.2.2.2.2.2.2.1 C.2.2.2.2.2.2.2.2.2.2.2) (L' := l_Scenes Z.2.1 Ac C.1 C.2.1 C.2.2.1 C.2.2.2.1 C.2.2.2.2.1 C.2.2.2.2.2.1 q1 C.2.2.2.2.2.2.2.1 C.2.2.2.2.2.2.2.2.1 C.2.2.2.2.2.2.2.2.2.1 C.2.2.2.2.2.2.2.2.2.2.1 C.2.2.2.2.2.2.2.2.2.2.2) (z_rV (As := [.int p1, .int p2]) (rest := []) hx hb hml hown hts vt_X3_put (c_rPut l Z 60 (Ac 7) (Ac 8) (by decide) C.2.2.2.2.2.2.1 p1 p2 _ hq1) rfl rfl ⟨Nat.le_of_ble_eq_true rfl, Nat.le_of_ble_eq_true rfl⟩ k_m_X4_80 zPmu_blind (z_recv (q := (RX3, TX3, 1)) (ci := 3) (q0 := 0) hK (zP_reg hP 4 rfl) rfl rfl) (z_prem hK (zP_reg hP 4 rfl) (zD_one hD 4 _ rfl)) rfl hl.1 (Nat.le_of_ble_eq_true rfl) (z_d hX4_putLabel_0 4 rfl) ⟨Nat.zero_le _, Nat.zero_le _⟩) hS hP hD 4 rfl rfl rfl (fun H locs hP hD hS => ?_)
  refine W.eq (g2 := F0 m 9 ls []) rfl ?_
  refine lv_aload_n hx hb (z_d hX4_putLabel_0 5 rfl) rfl (lv_at hl 0 rfl) ?_
  refine va_get (D := Z.1) (ci := 4) (v := .ref (Ac 9)) (C := RX4) (T := TX4) (N := 12) hx hb hts zinX4 hown hK.1 (zP_reg hP 0 rfl) 0 rfl rfl 7 (by decide) (hts _ k_f_X4_39) (fun _ h9 => h9) rfl (z_d hX4_putLabel_0 6 rfl) ?_
  refine lv_iload_n hx hb (z_d hX4_putLabel_0 7 rfl) rfl (lv_at hl 1 rfl) ?_
  refine lv_iload_n hx hb (z_d hX4_putLabel_0 8 rfl) rfl (lv_at hl 3 rfl) ?_
  refine z_let hF (fun q2 hq2 hF => ?_)
  refine z_mu1 (L := l_Scenes Z.2.1 Ac C.1 C.2.1 C.2.2.1 C.2.2.2.1 C.2.2.2.2.1 C.2.2.2.2.2.1 q1 C.2.2.2.2.2.2.2.1 C.2.2.2.2.2.2.2.2.1 C.2.2.2.2.2.2.2.2.2.1 C.2.2.2.2.2.2.2.2.2.2.1 C.2.2.2.2.2.2.2.2.2.2.2) (L' := l_Scenes Z.2.1 Ac C.1 C.2.1 C.2.2.1 C.2.2.2.1 C.2.2.2.2.1 C.2.2.2.2.2.1 q1 q2 C.2.2.2.2.2.2.2.2.1 C.2.2.2.2.2.2.2.2.2.1 C.2.2.2.2.2.2.2.2.2.2.1 C.2.2.2.2.2.2.2.2.2.2.2) (z_rV (As := [.int p1, .int p3]) (rest := []) hx hb hml hown hts vt_X3_put (c_rPut l Z 60 (Ac 9) (Ac 10) (by decide) C.2.2.2.2.2.2.2.1 p1 p3 _ hq2) rfl rfl ⟨Nat.le_of_ble_eq_true rfl, Nat.le_of_ble_eq_true rfl⟩ k_m_X4_80 zPmu_blind (z_recv (q := (RX3, TX3, 1)) (ci := 3) (q0 := 0) hK (zP_reg hP 5 rfl) rfl rfl) (z_prem hK (zP_reg hP 5 rfl) (zD_one hD 5 _ rfl)) rfl hl.1 (Nat.le_of_ble_eq_true rfl) (z_d hX4_putLabel_0 9 rfl) ⟨Nat.zero_le _, Nat.zero_le _⟩) hS hP hD 5 rfl rfl rfl (fun H locs hP hD hS => ?_)
  refine W.eq (g2 := F0 m 18 ls []) rfl ?_
  refine lv_aload_n hx hb (z_d hX4_putLabel_0 10 rfl) rfl (lv_at hl 0 rfl) ?_
  refine va_get (D := Z.1) (ci := 4) (v := .ref (Ac 11)) (C := RX4) (T := TX4) (N := 12) hx hb hts zinX4 hown hK.1 (zP_reg hP 0 rfl) 0 rfl rfl 8 (by decide) (hts _ k_f_X4_42) (fun _ h9 => h9) rfl (z_d hX4_putLabel_0 11 rfl) ?_
  refine lv_iload_n hx hb (z_d hX4_putLabel_0 12 rfl) rfl (lv_at hl 1 rfl) ?_
  refine lv_iload hx hb (z_d hX4_putLabel_0 13 rfl) (lv_at hl 4 rfl) ?_
  refine z_let hF (fun q3 hq3 hF => ?_)
  refine z_mu1 (L := l_Scenes Z.2.1 Ac C.1 C.2.1 C.2.2.1 C.2.2.2.1 C.2.2.2.2.1 C.2.2.2.2.2.1 q1 q2 C.2.2.2.2.2.2.2.2.1 C.2.2.2.2.2.2.2.2.2.1 C.2.2.2.2.2.2.2.2.2.2.1 C.2.2.2.2.2.2.2.2.2.2.2) (L' := l_Scenes Z.2.1 Ac C.1 C.2.1 C.2.2.1 C.2.2.2.1 C.2.2.2.2.1 C.2.2.2.2.2.1 q1 q2 q3 C.2.2.2.2.2.2.2.2.2.1 C.2.2.2.2.2.2.2.2.2.2.1 C.2.2.2.2.2.2.2.2.2.2.2) (z_rV (As := [.int p1, .int p4]) (rest := []) hx hb hml hown hts vt_X3_put (c_rPut l Z 60 (Ac 11) (Ac 12) (by decide) C.2.2.2.2.2.2.2.2.1 p1 p4 _ hq3) rfl rfl ⟨Nat.le_of_ble_eq_true rfl, Nat.le_of_ble_eq_true rfl⟩ k_m_X4_80 zPmu_blind (z_recv (q := (RX3, TX3, 1)) (ci := 3) (q0 := 0) hK (zP_reg hP 6 rfl) rfl rfl) (z_prem hK (zP_reg hP 6 rfl) (zD_one hD 6 _ rfl)) rfl hl.1 (Nat.le_of_ble_eq_true rfl) (z_d hX4_putLabel_0 14 rfl) ⟨Nat.zero_le _, Nat.zero_le _⟩) hS hP hD 6 rfl rfl rfl (fun H locs hP hD hS => ?_)
  refine W.eq (g2 := F0 m 28 ls []) rfl ?_
  obtain rfl := hF
  subst hQ
  subst hA
  exact W.vret hx hb hr (fun t ht hW => zq_mu (by rw [ht]; exact hP) (hS.F ht)) hS.2.2 (z_d hX4_putLabel_0 15 rfl)
def rm_X4_labelOpen : Room := { frames := 2, cells := 0, slots := 0, locals := 46 }
set_option maxRecDepth 100000 in
set_option maxHeartbeats 4000000 in
theorem c_X4_labelOpen (l : Launch) (Z : zZ) (Ac : Nat → Nat) (C : t_Scenes) (p1 : Int32) (p2 : Int32) (p3 : Int32) (p4 : Int32) (p5 : Int32) (R : t_Scenes) (hF : X4_labelOpen C p1 p2 p3 p4 p5 = R) : zMU l yX4_labelOpen (zw yX4_labelOpen cX4_labelOpen 6 none) rm_X4_labelOpen Z [.ref (Ac 0), .int p1, .int p2, .int p3, .int p4, .int p5] (w_Scenes Z.2.1 Ac C) (w_Scenes Z.2.1 Ac R) none := by
  refine zMU_of (by decide) (Nat.le_of_ble_eq_true rfl) (fun p e s m below meth c hx hb hr hml hown hts hlocks hK A hA Q hQ ls hl hP hD hS => ?_)
  unfold X4_labelOpen at hF
  have hl : lv_has ls 6 [(0, .ref (Ac 0)), (1, .int p1), (2, .int p2), (3, .int p3), (4, .int p4), (5, .int p5)] := hl
  have hown : s.vm.findClass RX4 = some m.cls := hown
  have hP : va_P Z.1 vwCl (l_Scenes Z.2.1 Ac C.1 C.2.1 C.2.2.1 C.2.2.2.1 C.2.2.2.2.1 C.2.2.2.2.2.1 C.2.2.2.2.2.2.1 C.2.2.2.2.2.2.2.1 C.2.2.2.2.2.2.2.2.1 C.2.2.2.2.2.2.2.2.2.1 C.2.2.2.2.2.2.2.2.2.2.1 C.2.2.2.2.2.2.2.2.2.2.2).flatten s.heap := hP
  have hD : va_D A (l_Scenes Z.2.1 Ac C.1 C.2.1 C.2.2.1 C.2.2.2.1 C.2.2.2.2.1 C.2.2.2.2.2.1 C.2.2.2.2.2.2.1 C.2.2.2.2.2.2.2.1 C.2.2.2.2.2.2.2.2.1 C.2.2.2.2.2.2.2.2.2.1 C.2.2.2.2.2.2.2.2.2.2.1 C.2.2.2.2.2.2.2.2.2.2.2).flatten := hD
  refine lv_aload_n hx hb (z_d hX4_labelOpen_0 0 rfl) rfl (lv_at hl 0 rfl) ?_
  refine va_get (D := Z.1) (ci := 4) (v := .int C.2.1) (C := RX4) (T := TX4) (N := 12) hx hb hts zinX4 hown hK.1 (zP_reg hP 0 rfl) 0 rfl rfl 1 (by decide) (hts _ k_f_X4_15) (fun _ h9 => h9) rfl (z_d hX4_labelOpen_0 1 rfl) ?_
  refine lv_if_ne (tgt := 19) hx hb (z_d hX4_labelOpen_0 2 rfl) (by decide) (fun hc4 => ?_) (fun hc4 => ?_)
  · have hF := z_neg hc4 hF
    refine lv_aload_n hx hb (z_d hX4_labelOpen_0 10 rfl) rfl (lv_at hl 0 rfl) ?_
    refine va_get (D := Z.1) (ci := 4) (v := .ref (Ac 13)) (C := RX4) (T := TX4) (N := 12) hx hb hts zinX4 hown hK.1 (zP_reg hP 0 rfl) 0 rfl rfl 9 (by decide) (hts _ k_f_X4_45) (fun _ h9 => h9) rfl (z_d hX4_labelOpen_0 11 rfl) ?_
    refine lv_iload_n hx hb (z_d hX4_labelOpen_0 12 rfl) rfl (lv_at hl 1 rfl) ?_
    refine z_let hF (fun q1 hq1 hF => ?_)
    refine z_ro_i (z_rV (As := [.int p1]) (rest := []) hx hb hml hown hts vt_X3_at (c_rAt l Z 60 (Ac 13) (Ac 14) (by decide) C.2.2.2.2.2.2.2.2.2.1 p1 _ hq1) rfl rfl ⟨Nat.le_of_ble_eq_true rfl, Nat.le_of_ble_eq_true rfl⟩ k_m_X4_97 zPro_blind (z_recv (q := (RX3, TX3, 1)) (ci := 3) (q0 := 0) hK (zP_reg hP 7 rfl) rfl rfl) (z_prec hK (zP_reg hP 7 rfl)) rfl hl.1 (Nat.le_of_ble_eq_true rfl) (z_d hX4_labelOpen_0 13 rfl) ⟨Nat.zero_le _, Nat.zero_le _⟩) hS hP (fun H locs hP hS => ?_)
    refine lv_iload_n hx hb (z_d hX4_labelOpen_0 14 rfl) rfl (lv_at hl 2 rfl) ?_
    refine lv_icmp_ne (tgt := 46) hx hb (z_d hX4_labelOpen_0 15 rfl) (by decide) (fun hc28 => ?_) (fun hc28 => ?_)
    · have hF := z_neg hc28 hF
      refine lv_aload_n hx hb (z_d hX4_labelOpen_0 25 rfl) rfl (lv_at hl 0 rfl) ?_
      refine lv_iload_n hx hb (z_d hX4_labelOpen_0 26 rfl) rfl (lv_at hl 1 rfl) ?_
      refine lv_iload_n hx hb (z_d hX4_labelOpen_0 27 rfl) rfl (lv_at hl 2 rfl) ?_
      refine lv_iload_n hx hb (z_d hX4_labelOpen_0 28 rfl) rfl (lv_at hl 3 rfl) ?_
      refine lv_iload hx hb (z_d hX4_labelOpen_0 29 rfl) (lv_at hl 5 rfl) ?_
      refine lv_iadd hx hb (z_d hX4_labelOpen_0 30 rfl) ?_
      refine z_let hF (fun u2 hu2 hF => ?_)
      refine lv_topE hu2 ?_
      refine lv_iconst (v := 0) hx hb (z_d hX4_labelOpen_0 31 rfl) (by decide) ?_
      refine z_let hF (fun q3 hq3 hF => ?_)
      refine z_mu0 (z_rV (As := [.int p1, .int p2, .int u2, .int 0]) (rest := []) hx hb hml hown hts vt_X4_putLabel (c_X4_putLabel l Z Ac C p1 p2 u2 0 _ hq3) rfl rfl ⟨Nat.le_of_ble_eq_true rfl, Nat.le_of_ble_eq_true rfl⟩ k_m_X4_103 zPmu_blind (z_recv (q := (RX4, TX4, 12)) (ci := 4) (q0 := 0) hK (zP_reg hP 0 rfl) rfl rfl) (z_prem hK hP hD) rfl hl.1 (Nat.le_of_ble_eq_true rfl) (z_d hX4_labelOpen_0 32 rfl) ⟨Nat.zero_le _, Nat.zero_le _⟩) hS hD (adr_Scenes _ _ _ _) (fun H locs hP hD hS => ?_)
      have hP : va_P Z.1 vwCl (l_Scenes Z.2.1 Ac q3.1 q3.2.1 q3.2.2.1 q3.2.2.2.1 q3.2.2.2.2.1 q3.2.2.2.2.2.1 q3.2.2.2.2.2.2.1 q3.2.2.2.2.2.2.2.1 q3.2.2.2.2.2.2.2.2.1 q3.2.2.2.2.2.2.2.2.2.1 q3.2.2.2.2.2.2.2.2.2.2.1 q3.2.2.2.2.2.2.2.2.2.2.2).flatten H := hP
      have hD : va_D A (l_Scenes Z.2.1 Ac q3.1 q3.2.1 q3.2.2.1 q3.2.2.2.1 q3.2.2.2.2.1 q3.2.2.2.2.2.1 q3.2.2.2.2.2.2.1 q3.2.2.2.2.2.2.2.1 q3.2.2.2.2.2.2.2.2.1 q3.2.2.2.2.2.2.2.2.2.1 q3.2.2.2.2.2.2.2.2.2.2.1 q3.2.2.2.2.2.2.2.2.2.2.2).flatten := hD
      refine W.eq (g2 := F0 m 57 ls []) rfl ?_
      obtain rfl := hF
      subst hQ
      subst hA
      exact W.vret hx hb hr (fun t ht hW => zq_mu (by rw [ht]; exact hP) (hS.F ht)) hS.2.2 (z_d hX4_labelOpen_0 33 rfl)
    · have hF := z_pos hc28 hF
      refine lv_aload_n hx hb (z_d hX4_labelOpen_0 16 rfl) rfl (lv_at hl 0 rfl) ?_
      refine lv_iload_n hx hb (z_d hX4_labelOpen_0 17 rfl) rfl (lv_at hl 1 rfl) ?_
      refine lv_iload_n hx hb (z_d hX4_labelOpen_0 18 rfl) rfl (lv_at hl 2 rfl) ?_
      refine lv_iload_n hx hb (z_d hX4_labelOpen_0 19 rfl) rfl (lv_at hl 3 rfl) ?_
      refine lv_iload hx hb (z_d hX4_labelOpen_0 20 rfl) (lv_at hl 4 rfl) ?_
      refine lv_iload hx hb (z_d hX4_labelOpen_0 21 rfl) (lv_at hl 5 rfl) ?_
      refine lv_iadd hx hb (z_d hX4_labelOpen_0 22 rfl) ?_
      refine z_let hF (fun u4 hu4 hF => ?_)
      refine lv_topE hu4 ?_
      refine z_let hF (fun q5 hq5 hF => ?_)
      refine z_mu0 (z_rV (As := [.int p1, .int p2, .int p3, .int u4]) (rest := []) hx hb hml hown hts vt_X4_putLabel (c_X4_putLabel l Z Ac C p1 p2 p3 u4 _ hq5) rfl rfl ⟨Nat.le_of_ble_eq_true rfl, Nat.le_of_ble_eq_true rfl⟩ k_m_X4_103 zPmu_blind (z_recv (q := (RX4, TX4, 12)) (ci := 4) (q0 := 0) hK (zP_reg hP 0 rfl) rfl rfl) (z_prem hK hP hD) rfl hl.1 (Nat.le_of_ble_eq_true rfl) (z_d hX4_labelOpen_0 23 rfl) ⟨Nat.zero_le _, Nat.zero_le _⟩) hS hD (adr_Scenes _ _ _ _) (fun H locs hP hD hS => ?_)
      have hP : va_P Z.1 vwCl (l_Scenes Z.2.1 Ac q5.1 q5.2.1 q5.2.2.1 q5.2.2.2.1 q5.2.2.2.2.1 q5.2.2.2.2.2.1 q5.2.2.2.2.2.2.1 q5.2.2.2.2.2.2.2.1 q5.2.2.2.2.2.2.2.2.1 q5.2.2.2.2.2.2.2.2.2.1 q5.2.2.2.2.2.2.2.2.2.2.1 q5.2.2.2.2.2.2.2.2.2.2.2).flatten H := hP
      have hD : va_D A (l_Scenes Z.2.1 Ac q5.1 q5.2.1 q5.2.2.1 q5.2.2.2.1 q5.2.2.2.2.1 q5.2.2.2.2.2.1 q5.2.2.2.2.2.2.1 q5.2.2.2.2.2.2.2.1 q5.2.2.2.2.2.2.2.2.1 q5.2.2.2.2.2.2.2.2.2.1 q5.2.2.2.2.2.2.2.2.2.2.1 q5.2.2.2.2.2.2.2.2.2.2.2).flatten := hD
      refine W.eq (g2 := F0 m 43 ls []) rfl ?_
      refine lv_goto (tgt := 57) hx hb (z_d hX4_labelOpen_0 24 rfl) (by decide) ?_
      obtain rfl := hF
      subst hQ
      subst hA
      exact W.vret hx hb hr (fun t ht hW => zq_mu (by rw [ht]; exact hP) (hS.F ht)) hS.2.2 (z_d hX4_labelOpen_0 33 rfl)
  · have hF := z_pos hc4 hF
    refine lv_aload_n hx hb (z_d hX4_labelOpen_0 3 rfl) rfl (lv_at hl 0 rfl) ?_
    refine lv_iload_n hx hb (z_d hX4_labelOpen_0 4 rfl) rfl (lv_at hl 1 rfl) ?_
    refine lv_iload hx hb (z_d hX4_labelOpen_0 5 rfl) (lv_at hl 5 rfl) ?_
    refine lv_iconst (v := 0) hx hb (z_d hX4_labelOpen_0 6 rfl) (by decide) ?_
    refine lv_iconst (v := 0) hx hb (z_d hX4_labelOpen_0 7 rfl) (by decide) ?_
    refine z_let hF (fun q6 hq6 hF => ?_)
    refine z_mu0 (z_rV (As := [.int p1, .int p5, .int 0, .int 0]) (rest := []) hx hb hml hown hts vt_X4_putLabel (c_X4_putLabel l Z Ac C p1 p5 0 0 _ hq6) rfl rfl ⟨Nat.le_of_ble_eq_true rfl, Nat.le_of_ble_eq_true rfl⟩ k_m_X4_103 zPmu_blind (z_recv (q := (RX4, TX4, 12)) (ci := 4) (q0 := 0) hK (zP_reg hP 0 rfl) rfl rfl) (z_prem hK hP hD) rfl hl.1 (Nat.le_of_ble_eq_true rfl) (z_d hX4_labelOpen_0 8 rfl) ⟨Nat.zero_le _, Nat.zero_le _⟩) hS hD (adr_Scenes _ _ _ _) (fun H locs hP hD hS => ?_)
    have hP : va_P Z.1 vwCl (l_Scenes Z.2.1 Ac q6.1 q6.2.1 q6.2.2.1 q6.2.2.2.1 q6.2.2.2.2.1 q6.2.2.2.2.2.1 q6.2.2.2.2.2.2.1 q6.2.2.2.2.2.2.2.1 q6.2.2.2.2.2.2.2.2.1 q6.2.2.2.2.2.2.2.2.2.1 q6.2.2.2.2.2.2.2.2.2.2.1 q6.2.2.2.2.2.2.2.2.2.2.2).flatten H := hP
    have hD : va_D A (l_Scenes Z.2.1 Ac q6.1 q6.2.1 q6.2.2.1 q6.2.2.2.1 q6.2.2.2.2.1 q6.2.2.2.2.2.1 q6.2.2.2.2.2.2.1 q6.2.2.2.2.2.2.2.1 q6.2.2.2.2.2.2.2.2.1 q6.2.2.2.2.2.2.2.2.2.1 q6.2.2.2.2.2.2.2.2.2.2.1 q6.2.2.2.2.2.2.2.2.2.2.2).flatten := hD
    refine W.eq (g2 := F0 m 16 ls []) rfl ?_
    refine lv_goto (tgt := 57) hx hb (z_d hX4_labelOpen_0 9 rfl) (by decide) ?_
    obtain rfl := hF
    subst hQ
    subst hA
    exact W.vret hx hb hr (fun t ht hW => zq_mu (by rw [ht]; exact hP) (hS.F ht)) hS.2.2 (z_d hX4_labelOpen_0 33 rfl)
def rm_X4_label : Room := { frames := 3, cells := 0, slots := 0, locals := 71 }
set_option maxRecDepth 100000 in
set_option maxHeartbeats 4000000 in
theorem c_X4_label (l : Launch) (Z : zZ) (Ac : Nat → Nat) (As : Nat → Nat) (C : t_Scenes) (S : t_Script) (R : t_Scenes) (hF : X4_label C S = some R) : zMU l yX4_label (zw yX4_label cX4_label 8 none) rm_X4_label Z [.ref (Ac 0), .ref (As 0)] (List.flatten [w_Scenes Z.2.1 Ac C, w_Script Z.2.1 As S]) (List.flatten [w_Scenes Z.2.1 Ac R, w_Script Z.2.1 As S]) none := by
  refine zMU_of (by decide) (Nat.le_of_ble_eq_true rfl) (fun p e s m below meth c hx hb hr hml hown hts hlocks hK A hA Q hQ ls hl hP hD hS => ?_)
  unfold X4_label at hF
  have hl : lv_has ls 8 [(0, .ref (Ac 0)), (1, .ref (As 0))] := hl
  have hown : s.vm.findClass RX4 = some m.cls := hown
  have hP : va_P Z.1 vwCl (l_Scenes Z.2.1 Ac C.1 C.2.1 C.2.2.1 C.2.2.2.1 C.2.2.2.2.1 C.2.2.2.2.2.1 C.2.2.2.2.2.2.1 C.2.2.2.2.2.2.2.1 C.2.2.2.2.2.2.2.2.1 C.2.2.2.2.2.2.2.2.2.1 C.2.2.2.2.2.2.2.2.2.2.1 C.2.2.2.2.2.2.2.2.2.2.2 ++ [w_Script Z.2.1 As S]).flatten s.heap := zfr hP
  have hD : va_D A (l_Scenes Z.2.1 Ac C.1 C.2.1 C.2.2.1 C.2.2.2.1 C.2.2.2.2.1 C.2.2.2.2.2.1 C.2.2.2.2.2.2.1 C.2.2.2.2.2.2.2.1 C.2.2.2.2.2.2.2.2.1 C.2.2.2.2.2.2.2.2.2.1 C.2.2.2.2.2.2.2.2.2.2.1 C.2.2.2.2.2.2.2.2.2.2.2 ++ [w_Script Z.2.1 As S]).flatten := zfrD hD
  have L13 : ∀  (n : Nat) (v : t_Scenes × Int32 × Int32 × Int32 × Int32 × Int32) (X : t_Scenes) (hF : zloop (b_X4_label_13 S ) n v = some X) (H : Heap) (locs : List Loc) (ls : Array Slot) (hP : va_P Z.1 vwCl (l_Scenes Z.2.1 Ac v.1.1 v.1.2.1 v.1.2.2.1 v.1.2.2.2.1 v.1.2.2.2.2.1 v.1.2.2.2.2.2.1 v.1.2.2.2.2.2.2.1 v.1.2.2.2.2.2.2.2.1 v.1.2.2.2.2.2.2.2.2.1 v.1.2.2.2.2.2.2.2.2.2.1 v.1.2.2.2.2.2.2.2.2.2.2.1 v.1.2.2.2.2.2.2.2.2.2.2.2 ++ [w_Script Z.2.1 As S]).flatten H) (hD : va_D A (l_Scenes Z.2.1 Ac v.1.1 v.1.2.1 v.1.2.2.1 v.1.2.2.2.1 v.1.2.2.2.2.1 v.1.2.2.2.2.2.1 v.1.2.2.2.2.2.2.1 v.1.2.2.2.2.2.2.2.1 v.1.2.2.2.2.2.2.2.2.1 v.1.2.2.2.2.2.2.2.2.2.1 v.1.2.2.2.2.2.2.2.2.2.2.1 v.1.2.2.2.2.2.2.2.2.2.2.2 ++ [w_Script Z.2.1 As S]).flatten) (hS : va_S A s.heap H locs) (hl : lv_has ls 8 [(0, .ref (Ac 0)), (1, .ref (As 0)), (2, .int v.2.1), (3, .int v.2.2.1), (4, .int v.2.2.2.1), (5, .int v.2.2.2.2.1), (6, .int v.2.2.2.2.2)]) (K1 : ∀ (H : Heap) (locs : List Loc) (ls : Array Slot) (hP : va_P Z.1 vwCl (l_Scenes Z.2.1 Ac X.1 X.2.1 X.2.2.1 X.2.2.2.1 X.2.2.2.2.1 X.2.2.2.2.2.1 X.2.2.2.2.2.2.1 X.2.2.2.2.2.2.2.1 X.2.2.2.2.2.2.2.2.1 X.2.2.2.2.2.2.2.2.2.1 X.2.2.2.2.2.2.2.2.2.2.1 X.2.2.2.2.2.2.2.2.2.2.2 ++ [w_Script Z.2.1 As S]).flatten H) (hD : va_D A (l_Scenes Z.2.1 Ac X.1 X.2.1 X.2.2.1 X.2.2.2.1 X.2.2.2.2.1 X.2.2.2.2.2.1 X.2.2.2.2.2.2.1 X.2.2.2.2.2.2.2.1 X.2.2.2.2.2.2.2.2.1 X.2.2.2.2.2.2.2.2.2.1 X.2.2.2.2.2.2.2.2.2.2.1 X.2.2.2.2.2.2.2.2.2.2.2 ++ [w_Script Z.2.1 As S]).flatten) (hS : va_S A s.heap H locs) (hl : lv_has ls 8 [(0, .ref (Ac 0)), (1, .ref (As 0))]), W p l e rm_X4_label s m ([.ref (Ac 0), .ref (As 0)] : List Value).toArray below meth c H locs 0 0 Q (F0 m 110 ls [])), W p l e rm_X4_label s m ([.ref (Ac 0), .ref (As 0)] : List Value).toArray below meth c H locs 0 0 Q (F0 m 13 ls []) := by
    skip
    refine z_loopE (fun rec ih v X hF H locs ls hP hD hS hl K1 => ?_)
    unfold b_X4_label_13 at hF
    refine lv_iload hx hb (z_d hX4_label_0 10 rfl) (lv_at hl 6 rfl) ?_
    refine lv_aload_n hx hb (z_d hX4_label_0 11 rfl) rfl (lv_at hl 0 rfl) ?_
    refine va_get (D := Z.1) (ci := 4) (v := .int v.1.1) (C := RX4) (T := TX4) (N := 12) hx hb hts zinX4 hown hK.1 (zP_reg hP 0 rfl) 0 rfl rfl 0 (by decide) (hts _ k_f_X4_9) (fun _ h9 => h9) rfl (z_d hX4_label_0 12 rfl) ?_
    refine lv_icmp_ge (tgt := 110) hx hb (z_d hX4_label_0 13 rfl) (by decide) (fun hc19 => ?_) (fun hc19 => ?_)
    · have hF := z_pos hc19 hF
      obtain rfl := Option.some.inj hF
      exact K1 _ _ ls hP hD hS (lv_sub hl [0, 1] rfl)
    · have hF := z_neg hc19 hF
      refine lv_aload_n hx hb (z_d hX4_label_0 14 rfl) rfl (lv_at hl 0 rfl) ?_
      refine va_get (D := Z.1) (ci := 4) (v := .ref (Ac 1)) (C := RX4) (T := TX4) (N := 12) hx hb hts zinX4 hown hK.1 (zP_reg hP 0 rfl) 0 rfl rfl 3 (by decide) (hts _ k_f_X4_26) (fun _ h9 => h9) rfl (z_d hX4_label_0 15 rfl) ?_
      refine lv_iload hx hb (z_d hX4_label_0 16 rfl) (lv_at hl 6 rfl) ?_
      refine z_let hF (fun q1 hq1 hF => ?_)
      refine z_ro_i (z_rV (As := [.int v.2.2.2.2.2]) (rest := []) hx hb hml hown hts vt_X3_at (c_rAt l Z 60 (Ac 1) (Ac 2) (by decide) v.1.2.2.2.1 v.2.2.2.2.2 _ hq1) rfl rfl ⟨Nat.le_of_ble_eq_true rfl, Nat.le_of_ble_eq_true rfl⟩ k_m_X4_97 zPro_blind (z_recv (q := (RX3, TX3, 1)) (ci := 3) (q0 := 0) hK (zP_reg hP 1 rfl) rfl rfl) (z_prec hK (zP_reg hP 1 rfl)) rfl hl.1 (Nat.le_of_ble_eq_true rfl) (z_d hX4_label_0 17 rfl) ⟨Nat.zero_le _, Nat.zero_le _⟩) hS hP (fun H locs hP hS => ?_)
      refine lv_istore (lv' := [(7, .int q1), (0, .ref (Ac 0)), (1, .ref (As 0)), (2, .int v.2.1), (3, .int v.2.2.1), (4, .int v.2.2.2.1), (5, .int v.2.2.2.2.1), (6, .int v.2.2.2.2.2)]) hx hb (z_d hX4_label_0 18 rfl) hl (by decide) rfl (fun ls hl => ?_)
      refine lv_aload_n hx hb (z_d hX4_label_0 19 rfl) rfl (lv_at hl 2 rfl) ?_
      refine lv_iload hx hb (z_d hX4_label_0 20 rfl) (lv_at hl 0 rfl) ?_
      refine z_let hF (fun q2 hq2 hF => ?_)
      refine z_ro_i (z_rV (As := [.int q1]) (rest := []) hx hb hml hown hts vt_X5_isLocked (c_X5_isLocked l Z As S q1 _ hq2) rfl rfl ⟨Nat.le_of_ble_eq_true rfl, Nat.le_of_ble_eq_true rfl⟩ k_m_X4_84 zPro_blind (z_recv (q := (RX5, TX5, 10)) (ci := 5) (q0 := 0) hK (zP_reg (L := l_Script Z.2.1 As S.1 S.2.1 S.2.2.1 S.2.2.2.1 S.2.2.2.2.1 S.2.2.2.2.2.1 S.2.2.2.2.2.2.1 S.2.2.2.2.2.2.2.1 S.2.2.2.2.2.2.2.2.1 S.2.2.2.2.2.2.2.2.2) (zP_reg hP 10 rfl) 0 rfl) rfl rfl) (z_prec hK (zP_reg hP 10 rfl)) rfl hl.1 (Nat.le_of_ble_eq_true rfl) (z_d hX4_label_0 21 rfl) ⟨Nat.zero_le _, Nat.zero_le _⟩) hS hP (fun H locs hP hS => ?_)
      refine lv_if_eq (tgt := 89) hx hb (z_d hX4_label_0 22 rfl) (by decide) (fun hc39 => ?_) (fun hc39 => ?_)
      · have hF := z_pos hc39 hF
        refine z_let hF (fun u3 hu3 hF => ?_)
        refine lv_iinc (v := u3) (lv' := [(5, .int u3), (7, .int q1), (0, .ref (Ac 0)), (1, .ref (As 0)), (2, .int v.2.1), (3, .int v.2.2.1), (4, .int v.2.2.2.1), (6, .int v.2.2.2.2.2)]) hx hb (z_d hX4_label_0 47 rfl) hl (k := 6) rfl (z_inc1 hu3) (by decide) rfl (fun ls hl => ?_)
        refine lv_aload_n hx hb (z_d hX4_label_0 48 rfl) rfl (lv_at hl 2 rfl) ?_
        refine lv_iload hx hb (z_d hX4_label_0 49 rfl) (lv_at hl 7 rfl) ?_
        refine lv_iload_n hx hb (z_d hX4_label_0 50 rfl) rfl (lv_at hl 4 rfl) ?_
        refine lv_iload_n hx hb (z_d hX4_label_0 51 rfl) rfl (lv_at hl 5 rfl) ?_
        refine lv_iload hx hb (z_d hX4_label_0 52 rfl) (lv_at hl 6 rfl) ?_
        refine lv_iload hx hb (z_d hX4_label_0 53 rfl) (lv_at hl 0 rfl) ?_
        refine z_let hF (fun q4 hq4 hF => ?_)
        refine z_mu1 (L := [w_Scenes Z.2.1 Ac v.1, w_Script Z.2.1 As S]) (L' := [w_Scenes Z.2.1 Ac q4, w_Script Z.2.1 As S]) (z_rV (As := [.int v.2.2.2.2.2, .int v.2.1, .int v.2.2.1, .int v.2.2.2.1, .int u3]) (rest := []) hx hb hml hown hts vt_X4_labelOpen (c_X4_labelOpen l Z Ac v.1 v.2.2.2.2.2 v.2.1 v.2.2.1 v.2.2.2.1 u3 _ hq4) rfl rfl ⟨Nat.le_of_ble_eq_true rfl, Nat.le_of_ble_eq_true rfl⟩ k_m_X4_107 zPmu_blind (z_recv (q := (RX4, TX4, 12)) (ci := 4) (q0 := 0) hK (zP_reg hP 0 rfl) rfl rfl) (z_prem hK (zP_reg (zfl hP) 0 rfl) (zD_one (zflD hD) 0 _ rfl)) rfl hl.1 (Nat.le_of_ble_eq_true rfl) (z_d hX4_label_0 54 rfl) ⟨Nat.zero_le _, Nat.zero_le _⟩) hS (zfl hP) (zflD hD) 0 rfl rfl (adr_Scenes _ _ _ _) (fun H locs hP hD hS => ?_)
        have hP : va_P Z.1 vwCl (l_Scenes Z.2.1 Ac q4.1 q4.2.1 q4.2.2.1 q4.2.2.2.1 q4.2.2.2.2.1 q4.2.2.2.2.2.1 q4.2.2.2.2.2.2.1 q4.2.2.2.2.2.2.2.1 q4.2.2.2.2.2.2.2.2.1 q4.2.2.2.2.2.2.2.2.2.1 q4.2.2.2.2.2.2.2.2.2.2.1 q4.2.2.2.2.2.2.2.2.2.2.2 ++ [w_Script Z.2.1 As S]).flatten H := zfr hP
        have hD : va_D A (l_Scenes Z.2.1 Ac q4.1 q4.2.1 q4.2.2.1 q4.2.2.2.1 q4.2.2.2.2.1 q4.2.2.2.2.2.1 q4.2.2.2.2.2.2.1 q4.2.2.2.2.2.2.2.1 q4.2.2.2.2.2.2.2.2.1 q4.2.2.2.2.2.2.2.2.2.1 q4.2.2.2.2.2.2.2.2.2.2.1 q4.2.2.2.2.2.2.2.2.2.2.2 ++ [w_Script Z.2.1 As S]).flatten := zfrD hD
        refine W.eq (g2 := F0 m 104 ls []) rfl ?_
        refine z_let hF (fun u5 hu5 hF => ?_)
        refine lv_iinc (v := u5) (lv' := [(6, .int u5), (5, .int u3), (7, .int q1), (0, .ref (Ac 0)), (1, .ref (As 0)), (2, .int v.2.1), (3, .int v.2.2.1), (4, .int v.2.2.2.1)]) hx hb (z_d hX4_label_0 55 rfl) hl (k := 7) rfl (z_inc1 hu5) (by decide) rfl (fun ls hl => ?_)
        refine lv_goto (tgt := 13) hx hb (z_d hX4_label_0 56 rfl) (by decide) ?_
        exact ih _ _ hF _ _ ls hP hD hS (lv_sub hl [3, 4, 5, 6, 7, 1, 0] rfl) K1
      · have hF := z_neg hc39 hF
        refine lv_aload_n hx hb (z_d hX4_label_0 23 rfl) rfl (lv_at hl 2 rfl) ?_
        refine va_getN (D := Z.1) (ci := 5) (v := .ref (As 11)) (C := RX5) (T := TX5) (N := 10) hx hb hts zinX5 hown hK.1 (zP_reg (L := l_Script Z.2.1 As S.1 S.2.1 S.2.2.1 S.2.2.2.1 S.2.2.2.2.1 S.2.2.2.2.2.1 S.2.2.2.2.2.2.1 S.2.2.2.2.2.2.2.1 S.2.2.2.2.2.2.2.2.1 S.2.2.2.2.2.2.2.2.2) (zP_reg hP 10 rfl) 0 rfl) 0 rfl rfl 7 (by decide) (kn_X4_100 hK.2) (fun _ h9 => h9) rfl (z_d hX4_label_0 24 rfl) ?_
        refine lv_iload hx hb (z_d hX4_label_0 25 rfl) (lv_at hl 0 rfl) ?_
        refine z_let hF (fun q6 hq6 hF => ?_)
        refine z_ro_i (z_rV (As := [.int q1]) (rest := []) hx hb hml hown hts vt_X3_at (c_rAt l Z 60 (As 11) (As 12) (by decide) S.2.2.2.2.2.2.2.1 q1 _ hq6) rfl rfl ⟨Nat.le_of_ble_eq_true rfl, Nat.le_of_ble_eq_true rfl⟩ k_m_X4_97 zPro_blind (z_recv (q := (RX3, TX3, 1)) (ci := 3) (q0 := 0) hK (zP_reg (L := l_Script Z.2.1 As S.1 S.2.1 S.2.2.1 S.2.2.2.1 S.2.2.2.2.1 S.2.2.2.2.2.1 S.2.2.2.2.2.2.1 S.2.2.2.2.2.2.2.1 S.2.2.2.2.2.2.2.2.1 S.2.2.2.2.2.2.2.2.2) (zP_reg hP 10 rfl) 6 rfl) rfl rfl) (z_prec hK (zP_reg (L := l_Script Z.2.1 As S.1 S.2.1 S.2.2.1 S.2.2.2.1 S.2.2.2.2.1 S.2.2.2.2.2.1 S.2.2.2.2.2.2.1 S.2.2.2.2.2.2.2.1 S.2.2.2.2.2.2.2.2.1 S.2.2.2.2.2.2.2.2.2) (zP_reg hP 10 rfl) 6 rfl)) rfl hl.1 (Nat.le_of_ble_eq_true rfl) (z_d hX4_label_0 26 rfl) ⟨Nat.zero_le _, Nat.zero_le _⟩) hS hP (fun H locs hP hS => ?_)
        refine lv_istore_n (lv' := [(2, .int q6), (7, .int q1), (0, .ref (Ac 0)), (1, .ref (As 0)), (3, .int v.2.2.1), (4, .int v.2.2.2.1), (5, .int v.2.2.2.2.1), (6, .int v.2.2.2.2.2)]) hx hb (z_d hX4_label_0 27 rfl) rfl hl (by decide) rfl (fun ls hl => ?_)
        refine lv_aload_n hx hb (z_d hX4_label_0 28 rfl) rfl (lv_at hl 3 rfl) ?_
        refine va_getN (D := Z.1) (ci := 5) (v := .ref (As 13)) (C := RX5) (T := TX5) (N := 10) hx hb hts zinX5 hown hK.1 (zP_reg (L := l_Script Z.2.1 As S.1 S.2.1 S.2.2.1 S.2.2.2.1 S.2.2.2.2.1 S.2.2.2.2.2.1 S.2.2.2.2.2.2.1 S.2.2.2.2.2.2.2.1 S.2.2.2.2.2.2.2.2.1 S.2.2.2.2.2.2.2.2.2) (zP_reg hP 10 rfl) 0 rfl) 0 rfl rfl 8 (by decide) (kn_X4_101 hK.2) (fun _ h9 => h9) rfl (z_d hX4_label_0 29 rfl) ?_
        refine lv_iload hx hb (z_d hX4_label_0 30 rfl) (lv_at hl 1 rfl) ?_
        refine z_let hF (fun q7 hq7 hF => ?_)
        refine z_ro_i (z_rV (As := [.int q1]) (rest := []) hx hb hml hown hts vt_X3_at (c_rAt l Z 60 (As 13) (As 14) (by decide) S.2.2.2.2.2.2.2.2.1 q1 _ hq7) rfl rfl ⟨Nat.le_of_ble_eq_true rfl, Nat.le_of_ble_eq_true rfl⟩ k_m_X4_97 zPro_blind (z_recv (q := (RX3, TX3, 1)) (ci := 3) (q0 := 0) hK (zP_reg (L := l_Script Z.2.1 As S.1 S.2.1 S.2.2.1 S.2.2.2.1 S.2.2.2.2.1 S.2.2.2.2.2.1 S.2.2.2.2.2.2.1 S.2.2.2.2.2.2.2.1 S.2.2.2.2.2.2.2.2.1 S.2.2.2.2.2.2.2.2.2) (zP_reg hP 10 rfl) 7 rfl) rfl rfl) (z_prec hK (zP_reg (L := l_Script Z.2.1 As S.1 S.2.1 S.2.2.1 S.2.2.2.1 S.2.2.2.2.1 S.2.2.2.2.2.1 S.2.2.2.2.2.2.1 S.2.2.2.2.2.2.2.1 S.2.2.2.2.2.2.2.2.1 S.2.2.2.2.2.2.2.2.2) (zP_reg hP 10 rfl) 7 rfl)) rfl hl.1 (Nat.le_of_ble_eq_true rfl) (z_d hX4_label_0 31 rfl) ⟨Nat.zero_le _, Nat.zero_le _⟩) hS hP (fun H locs hP hS => ?_)
        refine lv_istore_n (lv' := [(3, .int q7), (2, .int q6), (7, .int q1), (0, .ref (Ac 0)), (1, .ref (As 0)), (4, .int v.2.2.2.1), (5, .int v.2.2.2.2.1), (6, .int v.2.2.2.2.2)]) hx hb (z_d hX4_label_0 32 rfl) rfl hl (by decide) rfl (fun ls hl => ?_)
        refine lv_aload_n hx hb (z_d hX4_label_0 33 rfl) rfl (lv_at hl 4 rfl) ?_
        refine va_getN (D := Z.1) (ci := 5) (v := .ref (As 15)) (C := RX5) (T := TX5) (N := 10) hx hb hts zinX5 hown hK.1 (zP_reg (L := l_Script Z.2.1 As S.1 S.2.1 S.2.2.1 S.2.2.2.1 S.2.2.2.2.1 S.2.2.2.2.2.1 S.2.2.2.2.2.2.1 S.2.2.2.2.2.2.2.1 S.2.2.2.2.2.2.2.2.1 S.2.2.2.2.2.2.2.2.2) (zP_reg hP 10 rfl) 0 rfl) 0 rfl rfl 9 (by decide) (kn_X4_102 hK.2) (fun _ h9 => h9) rfl (z_d hX4_label_0 34 rfl) ?_
        refine lv_iload hx hb (z_d hX4_label_0 35 rfl) (lv_at hl 2 rfl) ?_
        refine z_let hF (fun q8 hq8 hF => ?_)
        refine z_ro_i (z_rV (As := [.int q1]) (rest := []) hx hb hml hown hts vt_X3_at (c_rAt l Z 60 (As 15) (As 16) (by decide) S.2.2.2.2.2.2.2.2.2 q1 _ hq8) rfl rfl ⟨Nat.le_of_ble_eq_true rfl, Nat.le_of_ble_eq_true rfl⟩ k_m_X4_97 zPro_blind (z_recv (q := (RX3, TX3, 1)) (ci := 3) (q0 := 0) hK (zP_reg (L := l_Script Z.2.1 As S.1 S.2.1 S.2.2.1 S.2.2.2.1 S.2.2.2.2.1 S.2.2.2.2.2.1 S.2.2.2.2.2.2.1 S.2.2.2.2.2.2.2.1 S.2.2.2.2.2.2.2.2.1 S.2.2.2.2.2.2.2.2.2) (zP_reg hP 10 rfl) 8 rfl) rfl rfl) (z_prec hK (zP_reg (L := l_Script Z.2.1 As S.1 S.2.1 S.2.2.1 S.2.2.2.1 S.2.2.2.2.1 S.2.2.2.2.2.1 S.2.2.2.2.2.2.1 S.2.2.2.2.2.2.2.1 S.2.2.2.2.2.2.2.2.1 S.2.2.2.2.2.2.2.2.2) (zP_reg hP 10 rfl) 8 rfl)) rfl hl.1 (Nat.le_of_ble_eq_true rfl) (z_d hX4_label_0 36 rfl) ⟨Nat.zero_le _, Nat.zero_le _⟩) hS hP (fun H locs hP hS => ?_)
        refine lv_istore (lv' := [(4, .int q8), (3, .int q7), (2, .int q6), (7, .int q1), (0, .ref (Ac 0)), (1, .ref (As 0)), (5, .int v.2.2.2.2.1), (6, .int v.2.2.2.2.2)]) hx hb (z_d hX4_label_0 37 rfl) hl (by decide) rfl (fun ls hl => ?_)
        refine lv_iconst (v := 0) hx hb (z_d hX4_label_0 38 rfl) (by decide) ?_
        refine lv_istore (lv' := [(5, .int 0), (4, .int q8), (3, .int q7), (2, .int q6), (7, .int q1), (0, .ref (Ac 0)), (1, .ref (As 0)), (6, .int v.2.2.2.2.2)]) hx hb (z_d hX4_label_0 39 rfl) hl (by decide) rfl (fun ls hl => ?_)
        refine lv_aload_n hx hb (z_d hX4_label_0 40 rfl) rfl (lv_at hl 5 rfl) ?_
        refine lv_iload hx hb (z_d hX4_label_0 41 rfl) (lv_at hl 7 rfl) ?_
        refine lv_iload_n hx hb (z_d hX4_label_0 42 rfl) rfl (lv_at hl 3 rfl) ?_
        refine lv_iload_n hx hb (z_d hX4_label_0 43 rfl) rfl (lv_at hl 2 rfl) ?_
        refine lv_iload hx hb (z_d hX4_label_0 44 rfl) (lv_at hl 1 rfl) ?_
        refine z_let hF (fun q9 hq9 hF => ?_)
        refine z_mu1 (L := [w_Scenes Z.2.1 Ac v.1, w_Script Z.2.1 As S]) (L' := [w_Scenes Z.2.1 Ac q9, w_Script Z.2.1 As S]) (z_rV (As := [.int v.2.2.2.2.2, .int q6, .int q7, .int q8]) (rest := []) hx hb hml hown hts vt_X4_putLabel (c_X4_putLabel l Z Ac v.1 v.2.2.2.2.2 q6 q7 q8 _ hq9) rfl rfl ⟨Nat.le_of_ble_eq_true rfl, Nat.le_of_ble_eq_true rfl⟩ k_m_X4_103 zPmu_blind (z_recv (q := (RX4, TX4, 12)) (ci := 4) (q0 := 0) hK (zP_reg hP 0 rfl) rfl rfl) (z_prem hK (zP_reg (zfl hP) 0 rfl) (zD_one (zflD hD) 0 _ rfl)) rfl hl.1 (Nat.le_of_ble_eq_true rfl) (z_d hX4_label_0 45 rfl) ⟨Nat.zero_le _, Nat.zero_le _⟩) hS (zfl hP) (zflD hD) 0 rfl rfl (adr_Scenes _ _ _ _) (fun H locs hP hD hS => ?_)
        have hP : va_P Z.1 vwCl (l_Scenes Z.2.1 Ac q9.1 q9.2.1 q9.2.2.1 q9.2.2.2.1 q9.2.2.2.2.1 q9.2.2.2.2.2.1 q9.2.2.2.2.2.2.1 q9.2.2.2.2.2.2.2.1 q9.2.2.2.2.2.2.2.2.1 q9.2.2.2.2.2.2.2.2.2.1 q9.2.2.2.2.2.2.2.2.2.2.1 q9.2.2.2.2.2.2.2.2.2.2.2 ++ [w_Script Z.2.1 As S]).flatten H := zfr hP
        have hD : va_D A (l_Scenes Z.2.1 Ac q9.1 q9.2.1 q9.2.2.1 q9.2.2.2.1 q9.2.2.2.2.1 q9.2.2.2.2.2.1 q9.2.2.2.2.2.2.1 q9.2.2.2.2.2.2.2.1 q9.2.2.2.2.2.2.2.2.1 q9.2.2.2.2.2.2.2.2.2.1 q9.2.2.2.2.2.2.2.2.2.2.1 q9.2.2.2.2.2.2.2.2.2.2.2 ++ [w_Script Z.2.1 As S]).flatten := zfrD hD
        refine W.eq (g2 := F0 m 86 ls []) rfl ?_
        refine lv_goto (tgt := 104) hx hb (z_d hX4_label_0 46 rfl) (by decide) ?_
        refine z_let hF (fun u10 hu10 hF => ?_)
        refine lv_iinc (v := u10) (lv' := [(6, .int u10), (5, .int 0), (4, .int q8), (3, .int q7), (2, .int q6), (7, .int q1), (0, .ref (Ac 0)), (1, .ref (As 0))]) hx hb (z_d hX4_label_0 55 rfl) hl (k := 7) rfl (z_inc1 hu10) (by decide) rfl (fun ls hl => ?_)
        refine lv_goto (tgt := 13) hx hb (z_d hX4_label_0 56 rfl) (by decide) ?_
        exact ih _ _ hF _ _ ls hP hD hS (lv_sub hl [6, 7, 4, 3, 2, 1, 0] rfl) K1
  refine lv_iconst (v := 0) hx hb (z_d hX4_label_0 0 rfl) (by decide) ?_
  refine lv_istore_n (lv' := [(2, .int 0), (0, .ref (Ac 0)), (1, .ref (As 0))]) hx hb (z_d hX4_label_0 1 rfl) rfl hl (by decide) rfl (fun ls hl => ?_)
  refine lv_iconst (v := 0) hx hb (z_d hX4_label_0 2 rfl) (by decide) ?_
  refine lv_istore_n (lv' := [(3, .int 0), (2, .int 0), (0, .ref (Ac 0)), (1, .ref (As 0))]) hx hb (z_d hX4_label_0 3 rfl) rfl hl (by decide) rfl (fun ls hl => ?_)
  refine lv_iconst (v := 0) hx hb (z_d hX4_label_0 4 rfl) (by decide) ?_
  refine lv_istore (lv' := [(4, .int 0), (3, .int 0), (2, .int 0), (0, .ref (Ac 0)), (1, .ref (As 0))]) hx hb (z_d hX4_label_0 5 rfl) hl (by decide) rfl (fun ls hl => ?_)
  refine lv_iconst (v := 0) hx hb (z_d hX4_label_0 6 rfl) (by decide) ?_
  refine lv_istore (lv' := [(5, .int 0), (4, .int 0), (3, .int 0), (2, .int 0), (0, .ref (Ac 0)), (1, .ref (As 0))]) hx hb (z_d hX4_label_0 7 rfl) hl (by decide) rfl (fun ls hl => ?_)
  refine lv_iconst (v := 0) hx hb (z_d hX4_label_0 8 rfl) (by decide) ?_
  refine lv_istore (lv' := [(6, .int 0), (5, .int 0), (4, .int 0), (3, .int 0), (2, .int 0), (0, .ref (Ac 0)), (1, .ref (As 0))]) hx hb (z_d hX4_label_0 9 rfl) hl (by decide) rfl (fun ls hl => ?_)
  refine z_bnd hF (fun q11 hq11 hF => ?_)
  refine L13  _ _ _ hq11 _ _ ls hP hD hS (lv_sub hl [5, 6, 4, 3, 2, 1, 0] rfl) (fun H locs ls hP hD hS hl => ?_)
  obtain rfl := Option.some.inj hF
  subst hQ
  subst hA
  exact W.vret hx hb hr (fun t ht hW => zq_mu (by rw [ht]; exact zfl hP) (hS.F ht)) hS.2.2 (z_d hX4_label_0 57 rfl)
def rm_X4_survey : Room := { frames := 4, cells := 0, slots := 0, locals := 98 }
set_option maxRecDepth 100000 in
set_option maxHeartbeats 4000000 in
theorem c_X4_survey (l : Launch) (Z : zZ) (Ac : Nat → Nat) (As : Nat → Nat) (C : t_Scenes) (S : t_Script) (R : t_Scenes) (hF : X4_survey C S = some R) : zMU l yX4_survey (zw yX4_survey cX4_survey 2 none) rm_X4_survey Z [.ref (Ac 0), .ref (As 0)] (List.flatten [w_Scenes Z.2.1 Ac C, w_Script Z.2.1 As S]) (List.flatten [w_Scenes Z.2.1 Ac R, w_Script Z.2.1 As S]) none := by
  refine zMU_of (by decide) (Nat.le_of_ble_eq_true rfl) (fun p e s m below meth c hx hb hr hml hown hts hlocks hK A hA Q hQ ls hl hP hD hS => ?_)
  unfold X4_survey at hF
  have hl : lv_has ls 2 [(0, .ref (Ac 0)), (1, .ref (As 0))] := hl
  have hown : s.vm.findClass RX4 = some m.cls := hown
  have hP : va_P Z.1 vwCl (l_Scenes Z.2.1 Ac C.1 C.2.1 C.2.2.1 C.2.2.2.1 C.2.2.2.2.1 C.2.2.2.2.2.1 C.2.2.2.2.2.2.1 C.2.2.2.2.2.2.2.1 C.2.2.2.2.2.2.2.2.1 C.2.2.2.2.2.2.2.2.2.1 C.2.2.2.2.2.2.2.2.2.2.1 C.2.2.2.2.2.2.2.2.2.2.2 ++ [w_Script Z.2.1 As S]).flatten s.heap := zfr hP
  have hD : va_D A (l_Scenes Z.2.1 Ac C.1 C.2.1 C.2.2.1 C.2.2.2.1 C.2.2.2.2.1 C.2.2.2.2.2.1 C.2.2.2.2.2.2.1 C.2.2.2.2.2.2.2.1 C.2.2.2.2.2.2.2.2.1 C.2.2.2.2.2.2.2.2.2.1 C.2.2.2.2.2.2.2.2.2.2.1 C.2.2.2.2.2.2.2.2.2.2.2 ++ [w_Script Z.2.1 As S]).flatten := zfrD hD
  refine lv_aload_n hx hb (z_d hX4_survey_0 0 rfl) rfl (lv_at hl 0 rfl) ?_
  refine lv_aload_n hx hb (z_d hX4_survey_0 1 rfl) rfl (lv_at hl 1 rfl) ?_
  refine z_bnd hF (fun q1 hq1 hF => ?_)
  refine z_mu0 (z_rV (As := [.ref (As 0)]) (rest := []) hx hb hml hown hts vt_X4_gather (c_X4_gather l Z Ac As C S _ hq1) rfl rfl ⟨Nat.le_of_ble_eq_true rfl, Nat.le_of_ble_eq_true rfl⟩ k_m_X4_58 zPmu_blind (z_recv (q := (RX4, TX4, 12)) (ci := 4) (q0 := 0) hK (zP_reg hP 0 rfl) rfl rfl) (z_prem hK (zfl hP) (zflD hD)) rfl hl.1 (Nat.le_of_ble_eq_true rfl) (z_d hX4_survey_0 2 rfl) ⟨Nat.zero_le _, Nat.zero_le _⟩) hS (zflD hD) (zadr2 (adr_Scenes _ _ _ _) (adr_Script _ _ _ _)) (fun H locs hP hD hS => ?_)
  have hP : va_P Z.1 vwCl (l_Scenes Z.2.1 Ac q1.1 q1.2.1 q1.2.2.1 q1.2.2.2.1 q1.2.2.2.2.1 q1.2.2.2.2.2.1 q1.2.2.2.2.2.2.1 q1.2.2.2.2.2.2.2.1 q1.2.2.2.2.2.2.2.2.1 q1.2.2.2.2.2.2.2.2.2.1 q1.2.2.2.2.2.2.2.2.2.2.1 q1.2.2.2.2.2.2.2.2.2.2.2 ++ [w_Script Z.2.1 As S]).flatten H := zfr hP
  have hD : va_D A (l_Scenes Z.2.1 Ac q1.1 q1.2.1 q1.2.2.1 q1.2.2.2.1 q1.2.2.2.2.1 q1.2.2.2.2.2.1 q1.2.2.2.2.2.2.1 q1.2.2.2.2.2.2.2.1 q1.2.2.2.2.2.2.2.2.1 q1.2.2.2.2.2.2.2.2.2.1 q1.2.2.2.2.2.2.2.2.2.2.1 q1.2.2.2.2.2.2.2.2.2.2.2 ++ [w_Script Z.2.1 As S]).flatten := zfrD hD
  refine W.eq (g2 := F0 m 5 ls []) rfl ?_
  refine lv_aload_n hx hb (z_d hX4_survey_0 3 rfl) rfl (lv_at hl 0 rfl) ?_
  refine lv_aload_n hx hb (z_d hX4_survey_0 4 rfl) rfl (lv_at hl 1 rfl) ?_
  refine z_bnd hF (fun q2 hq2 hF => ?_)
  refine z_mu0 (z_rV (As := [.ref (As 0)]) (rest := []) hx hb hml hown hts vt_X4_findCarriedNames (c_X4_findCarriedNames l Z Ac As q1 S _ hq2) rfl rfl ⟨Nat.le_of_ble_eq_true rfl, Nat.le_of_ble_eq_true rfl⟩ k_m_X4_62 zPmu_blind (z_recv (q := (RX4, TX4, 12)) (ci := 4) (q0 := 0) hK (zP_reg hP 0 rfl) rfl rfl) (z_prem hK (zfl hP) (zflD hD)) rfl hl.1 (Nat.le_of_ble_eq_true rfl) (z_d hX4_survey_0 5 rfl) ⟨Nat.zero_le _, Nat.zero_le _⟩) hS (zflD hD) (zadr2 (adr_Scenes _ _ _ _) (adr_Script _ _ _ _)) (fun H locs hP hD hS => ?_)
  have hP : va_P Z.1 vwCl (l_Scenes Z.2.1 Ac q2.1 q2.2.1 q2.2.2.1 q2.2.2.2.1 q2.2.2.2.2.1 q2.2.2.2.2.2.1 q2.2.2.2.2.2.2.1 q2.2.2.2.2.2.2.2.1 q2.2.2.2.2.2.2.2.2.1 q2.2.2.2.2.2.2.2.2.2.1 q2.2.2.2.2.2.2.2.2.2.2.1 q2.2.2.2.2.2.2.2.2.2.2.2 ++ [w_Script Z.2.1 As S]).flatten H := zfr hP
  have hD : va_D A (l_Scenes Z.2.1 Ac q2.1 q2.2.1 q2.2.2.1 q2.2.2.2.1 q2.2.2.2.2.1 q2.2.2.2.2.2.1 q2.2.2.2.2.2.2.1 q2.2.2.2.2.2.2.2.1 q2.2.2.2.2.2.2.2.2.1 q2.2.2.2.2.2.2.2.2.2.1 q2.2.2.2.2.2.2.2.2.2.2.1 q2.2.2.2.2.2.2.2.2.2.2.2 ++ [w_Script Z.2.1 As S]).flatten := zfrD hD
  refine W.eq (g2 := F0 m 10 ls []) rfl ?_
  refine lv_aload_n hx hb (z_d hX4_survey_0 6 rfl) rfl (lv_at hl 0 rfl) ?_
  refine lv_aload_n hx hb (z_d hX4_survey_0 7 rfl) rfl (lv_at hl 1 rfl) ?_
  refine z_bnd hF (fun q3 hq3 hF => ?_)
  refine z_mu0 (z_rV (As := [.ref (As 0)]) (rest := []) hx hb hml hown hts vt_X4_findLimits (c_X4_findLimits l Z Ac As q2 S _ hq3) rfl rfl ⟨Nat.le_of_ble_eq_true rfl, Nat.le_of_ble_eq_true rfl⟩ k_m_X4_65 zPmu_blind (z_recv (q := (RX4, TX4, 12)) (ci := 4) (q0 := 0) hK (zP_reg hP 0 rfl) rfl rfl) (z_prem hK (zfl hP) (zflD hD)) rfl hl.1 (Nat.le_of_ble_eq_true rfl) (z_d hX4_survey_0 8 rfl) ⟨Nat.zero_le _, Nat.zero_le _⟩) hS (zflD hD) (zadr2 (adr_Scenes _ _ _ _) (adr_Script _ _ _ _)) (fun H locs hP hD hS => ?_)
  have hP : va_P Z.1 vwCl (l_Scenes Z.2.1 Ac q3.1 q3.2.1 q3.2.2.1 q3.2.2.2.1 q3.2.2.2.2.1 q3.2.2.2.2.2.1 q3.2.2.2.2.2.2.1 q3.2.2.2.2.2.2.2.1 q3.2.2.2.2.2.2.2.2.1 q3.2.2.2.2.2.2.2.2.2.1 q3.2.2.2.2.2.2.2.2.2.2.1 q3.2.2.2.2.2.2.2.2.2.2.2 ++ [w_Script Z.2.1 As S]).flatten H := zfr hP
  have hD : va_D A (l_Scenes Z.2.1 Ac q3.1 q3.2.1 q3.2.2.1 q3.2.2.2.1 q3.2.2.2.2.1 q3.2.2.2.2.2.1 q3.2.2.2.2.2.2.1 q3.2.2.2.2.2.2.2.1 q3.2.2.2.2.2.2.2.2.1 q3.2.2.2.2.2.2.2.2.2.1 q3.2.2.2.2.2.2.2.2.2.2.1 q3.2.2.2.2.2.2.2.2.2.2.2 ++ [w_Script Z.2.1 As S]).flatten := zfrD hD
  refine W.eq (g2 := F0 m 15 ls []) rfl ?_
  refine lv_aload_n hx hb (z_d hX4_survey_0 9 rfl) rfl (lv_at hl 0 rfl) ?_
  refine lv_aload_n hx hb (z_d hX4_survey_0 10 rfl) rfl (lv_at hl 1 rfl) ?_
  refine z_bnd hF (fun q4 hq4 hF => ?_)
  refine z_mu0 (z_rV (As := [.ref (As 0)]) (rest := []) hx hb hml hown hts vt_X4_label (c_X4_label l Z Ac As q3 S _ hq4) rfl rfl ⟨Nat.le_of_ble_eq_true rfl, Nat.le_of_ble_eq_true rfl⟩ k_m_X4_68 zPmu_blind (z_recv (q := (RX4, TX4, 12)) (ci := 4) (q0 := 0) hK (zP_reg hP 0 rfl) rfl rfl) (z_prem hK (zfl hP) (zflD hD)) rfl hl.1 (Nat.le_of_ble_eq_true rfl) (z_d hX4_survey_0 11 rfl) ⟨Nat.zero_le _, Nat.zero_le _⟩) hS (zflD hD) (zadr2 (adr_Scenes _ _ _ _) (adr_Script _ _ _ _)) (fun H locs hP hD hS => ?_)
  have hP : va_P Z.1 vwCl (l_Scenes Z.2.1 Ac q4.1 q4.2.1 q4.2.2.1 q4.2.2.2.1 q4.2.2.2.2.1 q4.2.2.2.2.2.1 q4.2.2.2.2.2.2.1 q4.2.2.2.2.2.2.2.1 q4.2.2.2.2.2.2.2.2.1 q4.2.2.2.2.2.2.2.2.2.1 q4.2.2.2.2.2.2.2.2.2.2.1 q4.2.2.2.2.2.2.2.2.2.2.2 ++ [w_Script Z.2.1 As S]).flatten H := zfr hP
  have hD : va_D A (l_Scenes Z.2.1 Ac q4.1 q4.2.1 q4.2.2.1 q4.2.2.2.1 q4.2.2.2.2.1 q4.2.2.2.2.2.1 q4.2.2.2.2.2.2.1 q4.2.2.2.2.2.2.2.1 q4.2.2.2.2.2.2.2.2.1 q4.2.2.2.2.2.2.2.2.2.1 q4.2.2.2.2.2.2.2.2.2.2.1 q4.2.2.2.2.2.2.2.2.2.2.2 ++ [w_Script Z.2.1 As S]).flatten := zfrD hD
  refine W.eq (g2 := F0 m 20 ls []) rfl ?_
  obtain rfl := Option.some.inj hF
  subst hQ
  subst hA
  exact W.vret hx hb hr (fun t ht hW => zq_mu (by rw [ht]; exact zfl hP) (hS.F ht)) hS.2.2 (z_d hX4_survey_0 12 rfl)
def rm_X4_areTwins : Room := { frames := 1, cells := 0, slots := 0, locals := 21 }
set_option maxRecDepth 100000 in
set_option maxHeartbeats 4000000 in
theorem c_X4_areTwins (l : Launch) (Z : zZ) (Ac : Nat → Nat) (C : t_Scenes) (p1 : Int32) (p2 : Int32) (R : Int32) (hF : X4_areTwins C p1 p2 = R) : zRO l yX4_areTwins (zw yX4_areTwins cX4_areTwins 3 (some .boolean)) rm_X4_areTwins Z [.ref (Ac 0), .int p1, .int p2] (w_Scenes Z.2.1 Ac C) (some (.int R)) := by
  refine zRO_of (by decide) (Nat.le_of_ble_eq_true rfl) (fun p e s m below meth c hx hb hr hml hown hts hlocks hK Q hQ ls hl hP hS => ?_)
  unfold X4_areTwins at hF
  have hl : lv_has ls 3 [(0, .ref (Ac 0)), (1, .int p1), (2, .int p2)] := hl
  have hown : s.vm.findClass RX4 = some m.cls := hown
  have hP : va_P Z.1 vwCl (l_Scenes Z.2.1 Ac C.1 C.2.1 C.2.2.1 C.2.2.2.1 C.2.2.2.2.1 C.2.2.2.2.2.1 C.2.2.2.2.2.2.1 C.2.2.2.2.2.2.2.1 C.2.2.2.2.2.2.2.2.1 C.2.2.2.2.2.2.2.2.2.1 C.2.2.2.2.2.2.2.2.2.2.1 C.2.2.2.2.2.2.2.2.2.2.2).flatten s.heap := hP
  refine lv_aload_n hx hb (z_d hX4_areTwins_0 0 rfl) rfl (lv_at hl 0 rfl) ?_
  refine va_get (D := Z.1) (ci := 4) (v := .ref (Ac 7)) (C := RX4) (T := TX4) (N := 12) hx hb hts zinX4 hown hK.1 (zP_reg hP 0 rfl) 0 rfl rfl 6 (by decide) (hts _ k_f_X4_36) (fun _ h9 => h9) rfl (z_d hX4_areTwins_0 1 rfl) ?_
  refine lv_iload_n hx hb (z_d hX4_areTwins_0 2 rfl) rfl (lv_at hl 1 rfl) ?_
  refine z_let hF (fun q1 hq1 hF => ?_)
  refine z_ro_i (z_rV (As := [.int p1]) (rest := []) hx hb hml hown hts vt_X3_at (c_rAt l Z 60 (Ac 7) (Ac 8) (by decide) C.2.2.2.2.2.2.1 p1 _ hq1) rfl rfl ⟨Nat.le_of_ble_eq_true rfl, Nat.le_of_ble_eq_true rfl⟩ k_m_X4_97 zPro_blind (z_recv (q := (RX3, TX3, 1)) (ci := 3) (q0 := 0) hK (zP_reg hP 4 rfl) rfl rfl) (z_prec hK (zP_reg hP 4 rfl)) rfl hl.1 (Nat.le_of_ble_eq_true rfl) (z_d hX4_areTwins_0 3 rfl) ⟨Nat.zero_le _, Nat.zero_le _⟩) hS hP (fun H locs hP hS => ?_)
  refine lv_aload_n hx hb (z_d hX4_areTwins_0 4 rfl) rfl (lv_at hl 0 rfl) ?_
  refine va_get (D := Z.1) (ci := 4) (v := .ref (Ac 7)) (C := RX4) (T := TX4) (N := 12) hx hb hts zinX4 hown hK.1 (zP_reg hP 0 rfl) 0 rfl rfl 6 (by decide) (hts _ k_f_X4_36) (fun _ h9 => h9) rfl (z_d hX4_areTwins_0 5 rfl) ?_
  refine lv_iload_n hx hb (z_d hX4_areTwins_0 6 rfl) rfl (lv_at hl 2 rfl) ?_
  refine z_let hF (fun q2 hq2 hF => ?_)
  refine z_ro_i (z_rV (As := [.int p2]) (rest := [.int q1]) hx hb hml hown hts vt_X3_at (c_rAt l Z 60 (Ac 7) (Ac 8) (by decide) C.2.2.2.2.2.2.1 p2 _ hq2) rfl rfl ⟨Nat.le_of_ble_eq_true rfl, Nat.le_of_ble_eq_true rfl⟩ k_m_X4_97 zPro_blind (z_recv (q := (RX3, TX3, 1)) (ci := 3) (q0 := 0) hK (zP_reg hP 4 rfl) rfl rfl) (z_prec hK (zP_reg hP 4 rfl)) rfl hl.1 (Nat.le_of_ble_eq_true rfl) (z_d hX4_areTwins_0 7 rfl) ⟨Nat.zero_le _, Nat.zero_le _⟩) hS hP (fun H locs hP hS => ?_)
  refine lv_icmp_ne (tgt := 61) hx hb (z_d hX4_areTwins_0 8 rfl) (by decide) (fun hc16 => ?_) (fun hc16 => ?_)
  · have hF := z_neg hc16 hF
    refine lv_iconst (v := 0) hx hb (z_d hX4_areTwins_0 29 rfl) (by decide) ?_
    have hz9 : narrow .boolean (.int 0) = .int 0 := rfl
    obtain rfl := hF
    subst hQ
    exact W.zret hx hb hr hz9 (fun t ht hW => zq_ro (hS.F ht)) hS.2.2 (z_d hX4_areTwins_0 30 rfl)
  · have hF := z_pos hc16 hF
    refine lv_aload_n hx hb (z_d hX4_areTwins_0 9 rfl) rfl (lv_at hl 0 rfl) ?_
    refine va_get (D := Z.1) (ci := 4) (v := .ref (Ac 9)) (C := RX4) (T := TX4) (N := 12) hx hb hts zinX4 hown hK.1 (zP_reg hP 0 rfl) 0 rfl rfl 7 (by decide) (hts _ k_f_X4_39) (fun _ h9 => h9) rfl (z_d hX4_areTwins_0 10 rfl) ?_
    refine lv_iload_n hx hb (z_d hX4_areTwins_0 11 rfl) rfl (lv_at hl 1 rfl) ?_
    refine z_let hF (fun q3 hq3 hF => ?_)
    refine z_ro_i (z_rV (As := [.int p1]) (rest := []) hx hb hml hown hts vt_X3_at (c_rAt l Z 60 (Ac 9) (Ac 10) (by decide) C.2.2.2.2.2.2.2.1 p1 _ hq3) rfl rfl ⟨Nat.le_of_ble_eq_true rfl, Nat.le_of_ble_eq_true rfl⟩ k_m_X4_97 zPro_blind (z_recv (q := (RX3, TX3, 1)) (ci := 3) (q0 := 0) hK (zP_reg hP 5 rfl) rfl rfl) (z_prec hK (zP_reg hP 5 rfl)) rfl hl.1 (Nat.le_of_ble_eq_true rfl) (z_d hX4_areTwins_0 12 rfl) ⟨Nat.zero_le _, Nat.zero_le _⟩) hS hP (fun H locs hP hS => ?_)
    refine lv_aload_n hx hb (z_d hX4_areTwins_0 13 rfl) rfl (lv_at hl 0 rfl) ?_
    refine va_get (D := Z.1) (ci := 4) (v := .ref (Ac 9)) (C := RX4) (T := TX4) (N := 12) hx hb hts zinX4 hown hK.1 (zP_reg hP 0 rfl) 0 rfl rfl 7 (by decide) (hts _ k_f_X4_39) (fun _ h9 => h9) rfl (z_d hX4_areTwins_0 14 rfl) ?_
    refine lv_iload_n hx hb (z_d hX4_areTwins_0 15 rfl) rfl (lv_at hl 2 rfl) ?_
    refine z_let hF (fun q4 hq4 hF => ?_)
    refine z_ro_i (z_rV (As := [.int p2]) (rest := [.int q3]) hx hb hml hown hts vt_X3_at (c_rAt l Z 60 (Ac 9) (Ac 10) (by decide) C.2.2.2.2.2.2.2.1 p2 _ hq4) rfl rfl ⟨Nat.le_of_ble_eq_true rfl, Nat.le_of_ble_eq_true rfl⟩ k_m_X4_97 zPro_blind (z_recv (q := (RX3, TX3, 1)) (ci := 3) (q0 := 0) hK (zP_reg hP 5 rfl) rfl rfl) (z_prec hK (zP_reg hP 5 rfl)) rfl hl.1 (Nat.le_of_ble_eq_true rfl) (z_d hX4_areTwins_0 16 rfl) ⟨Nat.zero_le _, Nat.zero_le _⟩) hS hP (fun H locs hP hS => ?_)
    refine lv_icmp_ne (tgt := 61) hx hb (z_d hX4_areTwins_0 17 rfl) (by decide) (fun hc35 => ?_) (fun hc35 => ?_)
    · have hF := z_neg hc35 hF
      refine lv_iconst (v := 0) hx hb (z_d hX4_areTwins_0 29 rfl) (by decide) ?_
      have hz9 : narrow .boolean (.int 0) = .int 0 := rfl
      obtain rfl := hF
      subst hQ
      exact W.zret hx hb hr hz9 (fun t ht hW => zq_ro (hS.F ht)) hS.2.2 (z_d hX4_areTwins_0 30 rfl)
    · have hF := z_pos hc35 hF
      refine lv_aload_n hx hb (z_d hX4_areTwins_0 18 rfl) rfl (lv_at hl 0 rfl) ?_
      refine va_get (D := Z.1) (ci := 4) (v := .ref (Ac 11)) (C := RX4) (T := TX4) (N := 12) hx hb hts zinX4 hown hK.1 (zP_reg hP 0 rfl) 0 rfl rfl 8 (by decide) (hts _ k_f_X4_42) (fun _ h9 => h9) rfl (z_d hX4_areTwins_0 19 rfl) ?_
      refine lv_iload_n hx hb (z_d hX4_areTwins_0 20 rfl) rfl (lv_at hl 1 rfl) ?_
      refine z_let hF (fun q5 hq5 hF => ?_)
      refine z_ro_i (z_rV (As := [.int p1]) (rest := []) hx hb hml hown hts vt_X3_at (c_rAt l Z 60 (Ac 11) (Ac 12) (by decide) C.2.2.2.2.2.2.2.2.1 p1 _ hq5) rfl rfl ⟨Nat.le_of_ble_eq_true rfl, Nat.le_of_ble_eq_true rfl⟩ k_m_X4_97 zPro_blind (z_recv (q := (RX3, TX3, 1)) (ci := 3) (q0 := 0) hK (zP_reg hP 6 rfl) rfl rfl) (z_prec hK (zP_reg hP 6 rfl)) rfl hl.1 (Nat.le_of_ble_eq_true rfl) (z_d hX4_areTwins_0 21 rfl) ⟨Nat.zero_le _, Nat.zero_le _⟩) hS hP (fun H locs hP hS => ?_)
      refine lv_aload_n hx hb (z_d hX4_areTwins_0 22 rfl) rfl (lv_at hl 0 rfl) ?_
      refine va_get (D := Z.1) (ci := 4) (v := .ref (Ac 11)) (C := RX4) (T := TX4) (N := 12) hx hb hts zinX4 hown hK.1 (zP_reg hP 0 rfl) 0 rfl rfl 8 (by decide) (hts _ k_f_X4_42) (fun _ h9 => h9) rfl (z_d hX4_areTwins_0 23 rfl) ?_
      refine lv_iload_n hx hb (z_d hX4_areTwins_0 24 rfl) rfl (lv_at hl 2 rfl) ?_
      refine z_let hF (fun q6 hq6 hF => ?_)
      refine z_ro_i (z_rV (As := [.int p2]) (rest := [.int q5]) hx hb hml hown hts vt_X3_at (c_rAt l Z 60 (Ac 11) (Ac 12) (by decide) C.2.2.2.2.2.2.2.2.1 p2 _ hq6) rfl rfl ⟨Nat.le_of_ble_eq_true rfl, Nat.le_of_ble_eq_true rfl⟩ k_m_X4_97 zPro_blind (z_recv (q := (RX3, TX3, 1)) (ci := 3) (q0 := 0) hK (zP_reg hP 6 rfl) rfl rfl) (z_prec hK (zP_reg hP 6 rfl)) rfl hl.1 (Nat.le_of_ble_eq_true rfl) (z_d hX4_areTwins_0 25 rfl) ⟨Nat.zero_le _, Nat.zero_le _⟩) hS hP (fun H locs hP hS => ?_)
      refine lv_icmp_ne (tgt := 61) hx hb (z_d hX4_areTwins_0 26 rfl) (by decide) (fun hc54 => ?_) (fun hc54 => ?_)
      · have hF := z_neg hc54 hF
        refine lv_iconst (v := 0) hx hb (z_d hX4_areTwins_0 29 rfl) (by decide) ?_
        have hz9 : narrow .boolean (.int 0) = .int 0 := rfl
        obtain rfl := hF
        subst hQ
        exact W.zret hx hb hr hz9 (fun t ht hW => zq_ro (hS.F ht)) hS.2.2 (z_d hX4_areTwins_0 30 rfl)
      · have hF := z_pos hc54 hF
        refine lv_iconst (v := 1) hx hb (z_d hX4_areTwins_0 27 rfl) (by decide) ?_
        refine lv_goto (tgt := 62) hx hb (z_d hX4_areTwins_0 28 rfl) (by decide) ?_
        have hz9 : narrow .boolean (.int 1) = .int 1 := rfl
        obtain rfl := hF
        subst hQ
        exact W.zret hx hb hr hz9 (fun t ht hW => zq_ro (hS.F ht)) hS.2.2 (z_d hX4_areTwins_0 30 rfl)
def rm_X4_hasTwins : Room := { frames := 2, cells := 0, slots := 0, locals := 43 }
set_option maxRecDepth 100000 in
set_option maxHeartbeats 4000000 in
theorem c_X4_hasTwins (l : Launch) (Z : zZ) (Ac : Nat → Nat) (C : t_Scenes) (R : Int32) (hF : X4_hasTwins C = some R) : zRO l yX4_hasTwins (zw yX4_hasTwins cX4_hasTwins 3 (some .boolean)) rm_X4_hasTwins Z [.ref (Ac 0)] (w_Scenes Z.2.1 Ac C) (some (.int R)) := by
  refine zRO_of (by decide) (Nat.le_of_ble_eq_true rfl) (fun p e s m below meth c hx hb hr hml hown hts hlocks hK Q hQ ls hl hP hS => ?_)
  unfold X4_hasTwins at hF
  have hl : lv_has ls 3 [(0, .ref (Ac 0))] := hl
  have hown : s.vm.findClass RX4 = some m.cls := hown
  have hP : va_P Z.1 vwCl (l_Scenes Z.2.1 Ac C.1 C.2.1 C.2.2.1 C.2.2.2.1 C.2.2.2.2.1 C.2.2.2.2.2.1 C.2.2.2.2.2.2.1 C.2.2.2.2.2.2.2.1 C.2.2.2.2.2.2.2.2.1 C.2.2.2.2.2.2.2.2.2.1 C.2.2.2.2.2.2.2.2.2.2.1 C.2.2.2.2.2.2.2.2.2.2.2).flatten s.heap := hP
  have L2 : ∀  (n : Nat) (v : Int32) (X : (Unit) ⊕ (Int32)) (hF : zloop (b_X4_hasTwins_2 C ) n v = some X) (H : Heap) (locs : List Loc) (ls : Array Slot) (hP : va_P Z.1 vwCl (l_Scenes Z.2.1 Ac C.1 C.2.1 C.2.2.1 C.2.2.2.1 C.2.2.2.2.1 C.2.2.2.2.2.1 C.2.2.2.2.2.2.1 C.2.2.2.2.2.2.2.1 C.2.2.2.2.2.2.2.2.1 C.2.2.2.2.2.2.2.2.2.1 C.2.2.2.2.2.2.2.2.2.2.1 C.2.2.2.2.2.2.2.2.2.2.2).flatten H) (hS : va_S (fun _ => False) s.heap H locs) (hl : lv_has ls 3 [(0, .ref (Ac 0)), (1, .int v)]) (K1 : ∀ Y, X = .inl Y → ∀ (H : Heap) (locs : List Loc) (ls : Array Slot) (hP : va_P Z.1 vwCl (l_Scenes Z.2.1 Ac C.1 C.2.1 C.2.2.1 C.2.2.2.1 C.2.2.2.2.1 C.2.2.2.2.2.1 C.2.2.2.2.2.2.1 C.2.2.2.2.2.2.2.1 C.2.2.2.2.2.2.2.2.1 C.2.2.2.2.2.2.2.2.2.1 C.2.2.2.2.2.2.2.2.2.2.1 C.2.2.2.2.2.2.2.2.2.2.2).flatten H) (hS : va_S (fun _ => False) s.heap H locs) (hl : lv_has ls 3 [(0, .ref (Ac 0))]), W p l e rm_X4_hasTwins s m ([.ref (Ac 0)] : List Value).toArray below meth c H locs 0 0 Q (F0 m 40 ls [])) (K2 : ∀ Y, X = .inr Y → ∀ (H : Heap) (locs : List Loc) (ls : Array Slot) (hP : va_P Z.1 vwCl (l_Scenes Z.2.1 Ac C.1 C.2.1 C.2.2.1 C.2.2.2.1 C.2.2.2.2.1 C.2.2.2.2.2.1 C.2.2.2.2.2.2.1 C.2.2.2.2.2.2.2.1 C.2.2.2.2.2.2.2.2.1 C.2.2.2.2.2.2.2.2.2.1 C.2.2.2.2.2.2.2.2.2.2.1 C.2.2.2.2.2.2.2.2.2.2.2).flatten H) (hS : va_S (fun _ => False) s.heap H locs) (hz9 : narrow .boolean (.int Y) = .int Y), W p l e rm_X4_hasTwins s m ([.ref (Ac 0)] : List Value).toArray below meth c H locs 0 0 Q (F0 m 27 ls [.int Y])), W p l e rm_X4_hasTwins s m ([.ref (Ac 0)] : List Value).toArray below meth c H locs 0 0 Q (F0 m 2 ls []) := by
    skip
    refine z_loopE (fun rec ih v X hF H locs ls hP hS hl K1 K2 => ?_)
    unfold b_X4_hasTwins_2 at hF
    have L12 : ∀ (x1 : Int32) (n : Nat) (v : Int32) (X : (Unit) ⊕ (Int32)) (hF : zloop (b_X4_hasTwins_12 C x1) n v = some X) (H : Heap) (locs : List Loc) (ls : Array Slot) (hP : va_P Z.1 vwCl (l_Scenes Z.2.1 Ac C.1 C.2.1 C.2.2.1 C.2.2.2.1 C.2.2.2.2.1 C.2.2.2.2.2.1 C.2.2.2.2.2.2.1 C.2.2.2.2.2.2.2.1 C.2.2.2.2.2.2.2.2.1 C.2.2.2.2.2.2.2.2.2.1 C.2.2.2.2.2.2.2.2.2.2.1 C.2.2.2.2.2.2.2.2.2.2.2).flatten H) (hS : va_S (fun _ => False) s.heap H locs) (hl : lv_has ls 3 [(0, .ref (Ac 0)), (1, .int x1), (2, .int v)]) (K1 : ∀ Y, X = .inl Y → ∀ (H : Heap) (locs : List Loc) (ls : Array Slot) (hP : va_P Z.1 vwCl (l_Scenes Z.2.1 Ac C.1 C.2.1 C.2.2.1 C.2.2.2.1 C.2.2.2.2.1 C.2.2.2.2.2.1 C.2.2.2.2.2.2.1 C.2.2.2.2.2.2.2.1 C.2.2.2.2.2.2.2.2.1 C.2.2.2.2.2.2.2.2.2.1 C.2.2.2.2.2.2.2.2.2.2.1 C.2.2.2.2.2.2.2.2.2.2.2).flatten H) (hS : va_S (fun _ => False) s.heap H locs) (hl : lv_has ls 3 [(0, .ref (Ac 0)), (1, .int x1)]), W p l e rm_X4_hasTwins s m ([.ref (Ac 0)] : List Value).toArray below meth c H locs 0 0 Q (F0 m 34 ls [])) (K2 : ∀ Y, X = .inr Y → ∀ (H : Heap) (locs : List Loc) (ls : Array Slot) (hP : va_P Z.1 vwCl (l_Scenes Z.2.1 Ac C.1 C.2.1 C.2.2.1 C.2.2.2.1 C.2.2.2.2.1 C.2.2.2.2.2.1 C.2.2.2.2.2.2.1 C.2.2.2.2.2.2.2.1 C.2.2.2.2.2.2.2.2.1 C.2.2.2.2.2.2.2.2.2.1 C.2.2.2.2.2.2.2.2.2.2.1 C.2.2.2.2.2.2.2.2.2.2.2).flatten H) (hS : va_S (fun _ => False) s.heap H locs) (hz9 : narrow .boolean (.int Y) = .int Y), W p l e rm_X4_hasTwins s m ([.ref (Ac 0)] : List Value).toArray below meth c H locs 0 0 Q (F0 m 27 ls [.int Y])), W p l e rm_X4_hasTwins s m ([.ref (Ac 0)] : List Value).toArray below meth c H locs 0 0 Q (F0 m 12 ls []) := by
      intro x1
      refine z_loopE (fun rec ih v X hF H locs ls hP hS hl K1 K2 => ?_)
      unfold b_X4_hasTwins_12 at hF
      refine lv_iload_n hx hb (z_d hX4_hasTwins_0 8 rfl) rfl (lv_at hl 2 rfl) ?_
      refine lv_iload_n hx hb (z_d hX4_hasTwins_0 9 rfl) rfl (lv_at hl 1 rfl) ?_
      refine lv_icmp_ge (tgt := 34) hx hb (z_d hX4_hasTwins_0 10 rfl) (by decide) (fun hc14 => ?_) (fun hc14 => ?_)
      · have hF := z_pos hc14 hF
        obtain rfl := Option.some.inj hF
        exact K1 _ rfl _ _ ls hP hS (lv_sub hl [0, 1] rfl)
      · have hF := z_neg hc14 hF
        refine lv_aload_n hx hb (z_d hX4_hasTwins_0 11 rfl) rfl (lv_at hl 0 rfl) ?_
        refine lv_iload_n hx hb (z_d hX4_hasTwins_0 12 rfl) rfl (lv_at hl 1 rfl) ?_
        refine lv_iload_n hx hb (z_d hX4_hasTwins_0 13 rfl) rfl (lv_at hl 2 rfl) ?_
        refine z_let hF (fun q1 hq1 hF => ?_)
        refine z_ro_i (z_rV (As := [.int x1, .int v]) (rest := []) hx hb hml hown hts vt_X4_areTwins (c_X4_areTwins l Z Ac C x1 v _ hq1) rfl rfl ⟨Nat.le_of_ble_eq_true rfl, Nat.le_of_ble_eq_true rfl⟩ k_m_X4_111 zPro_blind (z_recv (q := (RX4, TX4, 12)) (ci := 4) (q0 := 0) hK (zP_reg hP 0 rfl) rfl rfl) (z_prec hK hP) rfl hl.1 (Nat.le_of_ble_eq_true rfl) (z_d hX4_hasTwins_0 14 rfl) ⟨Nat.zero_le _, Nat.zero_le _⟩) hS hP (fun H locs hP hS => ?_)
        refine lv_if_eq (tgt := 28) hx hb (z_d hX4_hasTwins_0 15 rfl) (by decide) (fun hc23 => ?_) (fun hc23 => ?_)
        · have hF := z_pos hc23 hF
          refine z_let hF (fun u2 hu2 hF => ?_)
          refine lv_iinc (v := u2) (lv' := [(2, .int u2), (0, .ref (Ac 0)), (1, .int x1)]) hx hb (z_d hX4_hasTwins_0 18 rfl) hl (k := 2) rfl (z_inc1 hu2) (by decide) rfl (fun ls hl => ?_)
          refine lv_goto (tgt := 12) hx hb (z_d hX4_hasTwins_0 19 rfl) (by decide) ?_
          exact ih _ _ hF _ _ ls hP hS (lv_sub hl [1, 2, 0] rfl) K1 K2
        · have hF := z_neg hc23 hF
          refine lv_iconst (v := 1) hx hb (z_d hX4_hasTwins_0 16 rfl) (by decide) ?_
          have hz9 : narrow .boolean (.int 1) = .int 1 := rfl
          obtain rfl := Option.some.inj hF
          exact (K2 _ rfl _ _ ls hP hS hz9)
    refine lv_iload_n hx hb (z_d hX4_hasTwins_0 2 rfl) rfl (lv_at hl 1 rfl) ?_
    refine lv_aload_n hx hb (z_d hX4_hasTwins_0 3 rfl) rfl (lv_at hl 0 rfl) ?_
    refine va_get (D := Z.1) (ci := 4) (v := .int C.1) (C := RX4) (T := TX4) (N := 12) hx hb hts zinX4 hown hK.1 (zP_reg hP 0 rfl) 0 rfl rfl 0 (by decide) (hts _ k_f_X4_9) (fun _ h9 => h9) rfl (z_d hX4_hasTwins_0 4 rfl) ?_
    refine lv_icmp_ge (tgt := 40) hx hb (z_d hX4_hasTwins_0 5 rfl) (by decide) (fun hc7 => ?_) (fun hc7 => ?_)
    · have hF := z_pos hc7 hF
      obtain rfl := Option.some.inj hF
      exact K1 _ rfl _ _ ls hP hS (lv_sub hl [0] rfl)
    · have hF := z_neg hc7 hF
      refine lv_iconst (v := 0) hx hb (z_d hX4_hasTwins_0 6 rfl) (by decide) ?_
      refine lv_istore_n (lv' := [(2, .int 0), (0, .ref (Ac 0)), (1, .int v)]) hx hb (z_d hX4_hasTwins_0 7 rfl) rfl hl (by decide) rfl (fun ls hl => ?_)
      refine z_bnd hF (fun q3 hq3 hF => ?_)
      refine L12 v _ _ _ hq3 _ _ ls hP hS (lv_sub hl [1, 2, 0] rfl) (fun y4 e9 H locs ls hP hS hl => ?_) (fun r e9 H locs ls hP hS hz9 => ?_)
      · subst e9
        have hF := z_inl hF
        refine z_let hF (fun u5 hu5 hF => ?_)
        refine lv_iinc (v := u5) (lv' := [(1, .int u5), (0, .ref (Ac 0))]) hx hb (z_d hX4_hasTwins_0 20 rfl) hl (k := 1) rfl (z_inc1 hu5) (by decide) rfl (fun ls hl => ?_)
        refine lv_goto (tgt := 2) hx hb (z_d hX4_hasTwins_0 21 rfl) (by decide) ?_
        exact ih _ _ hF _ _ ls hP hS (lv_sub hl [1, 0] rfl) K1 K2
      · subst e9
        have hF := z_inr hF
        obtain rfl := Option.some.inj hF
        have h9 := K2 _ rfl _ _ ls hP hS hz9
        exact h9
  refine lv_iconst (v := 0) hx hb (z_d hX4_hasTwins_0 0 rfl) (by decide) ?_
  refine lv_istore_n (lv' := [(1, .int 0), (0, .ref (Ac 0))]) hx hb (z_d hX4_hasTwins_0 1 rfl) rfl hl (by decide) rfl (fun ls hl => ?_)
  refine z_bnd hF (fun q6 hq6 hF => ?_)
  refine L2  _ _ _ hq6 _ _ ls hP hS (lv_sub hl [1, 0] rfl) (fun y7 e9 H locs ls hP hS hl => ?_) (fun r e9 H locs ls hP hS hz9 => ?_)
  · subst e9
    have hF := z_inl hF
    refine lv_iconst (v := 0) hx hb (z_d hX4_hasTwins_0 22 rfl) (by decide) ?_
    have hz9 : narrow .boolean (.int 0) = .int 0 := rfl
    obtain rfl := Option.some.inj hF
    subst hQ
    exact W.zret hx hb hr hz9 (fun t ht hW => zq_ro (hS.F ht)) hS.2.2 (z_d hX4_hasTwins_0 23 rfl)
  · subst e9
    have hF := z_inr hF
    obtain rfl := Option.some.inj hF
    subst hQ
    exact W.zret hx hb hr hz9 (fun t ht hW => zq_ro (hS.F ht)) hS.2.2 (z_d hX4_hasTwins_0 17 rfl)
end

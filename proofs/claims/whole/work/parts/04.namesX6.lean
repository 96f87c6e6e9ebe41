set_option maxRecDepth 20000 in
theorem ggX6_init_X5_init : GoodIn wsX6_init wsX5_init := goodIn_r _ [29, 30, 2, 3, 31, 32, 33, 24, 25, 34, 35, 36, 37, 38, 39, 40, 41, 42, 43, 44, 45, 46, 47, 92, 93, 94, 95, 96, 97, 98, 99, 100, 101, 139] (by decide +kernel) (by decide +kernel)
set_option maxRecDepth 20000 in
theorem gX6_init_X5_init_n11 : GoodIn wsX6_init (wsX5_init) := ggX6_init_X5_init
set_option maxRecDepth 20000 in
theorem ggX6_init_X4_init : GoodIn wsX6_init wsX4_init := goodIn_r _ [49, 50, 2, 3, 51, 52, 53, 54, 24, 25, 55, 56, 57, 58, 59, 60, 61, 62, 63, 64, 43, 44, 45, 46, 47, 111, 112, 113, 114, 115, 116, 117, 118, 119, 120, 121, 122, 139] (by decide +kernel) (by decide +kernel)
set_option maxRecDepth 20000 in
theorem gX6_init_X4_init_n21 : GoodIn wsX6_init (wsX4_init) := ggX6_init_X4_init
set_option maxRecDepth 20000 in
theorem ggX6_init_X1_init : GoodIn wsX6_init wsX1_init := goodIn_r _ [66, 67, 2, 3, 68, 69, 70, 71, 72, 73, 24, 25, 74, 75, 76, 77, 78, 79, 80, 81, 82, 83, 43, 44, 45, 46, 47, 123, 124, 125, 126, 127, 128, 129, 130, 131, 132, 133, 134, 135, 136, 139] (by decide +kernel) (by decide +kernel)
set_option maxRecDepth 20000 in
theorem gX6_init_X1_init_n31 : GoodIn wsX6_init (wsX1_init) := ggX6_init_X1_init
set_option maxRecDepth 20000 in
theorem ggX6_init_X0_init : GoodIn wsX6_init wsX0_init := goodIn_r _ [86, 87, 2, 3, 88, 89, 90, 5, 6, 28, 29, 30, 31, 32, 33, 24, 25, 34, 35, 36, 37, 38, 39, 40, 41, 42, 43, 44, 45, 46, 47, 137, 138, 92, 93, 94, 95, 96, 97, 98, 99, 100, 101, 139] (by decide +kernel) (by decide +kernel)
set_option maxRecDepth 20000 in
theorem gX6_init_X0_init : GoodIn wsX6_init (wsX0_init) := ggX6_init_X0_init
set_option maxRecDepth 20000 in
theorem ggX6_init_X3_init : GoodIn wsX6_init wsX3_init := goodIn_r _ [44, 45, 2, 3, 46, 47, 139] (by decide +kernel) (by decide +kernel)
set_option maxRecDepth 20000 in
theorem gX6_init_X3_init : GoodIn wsX6_init (wsX3_init) := ggX6_init_X3_init
theorem dX6_init_0 : decode cX6_init 0 = .ok (.aload_n 0, 1) := by decide +kernel
theorem dX6_init_1 : decode cX6_init 1 = .ok (.invokespecial 3, 3) := by decide +kernel
theorem dX6_init_4 : decode cX6_init 4 = .ok (.aload_n 0, 1) := by decide +kernel
theorem dX6_init_5 : decode cX6_init 5 = .ok (.new 9, 3) := by decide +kernel
theorem dX6_init_8 : decode cX6_init 8 = .ok (.dup, 1) := by decide +kernel
theorem dX6_init_9 : decode cX6_init 9 = .ok (.invokespecial 11, 3) := by decide +kernel
theorem dX6_init_12 : decode cX6_init 12 = .ok (.putfield 12, 3) := by decide +kernel
theorem dX6_init_15 : decode cX6_init 15 = .ok (.aload_n 0, 1) := by decide +kernel
theorem dX6_init_16 : decode cX6_init 16 = .ok (.new 9, 3) := by decide +kernel
theorem dX6_init_19 : decode cX6_init 19 = .ok (.dup, 1) := by decide +kernel
theorem dX6_init_20 : decode cX6_init 20 = .ok (.invokespecial 11, 3) := by decide +kernel
theorem dX6_init_23 : decode cX6_init 23 = .ok (.putfield 16, 3) := by decide +kernel
theorem dX6_init_26 : decode cX6_init 26 = .ok (.aload_n 0, 1) := by decide +kernel
theorem dX6_init_27 : decode cX6_init 27 = .ok (.new 19, 3) := by decide +kernel
theorem dX6_init_30 : decode cX6_init 30 = .ok (.dup, 1) := by decide +kernel
theorem dX6_init_31 : decode cX6_init 31 = .ok (.invokespecial 21, 3) := by decide +kernel
theorem dX6_init_34 : decode cX6_init 34 = .ok (.putfield 22, 3) := by decide +kernel
theorem dX6_init_37 : decode cX6_init 37 = .ok (.aload_n 0, 1) := by decide +kernel
theorem dX6_init_38 : decode cX6_init 38 = .ok (.new 19, 3) := by decide +kernel
theorem dX6_init_41 : decode cX6_init 41 = .ok (.dup, 1) := by decide +kernel
theorem dX6_init_42 : decode cX6_init 42 = .ok (.invokespecial 21, 3) := by decide +kernel
theorem dX6_init_45 : decode cX6_init 45 = .ok (.putfield 26, 3) := by decide +kernel
theorem dX6_init_48 : decode cX6_init 48 = .ok (.aload_n 0, 1) := by decide +kernel
theorem dX6_init_49 : decode cX6_init 49 = .ok (.new 29, 3) := by decide +kernel
theorem dX6_init_52 : decode cX6_init 52 = .ok (.dup, 1) := by decide +kernel
theorem dX6_init_53 : decode cX6_init 53 = .ok (.invokespecial 31, 3) := by decide +kernel
theorem dX6_init_56 : decode cX6_init 56 = .ok (.putfield 32, 3) := by decide +kernel
theorem dX6_init_59 : decode cX6_init 59 = .ok (.aload_n 0, 1) := by decide +kernel
theorem dX6_init_60 : decode cX6_init 60 = .ok (.new 29, 3) := by decide +kernel
theorem dX6_init_63 : decode cX6_init 63 = .ok (.dup, 1) := by decide +kernel
theorem dX6_init_64 : decode cX6_init 64 = .ok (.invokespecial 31, 3) := by decide +kernel
theorem dX6_init_67 : decode cX6_init 67 = .ok (.putfield 36, 3) := by decide +kernel
theorem dX6_init_70 : decode cX6_init 70 = .ok (.aload_n 0, 1) := by decide +kernel
theorem dX6_init_71 : decode cX6_init 71 = .ok (.new 39, 3) := by decide +kernel
theorem dX6_init_74 : decode cX6_init 74 = .ok (.dup, 1) := by decide +kernel
theorem dX6_init_75 : decode cX6_init 75 = .ok (.invokespecial 41, 3) := by decide +kernel
theorem dX6_init_78 : decode cX6_init 78 = .ok (.putfield 42, 3) := by decide +kernel
theorem dX6_init_81 : decode cX6_init 81 = .ok (.aload_n 0, 1) := by decide +kernel
theorem dX6_init_82 : decode cX6_init 82 = .ok (.new 46, 3) := by decide +kernel
theorem dX6_init_85 : decode cX6_init 85 = .ok (.dup, 1) := by decide +kernel
theorem dX6_init_86 : decode cX6_init 86 = .ok (.sipush 200, 3) := by decide +kernel
theorem dX6_init_89 : decode cX6_init 89 = .ok (.invokespecial 48, 3) := by decide +kernel
theorem dX6_init_92 : decode cX6_init 92 = .ok (.putfield 51, 3) := by decide +kernel
theorem dX6_init_95 : decode cX6_init 95 = .ok (.aload_n 0, 1) := by decide +kernel
theorem dX6_init_96 : decode cX6_init 96 = .ok (.iconst 0, 1) := by decide +kernel
theorem dX6_init_97 : decode cX6_init 97 = .ok (.putfield 55, 3) := by decide +kernel
theorem dX6_init_100 : decode cX6_init 100 = .ok (.return_, 1) := by decide +kernel
set_option maxRecDepth 20000 in
theorem ggX6_insert_X6_isKind : GoodIn wsX6_insert wsX6_isKind := goodIn_r _ [12] (by decide +kernel) (by decide +kernel)
set_option maxRecDepth 20000 in
theorem gX6_insert_X6_isKind : GoodIn wsX6_insert (va_wsS RX6 69 yX6_isKind wsX6_isKind) := goodIn_app (goodIn_of _ (by decide +kernel)) ggX6_insert_X6_isKind
set_option maxRecDepth 20000 in
theorem ggX6_insert_X6_isLength : GoodIn wsX6_insert wsX6_isLength := goodIn_r _ [15] (by decide +kernel) (by decide +kernel)
set_option maxRecDepth 20000 in
theorem gX6_insert_X6_isLength : GoodIn wsX6_insert (va_wsS RX6 73 yX6_isLength wsX6_isLength) := goodIn_app (goodIn_of _ (by decide +kernel)) ggX6_insert_X6_isLength
set_option maxRecDepth 20000 in
theorem ggX6_insert_X6_isPersonOf : GoodIn wsX6_insert wsX6_isPersonOf := goodIn_r _ [18] (by decide +kernel) (by decide +kernel)
set_option maxRecDepth 20000 in
theorem gX6_insert_X6_isPersonOf : GoodIn wsX6_insert (va_wsS RX6 76 yX6_isPersonOf wsX6_isPersonOf) := goodIn_app (goodIn_of _ (by decide +kernel)) ggX6_insert_X6_isPersonOf
set_option maxRecDepth 20000 in
theorem ggX6_insert_X5_isFull : GoodIn wsX6_insert wsX5_isFull := goodIn_r _ [23, 24, 251, 252, 253, 254, 255, 256, 257, 258, 259, 260] (by decide +kernel) (by decide +kernel)
set_option maxRecDepth 20000 in
theorem gX6_insert_X5_isFull : GoodIn wsX6_insert (wsV RX6 85 RX5 yX5_isFull wsX5_isFull) := goodIn_app (goodIn_of _ (by decide +kernel)) ggX6_insert_X5_isFull
set_option maxRecDepth 20000 in
theorem ggX6_insert_X5_copyFrom : GoodIn wsX6_insert wsX5_copyFrom := goodIn_r _ [28, 24, 29, 30, 31, 32, 33, 34, 35, 36, 37, 38, 39, 40, 41, 42, 43, 251, 252, 253, 254, 255, 256, 257, 258, 259, 260, 261] (by decide +kernel) (by decide +kernel)
set_option maxRecDepth 20000 in
theorem gX6_insert_X5_copyFrom : GoodIn wsX6_insert (wsV RX6 94 RX5 yX5_copyFrom wsX5_copyFrom) := goodIn_app (goodIn_of _ (by decide +kernel)) ggX6_insert_X5_copyFrom
set_option maxRecDepth 20000 in
theorem ggX6_insert_X5_putIn : GoodIn wsX6_insert wsX5_putIn := goodIn_r _ [47, 30, 31, 32, 33, 34, 35, 36, 37, 24, 48, 20, 21, 22, 23, 49, 50, 51, 41, 52, 43, 53, 54, 55, 56, 251, 252, 253, 254, 255, 256, 257, 258, 259, 260, 261] (by decide +kernel) (by decide +kernel)
set_option maxRecDepth 20000 in
theorem gX6_insert_X5_putIn : GoodIn wsX6_insert (wsV RX6 98 RX5 yX5_putIn wsX5_putIn) := goodIn_app (goodIn_of _ (by decide +kernel)) ggX6_insert_X5_putIn
set_option maxRecDepth 20000 in
theorem ggX6_insert_X6_repeatsLabel : GoodIn wsX6_insert wsX6_repeatsLabel := goodIn_r _ [60, 61, 8, 62, 63, 64, 65, 66, 67, 68, 69, 70, 71, 72, 73, 74, 75, 76, 77, 78, 79, 22, 80, 30, 81, 82, 83, 41, 84, 43, 85, 54, 55, 56, 86, 87, 88, 89, 34, 90, 91, 92, 93, 94, 95, 96, 97, 31, 98, 99, 100, 101, 102, 103, 104, 105, 106, 107, 108, 109, 110, 111, 112, 113, 114, 115, 116, 117, 118, 119, 120, 121, 122, 123, 124, 125, 126, 127, 128, 129, 130, 131, 132, 133, 134, 135, 136, 242, 243, 244, 245, 246, 247, 248, 249, 250, 262, 263, 264, 265, 266, 267, 268, 269, 270, 271, 272, 273, 251, 252, 253, 254, 255, 256, 257, 258, 259, 260, 261] (by decide +kernel) (by decide +kernel)
set_option maxRecDepth 20000 in
theorem gX6_insert_X6_repeatsLabel : GoodIn wsX6_insert (wsV RX6 102 RX6 yX6_repeatsLabel wsX6_repeatsLabel) := goodIn_app (goodIn_of _ (by decide +kernel)) ggX6_insert_X6_repeatsLabel
set_option maxRecDepth 20000 in
theorem ggX6_insert_X6_keepDraft : GoodIn wsX6_insert wsX6_keepDraft := goodIn_r _ [140, 141, 7, 8, 142, 143, 144, 145, 146, 147, 148, 149, 150, 151, 152, 153, 154, 155, 156, 157, 158, 159, 26, 27, 22, 28, 24, 29, 30, 31, 32, 33, 34, 35, 36, 37, 38, 39, 40, 41, 42, 43, 25, 62, 63, 64, 65, 66, 67, 68, 69, 70, 71, 72, 73, 74, 75, 76, 77, 78, 79, 80, 81, 82, 83, 84, 85, 54, 55, 56, 86, 87, 88, 89, 90, 91, 92, 93, 94, 95, 96, 97, 98, 99, 100, 101, 102, 103, 104, 105, 106, 107, 108, 109, 110, 111, 112, 113, 114, 115, 116, 117, 118, 119, 120, 121, 122, 123, 124, 125, 126, 127, 128, 160, 161, 162, 163, 164, 165, 166, 167, 168, 169, 170, 171, 172, 173, 174, 175, 176, 177, 178, 179, 180, 181, 182, 183, 184, 185, 11, 186, 187, 188, 189, 190, 191, 192, 193, 194, 195, 196, 197, 198, 199, 200, 201, 202, 203, 204, 205, 206, 207, 208, 209, 210, 211, 212, 213, 214, 215, 216, 217, 218, 219, 220, 221, 222, 223, 224, 225, 226, 227, 228, 229, 230, 231, 232, 233, 234, 235, 236, 237, 238, 239, 240, 241, 242, 243, 244, 245, 246, 247, 248, 249, 250, 274, 275, 251, 252, 253, 254, 255, 256, 257, 258, 259, 260, 261, 262, 263, 264, 265, 266, 267, 268, 269, 270, 271, 272, 273, 276, 277, 278, 279, 280, 281, 282, 283, 284, 285, 286, 287, 288, 289] (by decide +kernel) (by decide +kernel)
set_option maxRecDepth 20000 in
theorem gX6_insert_X6_keepDraft : GoodIn wsX6_insert (wsV RX6 107 RX6 yX6_keepDraft wsX6_keepDraft) := goodIn_app (goodIn_of _ (by decide +kernel)) ggX6_insert_X6_keepDraft
theorem dX6_insert_0 : decode cX6_insert 0 = .ok (.iload_n 1, 1) := by decide +kernel
theorem dX6_insert_1 : decode cX6_insert 1 = .ok (.ifCond .lt 14, 3) := by decide +kernel
theorem dX6_insert_4 : decode cX6_insert 4 = .ok (.iload_n 1, 1) := by decide +kernel
theorem dX6_insert_5 : decode cX6_insert 5 = .ok (.aload_n 0, 1) := by decide +kernel
theorem dX6_insert_6 : decode cX6_insert 6 = .ok (.getfield 12, 3) := by decide +kernel
theorem dX6_insert_9 : decode cX6_insert 9 = .ok (.getfield 59, 3) := by decide +kernel
theorem dX6_insert_12 : decode cX6_insert 12 = .ok (.if_icmp .le 13, 3) := by decide +kernel
theorem dX6_insert_15 : decode cX6_insert 15 = .ok (.new 62, 3) := by decide +kernel
theorem dX6_insert_18 : decode cX6_insert 18 = .ok (.dup, 1) := by decide +kernel
theorem dX6_insert_19 : decode cX6_insert 19 = .ok (.ldc 64, 2) := by decide +kernel
theorem dX6_insert_21 : decode cX6_insert 21 = .ok (.invokespecial 66, 3) := by decide +kernel
theorem dX6_insert_24 : decode cX6_insert 24 = .ok (.athrow, 1) := by decide +kernel
theorem dX6_insert_25 : decode cX6_insert 25 = .ok (.iload_n 2, 1) := by decide +kernel
theorem dX6_insert_26 : decode cX6_insert 26 = .ok (.invokestatic 69, 3) := by decide +kernel
theorem dX6_insert_29 : decode cX6_insert 29 = .ok (.ifCond .eq 19, 3) := by decide +kernel
theorem dX6_insert_32 : decode cX6_insert 32 = .ok (.iload_n 3, 1) := by decide +kernel
theorem dX6_insert_33 : decode cX6_insert 33 = .ok (.invokestatic 73, 3) := by decide +kernel
theorem dX6_insert_36 : decode cX6_insert 36 = .ok (.ifCond .eq 12, 3) := by decide +kernel
theorem dX6_insert_39 : decode cX6_insert 39 = .ok (.iload_n 2, 1) := by decide +kernel
theorem dX6_insert_40 : decode cX6_insert 40 = .ok (.iload 4, 2) := by decide +kernel
theorem dX6_insert_42 : decode cX6_insert 42 = .ok (.invokestatic 76, 3) := by decide +kernel
theorem dX6_insert_45 : decode cX6_insert 45 = .ok (.ifCond .ne 13, 3) := by decide +kernel
theorem dX6_insert_48 : decode cX6_insert 48 = .ok (.new 80, 3) := by decide +kernel
theorem dX6_insert_51 : decode cX6_insert 51 = .ok (.dup, 1) := by decide +kernel
theorem dX6_insert_52 : decode cX6_insert 52 = .ok (.ldc 82, 2) := by decide +kernel
theorem dX6_insert_54 : decode cX6_insert 54 = .ok (.invokespecial 84, 3) := by decide +kernel
theorem dX6_insert_57 : decode cX6_insert 57 = .ok (.athrow, 1) := by decide +kernel
theorem dX6_insert_58 : decode cX6_insert 58 = .ok (.aload_n 0, 1) := by decide +kernel
theorem dX6_insert_59 : decode cX6_insert 59 = .ok (.getfield 12, 3) := by decide +kernel
theorem dX6_insert_62 : decode cX6_insert 62 = .ok (.invokevirtual 85, 3) := by decide +kernel
theorem dX6_insert_65 : decode cX6_insert 65 = .ok (.ifCond .eq 13, 3) := by decide +kernel
theorem dX6_insert_68 : decode cX6_insert 68 = .ok (.new 89, 3) := by decide +kernel
theorem dX6_insert_71 : decode cX6_insert 71 = .ok (.dup, 1) := by decide +kernel
theorem dX6_insert_72 : decode cX6_insert 72 = .ok (.ldc 91, 2) := by decide +kernel
theorem dX6_insert_74 : decode cX6_insert 74 = .ok (.invokespecial 93, 3) := by decide +kernel
theorem dX6_insert_77 : decode cX6_insert 77 = .ok (.athrow, 1) := by decide +kernel
theorem dX6_insert_78 : decode cX6_insert 78 = .ok (.aload_n 0, 1) := by decide +kernel
theorem dX6_insert_79 : decode cX6_insert 79 = .ok (.getfield 16, 3) := by decide +kernel
theorem dX6_insert_82 : decode cX6_insert 82 = .ok (.aload_n 0, 1) := by decide +kernel
theorem dX6_insert_83 : decode cX6_insert 83 = .ok (.getfield 12, 3) := by decide +kernel
theorem dX6_insert_86 : decode cX6_insert 86 = .ok (.invokevirtual 94, 3) := by decide +kernel
theorem dX6_insert_89 : decode cX6_insert 89 = .ok (.aload_n 0, 1) := by decide +kernel
theorem dX6_insert_90 : decode cX6_insert 90 = .ok (.getfield 16, 3) := by decide +kernel
theorem dX6_insert_93 : decode cX6_insert 93 = .ok (.iload_n 1, 1) := by decide +kernel
theorem dX6_insert_94 : decode cX6_insert 94 = .ok (.iload_n 2, 1) := by decide +kernel
theorem dX6_insert_95 : decode cX6_insert 95 = .ok (.iload_n 3, 1) := by decide +kernel
theorem dX6_insert_96 : decode cX6_insert 96 = .ok (.iload 4, 2) := by decide +kernel
theorem dX6_insert_98 : decode cX6_insert 98 = .ok (.invokevirtual 98, 3) := by decide +kernel
theorem dX6_insert_101 : decode cX6_insert 101 = .ok (.iload_n 2, 1) := by decide +kernel
theorem dX6_insert_102 : decode cX6_insert 102 = .ok (.ifCond .ne 20, 3) := by decide +kernel
theorem dX6_insert_105 : decode cX6_insert 105 = .ok (.aload_n 0, 1) := by decide +kernel
theorem dX6_insert_106 : decode cX6_insert 106 = .ok (.invokevirtual 102, 3) := by decide +kernel
theorem dX6_insert_109 : decode cX6_insert 109 = .ok (.ifCond .eq 13, 3) := by decide +kernel
theorem dX6_insert_112 : decode cX6_insert 112 = .ok (.new 89, 3) := by decide +kernel
theorem dX6_insert_115 : decode cX6_insert 115 = .ok (.dup, 1) := by decide +kernel
theorem dX6_insert_116 : decode cX6_insert 116 = .ok (.ldc 105, 2) := by decide +kernel
theorem dX6_insert_118 : decode cX6_insert 118 = .ok (.invokespecial 93, 3) := by decide +kernel
theorem dX6_insert_121 : decode cX6_insert 121 = .ok (.athrow, 1) := by decide +kernel
theorem dX6_insert_122 : decode cX6_insert 122 = .ok (.aload_n 0, 1) := by decide +kernel
theorem dX6_insert_123 : decode cX6_insert 123 = .ok (.invokevirtual 107, 3) := by decide +kernel
theorem dX6_insert_126 : decode cX6_insert 126 = .ok (.aload_n 0, 1) := by decide +kernel
theorem dX6_insert_127 : decode cX6_insert 127 = .ok (.getfield 12, 3) := by decide +kernel
theorem dX6_insert_130 : decode cX6_insert 130 = .ok (.getfield 59, 3) := by decide +kernel
theorem dX6_insert_133 : decode cX6_insert 133 = .ok (.ireturn, 1) := by decide +kernel
set_option maxRecDepth 20000 in
theorem ggX6_remove_X5_has : GoodIn wsX6_remove wsX5_has := goodIn_r _ [11, 12, 13, 14, 15, 225, 226, 227, 228, 229, 230, 231, 232, 233, 234] (by decide +kernel) (by decide +kernel)
set_option maxRecDepth 20000 in
theorem gX6_remove_X5_has : GoodIn wsX6_remove (wsV RX6 110 RX5 yX5_has wsX5_has) := goodIn_app (goodIn_of _ (by decide +kernel)) ggX6_remove_X5_has
set_option maxRecDepth 20000 in
theorem ggX6_remove_X5_isLocked : GoodIn wsX6_remove wsX5_isLocked := goodIn_r _ [19, 20, 21, 22, 23, 24, 25, 26, 225, 226, 227, 228, 229, 230, 231, 232, 233, 234, 235] (by decide +kernel) (by decide +kernel)
set_option maxRecDepth 20000 in
theorem gX6_remove_X5_isLocked : GoodIn wsX6_remove (wsV RX6 115 RX5 yX5_isLocked wsX5_isLocked) := goodIn_app (goodIn_of _ (by decide +kernel)) ggX6_remove_X5_isLocked
set_option maxRecDepth 20000 in
theorem ggX6_remove_X5_copyFrom : GoodIn wsX6_remove wsX5_copyFrom := goodIn_r _ [30, 12, 31, 32, 33, 34, 35, 20, 36, 37, 38, 39, 40, 41, 24, 42, 26, 225, 226, 227, 228, 229, 230, 231, 232, 233, 234, 235] (by decide +kernel) (by decide +kernel)
set_option maxRecDepth 20000 in
theorem gX6_remove_X5_copyFrom : GoodIn wsX6_remove (wsV RX6 94 RX5 yX5_copyFrom wsX5_copyFrom) := goodIn_app (goodIn_of _ (by decide +kernel)) ggX6_remove_X5_copyFrom
set_option maxRecDepth 20000 in
theorem ggX6_remove_X5_takeOut : GoodIn wsX6_remove wsX5_takeOut := goodIn_r _ [46, 35, 32, 33, 34, 20, 36, 37, 38, 12, 47, 8, 9, 10, 11, 13, 14, 15, 21, 22, 23, 24, 25, 26, 48, 49, 50, 51, 52, 53, 54, 55, 225, 226, 227, 228, 229, 230, 231, 232, 233, 234, 235] (by decide +kernel) (by decide +kernel)
set_option maxRecDepth 20000 in
theorem gX6_remove_X5_takeOut : GoodIn wsX6_remove (wsV RX6 120 RX5 yX5_takeOut wsX5_takeOut) := goodIn_app (goodIn_of _ (by decide +kernel)) ggX6_remove_X5_takeOut
set_option maxRecDepth 20000 in
theorem ggX6_remove_X6_keepDraft : GoodIn wsX6_remove wsX6_keepDraft := goodIn_r _ [59, 60, 5, 6, 61, 62, 63, 64, 65, 66, 67, 68, 69, 70, 71, 72, 73, 74, 75, 76, 77, 78, 28, 29, 10, 30, 12, 31, 32, 33, 34, 35, 20, 36, 37, 38, 39, 40, 41, 24, 42, 26, 27, 79, 80, 81, 82, 83, 84, 85, 86, 87, 88, 89, 90, 91, 92, 93, 94, 95, 96, 97, 21, 22, 23, 25, 98, 53, 54, 55, 99, 17, 18, 19, 100, 101, 102, 103, 104, 105, 106, 107, 108, 109, 110, 111, 112, 113, 114, 115, 116, 117, 118, 119, 120, 121, 122, 123, 124, 125, 126, 127, 128, 129, 130, 131, 132, 133, 134, 135, 136, 137, 138, 139, 140, 141, 142, 143, 144, 145, 146, 147, 148, 149, 150, 151, 152, 153, 154, 155, 156, 157, 158, 159, 160, 8, 9, 11, 13, 14, 15, 161, 162, 163, 164, 165, 166, 167, 168, 169, 170, 171, 172, 173, 174, 175, 176, 177, 178, 179, 180, 181, 182, 183, 184, 185, 186, 187, 188, 189, 190, 191, 192, 193, 194, 195, 196, 197, 198, 199, 200, 201, 202, 203, 204, 205, 206, 207, 208, 209, 210, 211, 212, 213, 214, 215, 216, 217, 218, 219, 220, 221, 222, 223, 224, 236, 237, 225, 226, 227, 228, 229, 230, 231, 232, 233, 234, 235, 238, 239, 240, 241, 242, 243, 244, 245, 246, 247, 248, 249, 250, 251, 252, 253, 254, 255, 256, 257, 258, 259, 260, 261, 262, 263] (by decide +kernel) (by decide +kernel)
set_option maxRecDepth 20000 in
theorem gX6_remove_X6_keepDraft : GoodIn wsX6_remove (wsV RX6 107 RX6 yX6_keepDraft wsX6_keepDraft) := goodIn_app (goodIn_of _ (by decide +kernel)) ggX6_remove_X6_keepDraft
theorem dX6_remove_0 : decode cX6_remove 0 = .ok (.aload_n 0, 1) := by decide +kernel
theorem dX6_remove_1 : decode cX6_remove 1 = .ok (.getfield 12, 3) := by decide +kernel
theorem dX6_remove_4 : decode cX6_remove 4 = .ok (.iload_n 1, 1) := by decide +kernel
theorem dX6_remove_5 : decode cX6_remove 5 = .ok (.invokevirtual 110, 3) := by decide +kernel
theorem dX6_remove_8 : decode cX6_remove 8 = .ok (.ifCond .ne 13, 3) := by decide +kernel
theorem dX6_remove_11 : decode cX6_remove 11 = .ok (.new 62, 3) := by decide +kernel
theorem dX6_remove_14 : decode cX6_remove 14 = .ok (.dup, 1) := by decide +kernel
theorem dX6_remove_15 : decode cX6_remove 15 = .ok (.ldc 113, 2) := by decide +kernel
theorem dX6_remove_17 : decode cX6_remove 17 = .ok (.invokespecial 66, 3) := by decide +kernel
theorem dX6_remove_20 : decode cX6_remove 20 = .ok (.athrow, 1) := by decide +kernel
theorem dX6_remove_21 : decode cX6_remove 21 = .ok (.aload_n 0, 1) := by decide +kernel
theorem dX6_remove_22 : decode cX6_remove 22 = .ok (.getfield 12, 3) := by decide +kernel
theorem dX6_remove_25 : decode cX6_remove 25 = .ok (.iload_n 1, 1) := by decide +kernel
theorem dX6_remove_26 : decode cX6_remove 26 = .ok (.invokevirtual 115, 3) := by decide +kernel
theorem dX6_remove_29 : decode cX6_remove 29 = .ok (.ifCond .eq 13, 3) := by decide +kernel
theorem dX6_remove_32 : decode cX6_remove 32 = .ok (.new 89, 3) := by decide +kernel
theorem dX6_remove_35 : decode cX6_remove 35 = .ok (.dup, 1) := by decide +kernel
theorem dX6_remove_36 : decode cX6_remove 36 = .ok (.ldc 118, 2) := by decide +kernel
theorem dX6_remove_38 : decode cX6_remove 38 = .ok (.invokespecial 93, 3) := by decide +kernel
theorem dX6_remove_41 : decode cX6_remove 41 = .ok (.athrow, 1) := by decide +kernel
theorem dX6_remove_42 : decode cX6_remove 42 = .ok (.aload_n 0, 1) := by decide +kernel
theorem dX6_remove_43 : decode cX6_remove 43 = .ok (.getfield 16, 3) := by decide +kernel
theorem dX6_remove_46 : decode cX6_remove 46 = .ok (.aload_n 0, 1) := by decide +kernel
theorem dX6_remove_47 : decode cX6_remove 47 = .ok (.getfield 12, 3) := by decide +kernel
theorem dX6_remove_50 : decode cX6_remove 50 = .ok (.invokevirtual 94, 3) := by decide +kernel
theorem dX6_remove_53 : decode cX6_remove 53 = .ok (.aload_n 0, 1) := by decide +kernel
theorem dX6_remove_54 : decode cX6_remove 54 = .ok (.getfield 16, 3) := by decide +kernel
theorem dX6_remove_57 : decode cX6_remove 57 = .ok (.iload_n 1, 1) := by decide +kernel
theorem dX6_remove_58 : decode cX6_remove 58 = .ok (.invokevirtual 120, 3) := by decide +kernel
theorem dX6_remove_61 : decode cX6_remove 61 = .ok (.aload_n 0, 1) := by decide +kernel
theorem dX6_remove_62 : decode cX6_remove 62 = .ok (.invokevirtual 107, 3) := by decide +kernel
theorem dX6_remove_65 : decode cX6_remove 65 = .ok (.aload_n 0, 1) := by decide +kernel
theorem dX6_remove_66 : decode cX6_remove 66 = .ok (.getfield 12, 3) := by decide +kernel
theorem dX6_remove_69 : decode cX6_remove 69 = .ok (.getfield 59, 3) := by decide +kernel
theorem dX6_remove_72 : decode cX6_remove 72 = .ok (.ireturn, 1) := by decide +kernel
set_option maxRecDepth 20000 in
theorem ggX6_setLength_X5_has : GoodIn wsX6_setLength wsX5_has := goodIn_r _ [11, 12, 13, 14, 15, 219, 220, 221, 222, 223, 224, 225, 226, 227, 228] (by decide +kernel) (by decide +kernel)
set_option maxRecDepth 20000 in
theorem gX6_setLength_X5_has : GoodIn wsX6_setLength (wsV RX6 110 RX5 yX5_has wsX5_has) := goodIn_app (goodIn_of _ (by decide +kernel)) ggX6_setLength_X5_has
set_option maxRecDepth 20000 in
theorem ggX6_setLength_X6_isLength : GoodIn wsX6_setLength wsX6_isLength := goodIn_r _ [18] (by decide +kernel) (by decide +kernel)
set_option maxRecDepth 20000 in
theorem gX6_setLength_X6_isLength : GoodIn wsX6_setLength (va_wsS RX6 73 yX6_isLength wsX6_isLength) := goodIn_app (goodIn_of _ (by decide +kernel)) ggX6_setLength_X6_isLength
set_option maxRecDepth 20000 in
theorem ggX6_setLength_X5_copyFrom : GoodIn wsX6_setLength wsX5_copyFrom := goodIn_r _ [22, 12, 23, 24, 25, 26, 27, 28, 29, 30, 31, 32, 33, 34, 35, 36, 37, 219, 220, 221, 222, 223, 224, 225, 226, 227, 228, 229] (by decide +kernel) (by decide +kernel)
set_option maxRecDepth 20000 in
theorem gX6_setLength_X5_copyFrom : GoodIn wsX6_setLength (wsV RX6 94 RX5 yX5_copyFrom wsX5_copyFrom) := goodIn_app (goodIn_of _ (by decide +kernel)) ggX6_setLength_X5_copyFrom
set_option maxRecDepth 20000 in
theorem ggX6_setLength_X3_put : GoodIn wsX6_setLength wsX3_put := goodIn_r _ [41, 37, 229] (by decide +kernel) (by decide +kernel)
set_option maxRecDepth 20000 in
theorem gX6_setLength_X3_put : GoodIn wsX6_setLength (wsV RX6 128 RX3 yX3_put wsX3_put) := goodIn_app (goodIn_of _ (by decide +kernel)) ggX6_setLength_X3_put
set_option maxRecDepth 20000 in
theorem ggX6_setLength_X6_keepDraft : GoodIn wsX6_setLength wsX6_keepDraft := goodIn_r _ [45, 46, 5, 6, 47, 48, 49, 50, 51, 52, 53, 54, 55, 56, 57, 58, 59, 60, 61, 62, 63, 64, 20, 21, 10, 22, 12, 23, 24, 25, 26, 27, 28, 29, 30, 31, 32, 33, 34, 35, 36, 37, 19, 65, 66, 67, 68, 69, 70, 71, 72, 73, 74, 75, 76, 77, 78, 79, 80, 81, 82, 83, 84, 85, 86, 87, 88, 39, 40, 41, 89, 90, 91, 92, 93, 94, 95, 96, 97, 98, 99, 100, 101, 102, 103, 104, 105, 106, 107, 108, 109, 110, 111, 112, 113, 114, 115, 116, 117, 118, 119, 120, 121, 122, 123, 124, 125, 126, 127, 128, 129, 130, 131, 132, 133, 134, 135, 136, 137, 138, 139, 140, 141, 142, 143, 144, 145, 146, 147, 148, 149, 150, 151, 152, 153, 8, 9, 11, 13, 14, 15, 154, 155, 156, 157, 158, 159, 160, 161, 162, 163, 164, 165, 166, 167, 168, 169, 170, 171, 172, 173, 174, 175, 176, 177, 178, 179, 180, 181, 182, 183, 184, 185, 186, 187, 188, 189, 190, 191, 192, 193, 194, 195, 196, 197, 198, 199, 200, 201, 202, 203, 204, 205, 206, 207, 208, 210, 211, 212, 213, 214, 215, 216, 217, 218, 230, 231, 219, 220, 221, 222, 223, 224, 225, 226, 227, 228, 229, 232, 233, 234, 235, 236, 237, 238, 239, 240, 241, 242, 243, 244, 245, 246, 247, 248, 249, 250, 251, 252, 253, 254, 255, 256, 257] (by decide +kernel) (by decide +kernel)
set_option maxRecDepth 20000 in
theorem gX6_setLength_X6_keepDraft : GoodIn wsX6_setLength (wsV RX6 107 RX6 yX6_keepDraft wsX6_keepDraft) := goodIn_app (goodIn_of _ (by decide +kernel)) ggX6_setLength_X6_keepDraft
set_option maxRecDepth 20000 in
theorem ggX6_setLength_X5_linesOf : GoodIn wsX6_setLength wsX5_linesOf := goodIn_r _ [100, 24, 25, 84, 85, 86, 35, 87, 37, 101, 102, 103, 10, 104, 28, 219, 220, 221, 222, 223, 224, 225, 226, 227, 228, 229] (by decide +kernel) (by decide +kernel)
set_option maxRecDepth 20000 in
theorem gX6_setLength_X5_linesOf : GoodIn wsX6_setLength (wsV RX6 132 RX5 yX5_linesOf wsX5_linesOf) := goodIn_app (goodIn_of _ (by decide +kernel)) ggX6_setLength_X5_linesOf
theorem dX6_setLength_0 : decode cX6_setLength 0 = .ok (.aload_n 0, 1) := by decide +kernel
theorem dX6_setLength_1 : decode cX6_setLength 1 = .ok (.getfield 12, 3) := by decide +kernel
theorem dX6_setLength_4 : decode cX6_setLength 4 = .ok (.iload_n 1, 1) := by decide +kernel
theorem dX6_setLength_5 : decode cX6_setLength 5 = .ok (.invokevirtual 110, 3) := by decide +kernel
theorem dX6_setLength_8 : decode cX6_setLength 8 = .ok (.ifCond .ne 13, 3) := by decide +kernel
theorem dX6_setLength_11 : decode cX6_setLength 11 = .ok (.new 62, 3) := by decide +kernel
theorem dX6_setLength_14 : decode cX6_setLength 14 = .ok (.dup, 1) := by decide +kernel
theorem dX6_setLength_15 : decode cX6_setLength 15 = .ok (.ldc 113, 2) := by decide +kernel
theorem dX6_setLength_17 : decode cX6_setLength 17 = .ok (.invokespecial 66, 3) := by decide +kernel
theorem dX6_setLength_20 : decode cX6_setLength 20 = .ok (.athrow, 1) := by decide +kernel
theorem dX6_setLength_21 : decode cX6_setLength 21 = .ok (.iload_n 2, 1) := by decide +kernel
theorem dX6_setLength_22 : decode cX6_setLength 22 = .ok (.invokestatic 73, 3) := by decide +kernel
theorem dX6_setLength_25 : decode cX6_setLength 25 = .ok (.ifCond .ne 13, 3) := by decide +kernel
theorem dX6_setLength_28 : decode cX6_setLength 28 = .ok (.new 80, 3) := by decide +kernel
theorem dX6_setLength_31 : decode cX6_setLength 31 = .ok (.dup, 1) := by decide +kernel
theorem dX6_setLength_32 : decode cX6_setLength 32 = .ok (.ldc 123, 2) := by decide +kernel
theorem dX6_setLength_34 : decode cX6_setLength 34 = .ok (.invokespecial 84, 3) := by decide +kernel
theorem dX6_setLength_37 : decode cX6_setLength 37 = .ok (.athrow, 1) := by decide +kernel
theorem dX6_setLength_38 : decode cX6_setLength 38 = .ok (.aload_n 0, 1) := by decide +kernel
theorem dX6_setLength_39 : decode cX6_setLength 39 = .ok (.getfield 16, 3) := by decide +kernel
theorem dX6_setLength_42 : decode cX6_setLength 42 = .ok (.aload_n 0, 1) := by decide +kernel
theorem dX6_setLength_43 : decode cX6_setLength 43 = .ok (.getfield 12, 3) := by decide +kernel
theorem dX6_setLength_46 : decode cX6_setLength 46 = .ok (.invokevirtual 94, 3) := by decide +kernel
theorem dX6_setLength_49 : decode cX6_setLength 49 = .ok (.aload_n 0, 1) := by decide +kernel
theorem dX6_setLength_50 : decode cX6_setLength 50 = .ok (.getfield 16, 3) := by decide +kernel
theorem dX6_setLength_53 : decode cX6_setLength 53 = .ok (.getfield 125, 3) := by decide +kernel
theorem dX6_setLength_56 : decode cX6_setLength 56 = .ok (.iload_n 1, 1) := by decide +kernel
theorem dX6_setLength_57 : decode cX6_setLength 57 = .ok (.iload_n 2, 1) := by decide +kernel
theorem dX6_setLength_58 : decode cX6_setLength 58 = .ok (.invokevirtual 128, 3) := by decide +kernel
theorem dX6_setLength_61 : decode cX6_setLength 61 = .ok (.aload_n 0, 1) := by decide +kernel
theorem dX6_setLength_62 : decode cX6_setLength 62 = .ok (.invokevirtual 107, 3) := by decide +kernel
theorem dX6_setLength_65 : decode cX6_setLength 65 = .ok (.aload_n 0, 1) := by decide +kernel
theorem dX6_setLength_66 : decode cX6_setLength 66 = .ok (.getfield 12, 3) := by decide +kernel
theorem dX6_setLength_69 : decode cX6_setLength 69 = .ok (.iload_n 1, 1) := by decide +kernel
theorem dX6_setLength_70 : decode cX6_setLength 70 = .ok (.invokevirtual 132, 3) := by decide +kernel
theorem dX6_setLength_73 : decode cX6_setLength 73 = .ok (.ireturn, 1) := by decide +kernel
set_option maxRecDepth 20000 in
theorem ggX6_setPage_X6_isPageLines : GoodIn wsX6_setPage wsX6_isPageLines := goodIn_r _ [8] (by decide +kernel) (by decide +kernel)
set_option maxRecDepth 20000 in
theorem gX6_setPage_X6_isPageLines : GoodIn wsX6_setPage (va_wsS RX6 136 yX6_isPageLines wsX6_isPageLines) := goodIn_app (goodIn_of _ (by decide +kernel)) ggX6_setPage_X6_isPageLines
set_option maxRecDepth 20000 in
theorem ggX6_setPage_X5_copyFrom : GoodIn wsX6_setPage wsX5_copyFrom := goodIn_r _ [13, 14, 15, 16, 17, 18, 19, 20, 21, 22, 23, 24, 25, 26, 27, 28, 29, 214, 215, 216, 217, 218, 219, 220, 221, 222, 223, 224] (by decide +kernel) (by decide +kernel)
set_option maxRecDepth 20000 in
theorem gX6_setPage_X5_copyFrom : GoodIn wsX6_setPage (wsV RX6 94 RX5 yX5_copyFrom wsX5_copyFrom) := goodIn_app (goodIn_of _ (by decide +kernel)) ggX6_setPage_X5_copyFrom
set_option maxRecDepth 20000 in
theorem ggX6_setPage_X6_keepDraft : GoodIn wsX6_setPage wsX6_keepDraft := goodIn_r _ [33, 34, 3, 4, 35, 36, 37, 38, 39, 40, 41, 42, 43, 44, 45, 46, 47, 48, 49, 50, 51, 52, 10, 11, 12, 13, 14, 15, 16, 17, 18, 19, 20, 21, 22, 23, 24, 25, 26, 27, 28, 29, 9, 53, 54, 55, 56, 57, 58, 59, 60, 61, 62, 63, 64, 65, 66, 67, 68, 69, 70, 71, 72, 73, 74, 75, 76, 77, 78, 79, 80, 81, 82, 83, 84, 85, 86, 87, 88, 89, 90, 91, 92, 93, 94, 95, 96, 97, 98, 99, 100, 101, 102, 103, 104, 105, 106, 107, 108, 109, 110, 111, 112, 113, 114, 115, 116, 117, 118, 119, 120, 121, 122, 123, 124, 125, 126, 127, 128, 129, 130, 131, 132, 133, 134, 135, 136, 137, 138, 139, 140, 141, 142, 143, 144, 145, 146, 147, 148, 7, 149, 150, 151, 152, 153, 154, 155, 156, 157, 158, 159, 160, 161, 162, 163, 164, 165, 166, 167, 168, 169, 170, 171, 172, 173, 174, 175, 176, 177, 178, 179, 180, 181, 182, 183, 184, 185, 186, 187, 188, 189, 190, 191, 192, 193, 194, 195, 196, 197, 198, 199, 200, 201, 202, 203, 204, 205, 206, 207, 208, 209, 210, 211, 212, 213, 225, 226, 214, 215, 216, 217, 218, 219, 220, 221, 222, 223, 224, 227, 228, 229, 230, 231, 232, 233, 234, 235, 236, 237, 238, 239, 240, 241, 242, 243, 244, 245, 246, 247, 248, 249, 250, 251, 252] (by decide +kernel) (by decide +kernel)
set_option maxRecDepth 20000 in
theorem gX6_setPage_X6_keepDraft : GoodIn wsX6_setPage (wsV RX6 107 RX6 yX6_keepDraft wsX6_keepDraft) := goodIn_app (goodIn_of _ (by decide +kernel)) ggX6_setPage_X6_keepDraft
theorem dX6_setPage_0 : decode cX6_setPage 0 = .ok (.iload_n 1, 1) := by decide +kernel
theorem dX6_setPage_1 : decode cX6_setPage 1 = .ok (.invokestatic 136, 3) := by decide +kernel
theorem dX6_setPage_4 : decode cX6_setPage 4 = .ok (.ifCond .ne 13, 3) := by decide +kernel
theorem dX6_setPage_7 : decode cX6_setPage 7 = .ok (.new 80, 3) := by decide +kernel
theorem dX6_setPage_10 : decode cX6_setPage 10 = .ok (.dup, 1) := by decide +kernel
theorem dX6_setPage_11 : decode cX6_setPage 11 = .ok (.ldc 139, 2) := by decide +kernel
theorem dX6_setPage_13 : decode cX6_setPage 13 = .ok (.invokespecial 84, 3) := by decide +kernel
theorem dX6_setPage_16 : decode cX6_setPage 16 = .ok (.athrow, 1) := by decide +kernel
theorem dX6_setPage_17 : decode cX6_setPage 17 = .ok (.aload_n 0, 1) := by decide +kernel
theorem dX6_setPage_18 : decode cX6_setPage 18 = .ok (.getfield 12, 3) := by decide +kernel
theorem dX6_setPage_21 : decode cX6_setPage 21 = .ok (.getfield 141, 3) := by decide +kernel
theorem dX6_setPage_24 : decode cX6_setPage 24 = .ok (.istore_n 2, 1) := by decide +kernel
theorem dX6_setPage_25 : decode cX6_setPage 25 = .ok (.aload_n 0, 1) := by decide +kernel
theorem dX6_setPage_26 : decode cX6_setPage 26 = .ok (.getfield 16, 3) := by decide +kernel
theorem dX6_setPage_29 : decode cX6_setPage 29 = .ok (.aload_n 0, 1) := by decide +kernel
theorem dX6_setPage_30 : decode cX6_setPage 30 = .ok (.getfield 12, 3) := by decide +kernel
theorem dX6_setPage_33 : decode cX6_setPage 33 = .ok (.invokevirtual 94, 3) := by decide +kernel
theorem dX6_setPage_36 : decode cX6_setPage 36 = .ok (.aload_n 0, 1) := by decide +kernel
theorem dX6_setPage_37 : decode cX6_setPage 37 = .ok (.getfield 16, 3) := by decide +kernel
theorem dX6_setPage_40 : decode cX6_setPage 40 = .ok (.iload_n 1, 1) := by decide +kernel
theorem dX6_setPage_41 : decode cX6_setPage 41 = .ok (.putfield 141, 3) := by decide +kernel
theorem dX6_setPage_44 : decode cX6_setPage 44 = .ok (.aload_n 0, 1) := by decide +kernel
theorem dX6_setPage_45 : decode cX6_setPage 45 = .ok (.invokevirtual 107, 3) := by decide +kernel
theorem dX6_setPage_48 : decode cX6_setPage 48 = .ok (.iload_n 2, 1) := by decide +kernel
theorem dX6_setPage_49 : decode cX6_setPage 49 = .ok (.ireturn, 1) := by decide +kernel
set_option maxRecDepth 20000 in
theorem ggX6_lockScenes_X5_copyFrom : GoodIn wsX6_lockScenes wsX5_copyFrom := goodIn_r _ [8, 9, 10, 11, 12, 13, 14, 15, 16, 17, 18, 19, 20, 21, 22, 23, 24, 228, 229, 230, 231, 232, 233, 234, 235, 236, 237, 238] (by decide +kernel) (by decide +kernel)
set_option maxRecDepth 20000 in
theorem gX6_lockScenes_X5_copyFrom : GoodIn wsX6_lockScenes (wsV RX6 94 RX5 yX5_copyFrom wsX5_copyFrom) := goodIn_app (goodIn_of _ (by decide +kernel)) ggX6_lockScenes_X5_copyFrom
set_option maxRecDepth 20000 in
theorem ggX6_lockScenes_X3_at : GoodIn wsX6_lockScenes wsX3_at := goodIn_r _ [28, 24, 238] (by decide +kernel) (by decide +kernel)
set_option maxRecDepth 20000 in
theorem gX6_lockScenes_X3_at : GoodIn wsX6_lockScenes (wsV RX6 150 RX3 yX3_at wsX3_at) := goodIn_app (goodIn_of _ (by decide +kernel)) ggX6_lockScenes_X3_at
set_option maxRecDepth 20000 in
theorem ggX6_lockScenes_X5_isLocked : GoodIn wsX6_lockScenes wsX5_isLocked := goodIn_r _ [32, 15, 33, 26, 27, 22, 28, 24, 228, 229, 230, 231, 232, 233, 234, 235, 236, 237, 238] (by decide +kernel) (by decide +kernel)
set_option maxRecDepth 20000 in
theorem gX6_lockScenes_X5_isLocked : GoodIn wsX6_lockScenes (wsV RX6 115 RX5 yX5_isLocked wsX5_isLocked) := goodIn_app (goodIn_of _ (by decide +kernel)) ggX6_lockScenes_X5_isLocked
set_option maxRecDepth 20000 in
theorem ggX6_lockScenes_X5_lock : GoodIn wsX6_lockScenes wsX5_lock := goodIn_r _ [37, 15, 16, 17, 18, 38, 39, 40, 22, 41, 24, 228, 229, 230, 231, 232, 233, 234, 235, 236, 237, 238] (by decide +kernel) (by decide +kernel)
set_option maxRecDepth 20000 in
theorem gX6_lockScenes_X5_lock : GoodIn wsX6_lockScenes (wsV RX6 162 RX5 yX5_lock wsX5_lock) := goodIn_app (goodIn_of _ (by decide +kernel)) ggX6_lockScenes_X5_lock
set_option maxRecDepth 20000 in
theorem ggX6_lockScenes_X6_keepDraft : GoodIn wsX6_lockScenes wsX6_keepDraft := goodIn_r _ [46, 47, 2, 1, 3, 48, 49, 50, 51, 52, 53, 54, 55, 56, 57, 58, 59, 60, 61, 62, 63, 64, 5, 6, 7, 8, 9, 10, 11, 12, 13, 14, 15, 16, 17, 18, 19, 20, 21, 22, 23, 24, 4, 65, 66, 67, 68, 69, 70, 71, 72, 73, 74, 75, 76, 77, 78, 79, 80, 81, 82, 83, 33, 26, 27, 28, 84, 39, 40, 41, 85, 30, 31, 32, 86, 87, 88, 89, 90, 91, 92, 93, 94, 95, 96, 97, 98, 99, 100, 101, 102, 103, 104, 105, 106, 107, 108, 109, 110, 111, 112, 113, 114, 115, 116, 117, 118, 119, 120, 121, 122, 123, 124, 125, 126, 127, 128, 129, 130, 131, 132, 133, 134, 135, 136, 137, 138, 139, 140, 141, 142, 143, 144, 145, 146, 147, 148, 149, 150, 45, 151, 152, 153, 154, 155, 156, 157, 158, 159, 160, 161, 162, 163, 164, 165, 166, 167, 168, 169, 170, 171, 172, 173, 174, 175, 176, 177, 178, 179, 180, 181, 182, 183, 184, 185, 186, 187, 188, 189, 190, 191, 192, 193, 194, 195, 196, 197, 198, 199, 200, 201, 202, 203, 204, 205, 206, 207, 208, 209, 210, 211, 212, 213, 214, 215, 239, 240, 228, 229, 230, 231, 232, 233, 234, 235, 236, 237, 238, 216, 217, 218, 219, 220, 221, 222, 223, 224, 225, 226, 227, 241, 242, 243, 244, 245, 246, 247, 248, 249, 250, 251, 252, 253, 254] (by decide +kernel) (by decide +kernel)
set_option maxRecDepth 20000 in
theorem gX6_lockScenes_X6_keepDraft : GoodIn wsX6_lockScenes (wsV RX6 107 RX6 yX6_keepDraft wsX6_keepDraft) := goodIn_app (goodIn_of _ (by decide +kernel)) ggX6_lockScenes_X6_keepDraft
theorem dX6_lockScenes_0 : decode cX6_lockScenes 0 = .ok (.aload_n 0, 1) := by decide +kernel
theorem dX6_lockScenes_1 : decode cX6_lockScenes 1 = .ok (.getfield 16, 3) := by decide +kernel
theorem dX6_lockScenes_4 : decode cX6_lockScenes 4 = .ok (.aload_n 0, 1) := by decide +kernel
theorem dX6_lockScenes_5 : decode cX6_lockScenes 5 = .ok (.getfield 12, 3) := by decide +kernel
theorem dX6_lockScenes_8 : decode cX6_lockScenes 8 = .ok (.invokevirtual 94, 3) := by decide +kernel
theorem dX6_lockScenes_11 : decode cX6_lockScenes 11 = .ok (.iconst 0, 1) := by decide +kernel
theorem dX6_lockScenes_12 : decode cX6_lockScenes 12 = .ok (.istore_n 1, 1) := by decide +kernel
theorem dX6_lockScenes_13 : decode cX6_lockScenes 13 = .ok (.iconst 0, 1) := by decide +kernel
theorem dX6_lockScenes_14 : decode cX6_lockScenes 14 = .ok (.istore_n 2, 1) := by decide +kernel
theorem dX6_lockScenes_15 : decode cX6_lockScenes 15 = .ok (.iload_n 2, 1) := by decide +kernel
theorem dX6_lockScenes_16 : decode cX6_lockScenes 16 = .ok (.aload_n 0, 1) := by decide +kernel
theorem dX6_lockScenes_17 : decode cX6_lockScenes 17 = .ok (.getfield 22, 3) := by decide +kernel
theorem dX6_lockScenes_20 : decode cX6_lockScenes 20 = .ok (.getfield 144, 3) := by decide +kernel
theorem dX6_lockScenes_23 : decode cX6_lockScenes 23 = .ok (.if_icmp .ge 76, 3) := by decide +kernel
theorem dX6_lockScenes_26 : decode cX6_lockScenes 26 = .ok (.aload_n 0, 1) := by decide +kernel
theorem dX6_lockScenes_27 : decode cX6_lockScenes 27 = .ok (.getfield 22, 3) := by decide +kernel
theorem dX6_lockScenes_30 : decode cX6_lockScenes 30 = .ok (.getfield 147, 3) := by decide +kernel
theorem dX6_lockScenes_33 : decode cX6_lockScenes 33 = .ok (.iload_n 2, 1) := by decide +kernel
theorem dX6_lockScenes_34 : decode cX6_lockScenes 34 = .ok (.invokevirtual 150, 3) := by decide +kernel
theorem dX6_lockScenes_37 : decode cX6_lockScenes 37 = .ok (.istore_n 3, 1) := by decide +kernel
theorem dX6_lockScenes_38 : decode cX6_lockScenes 38 = .ok (.aload_n 0, 1) := by decide +kernel
theorem dX6_lockScenes_39 : decode cX6_lockScenes 39 = .ok (.getfield 12, 3) := by decide +kernel
theorem dX6_lockScenes_42 : decode cX6_lockScenes 42 = .ok (.iload_n 3, 1) := by decide +kernel
theorem dX6_lockScenes_43 : decode cX6_lockScenes 43 = .ok (.invokevirtual 115, 3) := by decide +kernel
theorem dX6_lockScenes_46 : decode cX6_lockScenes 46 = .ok (.ifCond .ne 47, 3) := by decide +kernel
theorem dX6_lockScenes_49 : decode cX6_lockScenes 49 = .ok (.aload_n 0, 1) := by decide +kernel
theorem dX6_lockScenes_50 : decode cX6_lockScenes 50 = .ok (.getfield 16, 3) := by decide +kernel
theorem dX6_lockScenes_53 : decode cX6_lockScenes 53 = .ok (.iload_n 3, 1) := by decide +kernel
theorem dX6_lockScenes_54 : decode cX6_lockScenes 54 = .ok (.aload_n 0, 1) := by decide +kernel
theorem dX6_lockScenes_55 : decode cX6_lockScenes 55 = .ok (.getfield 22, 3) := by decide +kernel
theorem dX6_lockScenes_58 : decode cX6_lockScenes 58 = .ok (.getfield 153, 3) := by decide +kernel
theorem dX6_lockScenes_61 : decode cX6_lockScenes 61 = .ok (.iload_n 2, 1) := by decide +kernel
theorem dX6_lockScenes_62 : decode cX6_lockScenes 62 = .ok (.invokevirtual 150, 3) := by decide +kernel
theorem dX6_lockScenes_65 : decode cX6_lockScenes 65 = .ok (.aload_n 0, 1) := by decide +kernel
theorem dX6_lockScenes_66 : decode cX6_lockScenes 66 = .ok (.getfield 22, 3) := by decide +kernel
theorem dX6_lockScenes_69 : decode cX6_lockScenes 69 = .ok (.getfield 156, 3) := by decide +kernel
theorem dX6_lockScenes_72 : decode cX6_lockScenes 72 = .ok (.iload_n 2, 1) := by decide +kernel
theorem dX6_lockScenes_73 : decode cX6_lockScenes 73 = .ok (.invokevirtual 150, 3) := by decide +kernel
theorem dX6_lockScenes_76 : decode cX6_lockScenes 76 = .ok (.aload_n 0, 1) := by decide +kernel
theorem dX6_lockScenes_77 : decode cX6_lockScenes 77 = .ok (.getfield 22, 3) := by decide +kernel
theorem dX6_lockScenes_80 : decode cX6_lockScenes 80 = .ok (.getfield 159, 3) := by decide +kernel
theorem dX6_lockScenes_83 : decode cX6_lockScenes 83 = .ok (.iload_n 2, 1) := by decide +kernel
theorem dX6_lockScenes_84 : decode cX6_lockScenes 84 = .ok (.invokevirtual 150, 3) := by decide +kernel
theorem dX6_lockScenes_87 : decode cX6_lockScenes 87 = .ok (.invokevirtual 162, 3) := by decide +kernel
theorem dX6_lockScenes_90 : decode cX6_lockScenes 90 = .ok (.iinc 1 1, 3) := by decide +kernel
theorem dX6_lockScenes_93 : decode cX6_lockScenes 93 = .ok (.iinc 2 1, 3) := by decide +kernel
theorem dX6_lockScenes_96 : decode cX6_lockScenes 96 = .ok (.goto (-81), 3) := by decide +kernel
theorem dX6_lockScenes_99 : decode cX6_lockScenes 99 = .ok (.aload_n 0, 1) := by decide +kernel
theorem dX6_lockScenes_100 : decode cX6_lockScenes 100 = .ok (.invokevirtual 107, 3) := by decide +kernel
theorem dX6_lockScenes_103 : decode cX6_lockScenes 103 = .ok (.iload_n 1, 1) := by decide +kernel
theorem dX6_lockScenes_104 : decode cX6_lockScenes 104 = .ok (.ireturn, 1) := by decide +kernel
set_option maxRecDepth 20000 in
theorem ggX6_omit_X4_has : GoodIn wsX6_omit wsX4_has := goodIn_r _ [12, 13, 14, 15, 16, 234, 235, 236, 237, 238, 239, 240, 241, 242, 243, 244, 245] (by decide +kernel) (by decide +kernel)
set_option maxRecDepth 20000 in
theorem gX6_omit_X4_has : GoodIn wsX6_omit (wsV RX6 165 RX4 yX4_has wsX4_has) := goodIn_app (goodIn_of _ (by decide +kernel)) ggX6_omit_X4_has
set_option maxRecDepth 20000 in
theorem ggX6_omit_X3_at : GoodIn wsX6_omit wsX3_at := goodIn_r _ [21, 22, 246] (by decide +kernel) (by decide +kernel)
set_option maxRecDepth 20000 in
theorem gX6_omit_X3_at : GoodIn wsX6_omit (wsV RX6 150 RX3 yX3_at wsX3_at) := goodIn_app (goodIn_of _ (by decide +kernel)) ggX6_omit_X3_at
set_option maxRecDepth 20000 in
theorem ggX6_omit_X5_isLocked : GoodIn wsX6_omit wsX5_isLocked := goodIn_r _ [27, 28, 29, 18, 19, 20, 21, 22, 247, 248, 249, 250, 251, 252, 253, 254, 255, 256, 246] (by decide +kernel) (by decide +kernel)
set_option maxRecDepth 20000 in
theorem gX6_omit_X5_isLocked : GoodIn wsX6_omit (wsV RX6 115 RX5 yX5_isLocked wsX5_isLocked) := goodIn_app (goodIn_of _ (by decide +kernel)) ggX6_omit_X5_isLocked
set_option maxRecDepth 20000 in
theorem ggX6_omit_X5_isOmitted : GoodIn wsX6_omit wsX5_isOmitted := goodIn_r _ [33, 28, 29, 18, 19, 20, 21, 22, 247, 248, 249, 250, 251, 252, 253, 254, 255, 256, 246] (by decide +kernel) (by decide +kernel)
set_option maxRecDepth 20000 in
theorem gX6_omit_X5_isOmitted : GoodIn wsX6_omit (wsV RX6 168 RX5 yX5_isOmitted wsX5_isOmitted) := goodIn_app (goodIn_of _ (by decide +kernel)) ggX6_omit_X5_isOmitted
set_option maxRecDepth 20000 in
theorem ggX6_omit_X5_copyFrom : GoodIn wsX6_omit wsX5_copyFrom := goodIn_r _ [37, 38, 39, 40, 41, 42, 43, 28, 44, 45, 46, 47, 48, 49, 20, 50, 22, 247, 248, 249, 250, 251, 252, 253, 254, 255, 256, 246] (by decide +kernel) (by decide +kernel)
set_option maxRecDepth 20000 in
theorem gX6_omit_X5_copyFrom : GoodIn wsX6_omit (wsV RX6 94 RX5 yX5_copyFrom wsX5_copyFrom) := goodIn_app (goodIn_of _ (by decide +kernel)) ggX6_omit_X5_copyFrom
set_option maxRecDepth 20000 in
theorem ggX6_omit_X5_takeOut : GoodIn wsX6_omit wsX5_takeOut := goodIn_r _ [54, 43, 40, 41, 42, 28, 44, 45, 46, 38, 55, 56, 57, 26, 58, 14, 15, 16, 29, 18, 19, 20, 21, 22, 59, 60, 61, 62, 63, 64, 65, 66, 247, 248, 249, 250, 251, 252, 253, 254, 255, 256, 246] (by decide +kernel) (by decide +kernel)
set_option maxRecDepth 20000 in
theorem gX6_omit_X5_takeOut : GoodIn wsX6_omit (wsV RX6 120 RX5 yX5_takeOut wsX5_takeOut) := goodIn_app (goodIn_of _ (by decide +kernel)) ggX6_omit_X5_takeOut
set_option maxRecDepth 20000 in
theorem ggX6_omit_X5_markOmitted : GoodIn wsX6_omit wsX5_markOmitted := goodIn_r _ [70, 28, 63, 64, 65, 20, 66, 22, 247, 248, 249, 250, 251, 252, 253, 254, 255, 256, 246] (by decide +kernel) (by decide +kernel)
set_option maxRecDepth 20000 in
theorem gX6_omit_X5_markOmitted : GoodIn wsX6_omit (wsV RX6 176 RX5 yX5_markOmitted wsX5_markOmitted) := goodIn_app (goodIn_of _ (by decide +kernel)) ggX6_omit_X5_markOmitted
set_option maxRecDepth 20000 in
theorem ggX6_omit_X6_keepDraft : GoodIn wsX6_omit wsX6_keepDraft := goodIn_r _ [74, 75, 6, 7, 5, 76, 77, 78, 79, 80, 81, 82, 83, 84, 85, 86, 87, 88, 89, 90, 91, 92, 35, 36, 26, 37, 38, 39, 40, 41, 42, 43, 28, 44, 45, 46, 47, 48, 49, 20, 50, 22, 34, 93, 94, 95, 11, 96, 97, 98, 99, 100, 13, 101, 102, 103, 104, 105, 106, 107, 108, 109, 29, 18, 19, 21, 110, 64, 65, 66, 111, 24, 25, 27, 112, 113, 114, 115, 116, 117, 118, 119, 120, 31, 32, 33, 121, 122, 123, 124, 125, 126, 127, 128, 129, 130, 131, 132, 133, 134, 135, 136, 137, 138, 139, 140, 141, 142, 143, 144, 145, 146, 147, 148, 149, 150, 151, 152, 153, 154, 155, 156, 157, 158, 159, 160, 161, 162, 163, 164, 165, 166, 167, 168, 169, 56, 57, 58, 14, 15, 16, 170, 171, 172, 173, 174, 175, 176, 177, 178, 179, 180, 181, 182, 183, 184, 185, 186, 187, 188, 189, 190, 191, 192, 193, 194, 195, 196, 197, 198, 199, 200, 201, 202, 203, 204, 205, 206, 207, 208, 209, 210, 211, 212, 213, 214, 215, 216, 217, 218, 219, 220, 221, 222, 223, 224, 225, 226, 227, 228, 229, 230, 231, 232, 233, 257, 258, 247, 248, 249, 250, 251, 252, 253, 254, 255, 256, 246, 234, 235, 236, 237, 238, 239, 240, 241, 242, 243, 244, 245, 259, 260, 261, 262, 263, 264, 265, 266, 267, 268, 269, 270, 271, 272] (by decide +kernel) (by decide +kernel)
set_option maxRecDepth 20000 in
theorem gX6_omit_X6_keepDraft : GoodIn wsX6_omit (wsV RX6 107 RX6 yX6_keepDraft wsX6_keepDraft) := goodIn_app (goodIn_of _ (by decide +kernel)) ggX6_omit_X6_keepDraft
theorem dX6_omit_0 : decode cX6_omit 0 = .ok (.aload_n 0, 1) := by decide +kernel
theorem dX6_omit_1 : decode cX6_omit 1 = .ok (.getfield 22, 3) := by decide +kernel
theorem dX6_omit_4 : decode cX6_omit 4 = .ok (.iload_n 1, 1) := by decide +kernel
theorem dX6_omit_5 : decode cX6_omit 5 = .ok (.invokevirtual 165, 3) := by decide +kernel
theorem dX6_omit_8 : decode cX6_omit 8 = .ok (.ifCond .ne 13, 3) := by decide +kernel
theorem dX6_omit_11 : decode cX6_omit 11 = .ok (.new 62, 3) := by decide +kernel
theorem dX6_omit_14 : decode cX6_omit 14 = .ok (.dup, 1) := by decide +kernel
theorem dX6_omit_15 : decode cX6_omit 15 = .ok (.ldc 166, 2) := by decide +kernel
theorem dX6_omit_17 : decode cX6_omit 17 = .ok (.invokespecial 66, 3) := by decide +kernel
theorem dX6_omit_20 : decode cX6_omit 20 = .ok (.athrow, 1) := by decide +kernel
theorem dX6_omit_21 : decode cX6_omit 21 = .ok (.aload_n 0, 1) := by decide +kernel
theorem dX6_omit_22 : decode cX6_omit 22 = .ok (.getfield 22, 3) := by decide +kernel
theorem dX6_omit_25 : decode cX6_omit 25 = .ok (.getfield 147, 3) := by decide +kernel
theorem dX6_omit_28 : decode cX6_omit 28 = .ok (.iload_n 1, 1) := by decide +kernel
theorem dX6_omit_29 : decode cX6_omit 29 = .ok (.invokevirtual 150, 3) := by decide +kernel
theorem dX6_omit_32 : decode cX6_omit 32 = .ok (.istore_n 2, 1) := by decide +kernel
theorem dX6_omit_33 : decode cX6_omit 33 = .ok (.aload_n 0, 1) := by decide +kernel
theorem dX6_omit_34 : decode cX6_omit 34 = .ok (.getfield 12, 3) := by decide +kernel
theorem dX6_omit_37 : decode cX6_omit 37 = .ok (.iload_n 2, 1) := by decide +kernel
theorem dX6_omit_38 : decode cX6_omit 38 = .ok (.invokevirtual 115, 3) := by decide +kernel
theorem dX6_omit_41 : decode cX6_omit 41 = .ok (.ifCond .eq 14, 3) := by decide +kernel
theorem dX6_omit_44 : decode cX6_omit 44 = .ok (.aload_n 0, 1) := by decide +kernel
theorem dX6_omit_45 : decode cX6_omit 45 = .ok (.getfield 12, 3) := by decide +kernel
theorem dX6_omit_48 : decode cX6_omit 48 = .ok (.iload_n 2, 1) := by decide +kernel
theorem dX6_omit_49 : decode cX6_omit 49 = .ok (.invokevirtual 168, 3) := by decide +kernel
theorem dX6_omit_52 : decode cX6_omit 52 = .ok (.ifCond .eq 13, 3) := by decide +kernel
theorem dX6_omit_55 : decode cX6_omit 55 = .ok (.new 89, 3) := by decide +kernel
theorem dX6_omit_58 : decode cX6_omit 58 = .ok (.dup, 1) := by decide +kernel
theorem dX6_omit_59 : decode cX6_omit 59 = .ok (.ldc 171, 2) := by decide +kernel
theorem dX6_omit_61 : decode cX6_omit 61 = .ok (.invokespecial 93, 3) := by decide +kernel
theorem dX6_omit_64 : decode cX6_omit 64 = .ok (.athrow, 1) := by decide +kernel
theorem dX6_omit_65 : decode cX6_omit 65 = .ok (.aload_n 0, 1) := by decide +kernel
theorem dX6_omit_66 : decode cX6_omit 66 = .ok (.getfield 22, 3) := by decide +kernel
theorem dX6_omit_69 : decode cX6_omit 69 = .ok (.getfield 173, 3) := by decide +kernel
theorem dX6_omit_72 : decode cX6_omit 72 = .ok (.iload_n 1, 1) := by decide +kernel
theorem dX6_omit_73 : decode cX6_omit 73 = .ok (.invokevirtual 150, 3) := by decide +kernel
theorem dX6_omit_76 : decode cX6_omit 76 = .ok (.iconst 1, 1) := by decide +kernel
theorem dX6_omit_77 : decode cX6_omit 77 = .ok (.isub, 1) := by decide +kernel
theorem dX6_omit_78 : decode cX6_omit 78 = .ok (.istore_n 3, 1) := by decide +kernel
theorem dX6_omit_79 : decode cX6_omit 79 = .ok (.aload_n 0, 1) := by decide +kernel
theorem dX6_omit_80 : decode cX6_omit 80 = .ok (.getfield 16, 3) := by decide +kernel
theorem dX6_omit_83 : decode cX6_omit 83 = .ok (.aload_n 0, 1) := by decide +kernel
theorem dX6_omit_84 : decode cX6_omit 84 = .ok (.getfield 12, 3) := by decide +kernel
theorem dX6_omit_87 : decode cX6_omit 87 = .ok (.invokevirtual 94, 3) := by decide +kernel
theorem dX6_omit_90 : decode cX6_omit 90 = .ok (.iconst 0, 1) := by decide +kernel
theorem dX6_omit_91 : decode cX6_omit 91 = .ok (.istore 4, 2) := by decide +kernel
theorem dX6_omit_93 : decode cX6_omit 93 = .ok (.iload 4, 2) := by decide +kernel
theorem dX6_omit_95 : decode cX6_omit 95 = .ok (.iload_n 3, 1) := by decide +kernel
theorem dX6_omit_96 : decode cX6_omit 96 = .ok (.if_icmp .ge 19, 3) := by decide +kernel
theorem dX6_omit_99 : decode cX6_omit 99 = .ok (.aload_n 0, 1) := by decide +kernel
theorem dX6_omit_100 : decode cX6_omit 100 = .ok (.getfield 16, 3) := by decide +kernel
theorem dX6_omit_103 : decode cX6_omit 103 = .ok (.iload_n 2, 1) := by decide +kernel
theorem dX6_omit_104 : decode cX6_omit 104 = .ok (.iconst 1, 1) := by decide +kernel
theorem dX6_omit_105 : decode cX6_omit 105 = .ok (.iadd, 1) := by decide +kernel
theorem dX6_omit_106 : decode cX6_omit 106 = .ok (.invokevirtual 120, 3) := by decide +kernel
theorem dX6_omit_109 : decode cX6_omit 109 = .ok (.iinc 4 1, 3) := by decide +kernel
theorem dX6_omit_112 : decode cX6_omit 112 = .ok (.goto (-19), 3) := by decide +kernel
theorem dX6_omit_115 : decode cX6_omit 115 = .ok (.aload_n 0, 1) := by decide +kernel
theorem dX6_omit_116 : decode cX6_omit 116 = .ok (.getfield 16, 3) := by decide +kernel
theorem dX6_omit_119 : decode cX6_omit 119 = .ok (.iload_n 2, 1) := by decide +kernel
theorem dX6_omit_120 : decode cX6_omit 120 = .ok (.invokevirtual 176, 3) := by decide +kernel
theorem dX6_omit_123 : decode cX6_omit 123 = .ok (.aload_n 0, 1) := by decide +kernel
theorem dX6_omit_124 : decode cX6_omit 124 = .ok (.invokevirtual 107, 3) := by decide +kernel
theorem dX6_omit_127 : decode cX6_omit 127 = .ok (.iload_n 3, 1) := by decide +kernel
theorem dX6_omit_128 : decode cX6_omit 128 = .ok (.ireturn, 1) := by decide +kernel
set_option maxRecDepth 20000 in
theorem ggX6_lockPages_X5_copyFrom : GoodIn wsX6_lockPages wsX5_copyFrom := goodIn_r _ [8, 9, 10, 11, 12, 13, 14, 15, 16, 17, 18, 19, 20, 21, 22, 23, 24, 211, 212, 213, 214, 215, 216, 217, 218, 219, 220, 235] (by decide +kernel) (by decide +kernel)
set_option maxRecDepth 20000 in
theorem gX6_lockPages_X5_copyFrom : GoodIn wsX6_lockPages (wsV RX6 94 RX5 yX5_copyFrom wsX5_copyFrom) := goodIn_app (goodIn_of _ (by decide +kernel)) ggX6_lockPages_X5_copyFrom
set_option maxRecDepth 20000 in
theorem ggX6_lockPages_X3_put : GoodIn wsX6_lockPages wsX3_put := goodIn_r _ [28, 24, 235] (by decide +kernel) (by decide +kernel)
set_option maxRecDepth 20000 in
theorem gX6_lockPages_X3_put : GoodIn wsX6_lockPages (wsV RX6 128 RX3 yX3_put wsX3_put) := goodIn_app (goodIn_of _ (by decide +kernel)) ggX6_lockPages_X3_put
set_option maxRecDepth 20000 in
theorem ggX6_lockPages_X3_at : GoodIn wsX6_lockPages wsX3_at := goodIn_r _ [32, 24, 235] (by decide +kernel) (by decide +kernel)
set_option maxRecDepth 20000 in
theorem gX6_lockPages_X3_at : GoodIn wsX6_lockPages (wsV RX6 150 RX3 yX3_at wsX3_at) := goodIn_app (goodIn_of _ (by decide +kernel)) ggX6_lockPages_X3_at
set_option maxRecDepth 20000 in
theorem ggX6_lockPages_X6_keepDraft : GoodIn wsX6_lockPages wsX6_keepDraft := goodIn_r _ [37, 38, 2, 1, 39, 3, 40, 41, 42, 43, 44, 45, 46, 47, 48, 49, 50, 51, 52, 53, 54, 55, 5, 6, 7, 8, 9, 10, 11, 12, 13, 14, 15, 16, 17, 18, 19, 20, 21, 22, 23, 24, 4, 56, 57, 58, 59, 60, 61, 62, 63, 64, 65, 66, 67, 68, 69, 70, 71, 72, 73, 74, 75, 30, 31, 32, 76, 26, 27, 28, 77, 78, 79, 80, 81, 82, 83, 84, 85, 86, 87, 88, 89, 90, 91, 92, 93, 94, 95, 96, 97, 98, 99, 100, 101, 102, 103, 104, 105, 106, 107, 108, 109, 110, 111, 112, 113, 114, 115, 116, 117, 118, 119, 120, 121, 122, 123, 124, 125, 126, 127, 128, 129, 130, 131, 132, 133, 134, 135, 136, 137, 138, 139, 140, 141, 142, 143, 144, 145, 36, 146, 147, 148, 149, 150, 151, 152, 153, 154, 155, 156, 157, 158, 159, 160, 161, 162, 163, 164, 165, 166, 167, 168, 169, 170, 171, 172, 173, 174, 175, 176, 177, 178, 179, 180, 181, 182, 183, 184, 185, 186, 187, 188, 189, 190, 191, 192, 193, 194, 195, 196, 197, 198, 199, 200, 201, 202, 203, 204, 205, 206, 207, 208, 209, 210, 236, 237, 211, 212, 213, 214, 215, 216, 217, 218, 219, 220, 235, 238, 239, 240, 241, 242, 243, 244, 245, 246, 247, 248, 249, 221, 222, 223, 224, 225, 226, 227, 228, 229, 230, 231, 232, 233, 234] (by decide +kernel) (by decide +kernel)
set_option maxRecDepth 20000 in
theorem gX6_lockPages_X6_keepDraft : GoodIn wsX6_lockPages (wsV RX6 107 RX6 yX6_keepDraft wsX6_keepDraft) := goodIn_app (goodIn_of _ (by decide +kernel)) ggX6_lockPages_X6_keepDraft
theorem dX6_lockPages_0 : decode cX6_lockPages 0 = .ok (.aload_n 0, 1) := by decide +kernel
theorem dX6_lockPages_1 : decode cX6_lockPages 1 = .ok (.getfield 16, 3) := by decide +kernel
theorem dX6_lockPages_4 : decode cX6_lockPages 4 = .ok (.aload_n 0, 1) := by decide +kernel
theorem dX6_lockPages_5 : decode cX6_lockPages 5 = .ok (.getfield 12, 3) := by decide +kernel
theorem dX6_lockPages_8 : decode cX6_lockPages 8 = .ok (.invokevirtual 94, 3) := by decide +kernel
theorem dX6_lockPages_11 : decode cX6_lockPages 11 = .ok (.iconst 0, 1) := by decide +kernel
theorem dX6_lockPages_12 : decode cX6_lockPages 12 = .ok (.istore_n 1, 1) := by decide +kernel
theorem dX6_lockPages_13 : decode cX6_lockPages 13 = .ok (.iload_n 1, 1) := by decide +kernel
theorem dX6_lockPages_14 : decode cX6_lockPages 14 = .ok (.aload_n 0, 1) := by decide +kernel
theorem dX6_lockPages_15 : decode cX6_lockPages 15 = .ok (.getfield 16, 3) := by decide +kernel
theorem dX6_lockPages_18 : decode cX6_lockPages 18 = .ok (.getfield 59, 3) := by decide +kernel
theorem dX6_lockPages_21 : decode cX6_lockPages 21 = .ok (.if_icmp .ge 21, 3) := by decide +kernel
theorem dX6_lockPages_24 : decode cX6_lockPages 24 = .ok (.aload_n 0, 1) := by decide +kernel
theorem dX6_lockPages_25 : decode cX6_lockPages 25 = .ok (.getfield 16, 3) := by decide +kernel
theorem dX6_lockPages_28 : decode cX6_lockPages 28 = .ok (.getfield 179, 3) := by decide +kernel
theorem dX6_lockPages_31 : decode cX6_lockPages 31 = .ok (.iload_n 1, 1) := by decide +kernel
theorem dX6_lockPages_32 : decode cX6_lockPages 32 = .ok (.iconst (-1), 1) := by decide +kernel
theorem dX6_lockPages_33 : decode cX6_lockPages 33 = .ok (.invokevirtual 128, 3) := by decide +kernel
theorem dX6_lockPages_36 : decode cX6_lockPages 36 = .ok (.iinc 1 1, 3) := by decide +kernel
theorem dX6_lockPages_39 : decode cX6_lockPages 39 = .ok (.goto (-26), 3) := by decide +kernel
theorem dX6_lockPages_42 : decode cX6_lockPages 42 = .ok (.iconst 0, 1) := by decide +kernel
theorem dX6_lockPages_43 : decode cX6_lockPages 43 = .ok (.istore_n 1, 1) := by decide +kernel
theorem dX6_lockPages_44 : decode cX6_lockPages 44 = .ok (.iconst 0, 1) := by decide +kernel
theorem dX6_lockPages_45 : decode cX6_lockPages 45 = .ok (.istore_n 2, 1) := by decide +kernel
theorem dX6_lockPages_46 : decode cX6_lockPages 46 = .ok (.iload_n 2, 1) := by decide +kernel
theorem dX6_lockPages_47 : decode cX6_lockPages 47 = .ok (.aload_n 0, 1) := by decide +kernel
theorem dX6_lockPages_48 : decode cX6_lockPages 48 = .ok (.getfield 32, 3) := by decide +kernel
theorem dX6_lockPages_51 : decode cX6_lockPages 51 = .ok (.getfield 182, 3) := by decide +kernel
theorem dX6_lockPages_54 : decode cX6_lockPages 54 = .ok (.if_icmp .ge 41, 3) := by decide +kernel
theorem dX6_lockPages_57 : decode cX6_lockPages 57 = .ok (.aload_n 0, 1) := by decide +kernel
theorem dX6_lockPages_58 : decode cX6_lockPages 58 = .ok (.getfield 32, 3) := by decide +kernel
theorem dX6_lockPages_61 : decode cX6_lockPages 61 = .ok (.getfield 183, 3) := by decide +kernel
theorem dX6_lockPages_64 : decode cX6_lockPages 64 = .ok (.iload_n 2, 1) := by decide +kernel
theorem dX6_lockPages_65 : decode cX6_lockPages 65 = .ok (.invokevirtual 150, 3) := by decide +kernel
theorem dX6_lockPages_68 : decode cX6_lockPages 68 = .ok (.istore_n 3, 1) := by decide +kernel
theorem dX6_lockPages_69 : decode cX6_lockPages 69 = .ok (.iload_n 3, 1) := by decide +kernel
theorem dX6_lockPages_70 : decode cX6_lockPages 70 = .ok (.iconst (-1), 1) := by decide +kernel
theorem dX6_lockPages_71 : decode cX6_lockPages 71 = .ok (.if_icmp .eq 18, 3) := by decide +kernel
theorem dX6_lockPages_74 : decode cX6_lockPages 74 = .ok (.iinc 1 1, 3) := by decide +kernel
theorem dX6_lockPages_77 : decode cX6_lockPages 77 = .ok (.aload_n 0, 1) := by decide +kernel
theorem dX6_lockPages_78 : decode cX6_lockPages 78 = .ok (.getfield 16, 3) := by decide +kernel
theorem dX6_lockPages_81 : decode cX6_lockPages 81 = .ok (.getfield 179, 3) := by decide +kernel
theorem dX6_lockPages_84 : decode cX6_lockPages 84 = .ok (.iload_n 3, 1) := by decide +kernel
theorem dX6_lockPages_85 : decode cX6_lockPages 85 = .ok (.iload_n 1, 1) := by decide +kernel
theorem dX6_lockPages_86 : decode cX6_lockPages 86 = .ok (.invokevirtual 128, 3) := by decide +kernel
theorem dX6_lockPages_89 : decode cX6_lockPages 89 = .ok (.iinc 2 1, 3) := by decide +kernel
theorem dX6_lockPages_92 : decode cX6_lockPages 92 = .ok (.goto (-46), 3) := by decide +kernel
theorem dX6_lockPages_95 : decode cX6_lockPages 95 = .ok (.aload_n 0, 1) := by decide +kernel
theorem dX6_lockPages_96 : decode cX6_lockPages 96 = .ok (.invokevirtual 107, 3) := by decide +kernel
theorem dX6_lockPages_99 : decode cX6_lockPages 99 = .ok (.iload_n 1, 1) := by decide +kernel
theorem dX6_lockPages_100 : decode cX6_lockPages 100 = .ok (.ireturn, 1) := by decide +kernel
set_option maxRecDepth 20000 in
theorem ggX6_value_X6_isBelow : GoodIn wsX6_value wsX6_isBelow := goodIn_r _ [6] (by decide +kernel) (by decide +kernel)
set_option maxRecDepth 20000 in
theorem gX6_value_X6_isBelow : GoodIn wsX6_value (va_wsS RX6 184 yX6_isBelow wsX6_isBelow) := goodIn_app (goodIn_of _ (by decide +kernel)) ggX6_value_X6_isBelow
set_option maxRecDepth 20000 in
theorem ggX6_value_X6_valueOf : GoodIn wsX6_value wsX6_valueOf := goodIn_r _ [10, 11, 12, 13, 14, 15, 16, 17, 18, 19, 20, 21, 22, 23, 24, 25, 26, 27, 28, 29, 30, 31, 32, 33, 34, 35, 36, 37, 38, 39, 40, 41, 42, 43, 44, 45, 46, 47, 48, 49, 50, 51, 52, 53, 54, 55, 56, 57, 58] (by decide +kernel) (by decide +kernel)
set_option maxRecDepth 20000 in
theorem gX6_value_X6_valueOf : GoodIn wsX6_value (wsV RX6 189 RX6 yX6_valueOf wsX6_valueOf) := goodIn_app (goodIn_of _ (by decide +kernel)) ggX6_value_X6_valueOf
theorem dX6_value_0 : decode cX6_value 0 = .ok (.iload_n 1, 1) := by decide +kernel
theorem dX6_value_1 : decode cX6_value 1 = .ok (.bipush 8, 2) := by decide +kernel
theorem dX6_value_3 : decode cX6_value 3 = .ok (.invokestatic 184, 3) := by decide +kernel
theorem dX6_value_6 : decode cX6_value 6 = .ok (.ifCond .ne 13, 3) := by decide +kernel
theorem dX6_value_9 : decode cX6_value 9 = .ok (.new 80, 3) := by decide +kernel
theorem dX6_value_12 : decode cX6_value 12 = .ok (.dup, 1) := by decide +kernel
theorem dX6_value_13 : decode cX6_value 13 = .ok (.ldc 187, 2) := by decide +kernel
theorem dX6_value_15 : decode cX6_value 15 = .ok (.invokespecial 84, 3) := by decide +kernel
theorem dX6_value_18 : decode cX6_value 18 = .ok (.athrow, 1) := by decide +kernel
theorem dX6_value_19 : decode cX6_value 19 = .ok (.aload_n 0, 1) := by decide +kernel
theorem dX6_value_20 : decode cX6_value 20 = .ok (.iload_n 1, 1) := by decide +kernel
theorem dX6_value_21 : decode cX6_value 21 = .ok (.invokevirtual 189, 3) := by decide +kernel
theorem dX6_value_24 : decode cX6_value 24 = .ok (.ireturn, 1) := by decide +kernel
set_option maxRecDepth 20000 in
theorem ggX6_element_X5_has : GoodIn wsX6_element wsX5_has := goodIn_r _ [10, 11, 12, 13, 14, 49, 50, 51, 52, 53, 54, 55, 56, 57, 58] (by decide +kernel) (by decide +kernel)
set_option maxRecDepth 20000 in
theorem gX6_element_X5_has : GoodIn wsX6_element (wsV RX6 110 RX5 yX5_has wsX5_has) := goodIn_app (goodIn_of _ (by decide +kernel)) ggX6_element_X5_has
set_option maxRecDepth 20000 in
theorem ggX6_element_X6_isBelow : GoodIn wsX6_element wsX6_isBelow := goodIn_r _ [14] (by decide +kernel) (by decide +kernel)
set_option maxRecDepth 20000 in
theorem gX6_element_X6_isBelow : GoodIn wsX6_element (va_wsS RX6 184 yX6_isBelow wsX6_isBelow) := goodIn_app (goodIn_of _ (by decide +kernel)) ggX6_element_X6_isBelow
set_option maxRecDepth 20000 in
theorem ggX6_element_X6_elementFact : GoodIn wsX6_element wsX6_elementFact := goodIn_r _ [19, 5, 20, 21, 22, 23, 24, 25, 26, 27, 28, 29, 30, 9, 31, 32, 33, 34, 35, 36, 37, 38, 39, 40, 41, 42, 43, 44, 45, 46, 47, 48, 49, 50, 51, 52, 53, 54, 55, 56, 57, 58, 59, 60, 61, 62, 63, 64, 65, 66, 67, 68, 69, 70, 71, 72, 73, 74, 75, 76, 77, 78, 79, 80, 81, 82, 83, 84, 85] (by decide +kernel) (by decide +kernel)
set_option maxRecDepth 20000 in
theorem gX6_element_X6_elementFact : GoodIn wsX6_element (wsV RX6 192 RX6 yX6_elementFact wsX6_elementFact) := goodIn_app (goodIn_of _ (by decide +kernel)) ggX6_element_X6_elementFact
theorem dX6_element_0 : decode cX6_element 0 = .ok (.aload_n 0, 1) := by decide +kernel
theorem dX6_element_1 : decode cX6_element 1 = .ok (.getfield 12, 3) := by decide +kernel
theorem dX6_element_4 : decode cX6_element 4 = .ok (.iload_n 1, 1) := by decide +kernel
theorem dX6_element_5 : decode cX6_element 5 = .ok (.invokevirtual 110, 3) := by decide +kernel
theorem dX6_element_8 : decode cX6_element 8 = .ok (.ifCond .ne 13, 3) := by decide +kernel
theorem dX6_element_11 : decode cX6_element 11 = .ok (.new 62, 3) := by decide +kernel
theorem dX6_element_14 : decode cX6_element 14 = .ok (.dup, 1) := by decide +kernel
theorem dX6_element_15 : decode cX6_element 15 = .ok (.ldc 113, 2) := by decide +kernel
theorem dX6_element_17 : decode cX6_element 17 = .ok (.invokespecial 66, 3) := by decide +kernel
theorem dX6_element_20 : decode cX6_element 20 = .ok (.athrow, 1) := by decide +kernel
theorem dX6_element_21 : decode cX6_element 21 = .ok (.iload_n 2, 1) := by decide +kernel
theorem dX6_element_22 : decode cX6_element 22 = .ok (.bipush 10, 2) := by decide +kernel
theorem dX6_element_24 : decode cX6_element 24 = .ok (.invokestatic 184, 3) := by decide +kernel
theorem dX6_element_27 : decode cX6_element 27 = .ok (.ifCond .ne 13, 3) := by decide +kernel
theorem dX6_element_30 : decode cX6_element 30 = .ok (.new 80, 3) := by decide +kernel
theorem dX6_element_33 : decode cX6_element 33 = .ok (.dup, 1) := by decide +kernel
theorem dX6_element_34 : decode cX6_element 34 = .ok (.ldc 187, 2) := by decide +kernel
theorem dX6_element_36 : decode cX6_element 36 = .ok (.invokespecial 84, 3) := by decide +kernel
theorem dX6_element_39 : decode cX6_element 39 = .ok (.athrow, 1) := by decide +kernel
theorem dX6_element_40 : decode cX6_element 40 = .ok (.aload_n 0, 1) := by decide +kernel
theorem dX6_element_41 : decode cX6_element 41 = .ok (.iload_n 1, 1) := by decide +kernel
theorem dX6_element_42 : decode cX6_element 42 = .ok (.iload_n 2, 1) := by decide +kernel
theorem dX6_element_43 : decode cX6_element 43 = .ok (.invokevirtual 192, 3) := by decide +kernel
theorem dX6_element_46 : decode cX6_element 46 = .ok (.ireturn, 1) := by decide +kernel
set_option maxRecDepth 20000 in
theorem ggX6_scene_X4_has : GoodIn wsX6_scene wsX4_has := goodIn_r _ [10, 11, 12, 13, 14, 52, 53, 54, 55, 56, 57, 58, 59, 60, 61, 62, 63] (by decide +kernel) (by decide +kernel)
set_option maxRecDepth 20000 in
theorem gX6_scene_X4_has : GoodIn wsX6_scene (wsV RX6 165 RX4 yX4_has wsX4_has) := goodIn_app (goodIn_of _ (by decide +kernel)) ggX6_scene_X4_has
set_option maxRecDepth 20000 in
theorem ggX6_scene_X6_isBelow : GoodIn wsX6_scene wsX6_isBelow := goodIn_r _ [14] (by decide +kernel) (by decide +kernel)
set_option maxRecDepth 20000 in
theorem gX6_scene_X6_isBelow : GoodIn wsX6_scene (va_wsS RX6 184 yX6_isBelow wsX6_isBelow) := goodIn_app (goodIn_of _ (by decide +kernel)) ggX6_scene_X6_isBelow
set_option maxRecDepth 20000 in
theorem ggX6_scene_X6_sceneFact : GoodIn wsX6_scene wsX6_sceneFact := goodIn_r _ [19, 5, 20, 21, 22, 23, 24, 25, 26, 27, 28, 29, 30, 31, 32, 33, 34, 35, 36, 37, 38, 39, 40, 41, 13, 42, 43, 44, 45, 46, 47, 48, 49, 50, 51, 52, 53, 54, 55, 56, 57, 58, 59, 60, 61, 62, 63, 64, 65, 66, 67, 68, 69, 70, 71, 72, 73, 74, 75, 76, 77, 78, 79, 80, 81, 82, 83, 84, 85, 86, 87, 88] (by decide +kernel) (by decide +kernel)
set_option maxRecDepth 20000 in
theorem gX6_scene_X6_sceneFact : GoodIn wsX6_scene (wsV RX6 196 RX6 yX6_sceneFact wsX6_sceneFact) := goodIn_app (goodIn_of _ (by decide +kernel)) ggX6_scene_X6_sceneFact
theorem dX6_scene_0 : decode cX6_scene 0 = .ok (.aload_n 0, 1) := by decide +kernel
theorem dX6_scene_1 : decode cX6_scene 1 = .ok (.getfield 22, 3) := by decide +kernel
theorem dX6_scene_4 : decode cX6_scene 4 = .ok (.iload_n 1, 1) := by decide +kernel
theorem dX6_scene_5 : decode cX6_scene 5 = .ok (.invokevirtual 165, 3) := by decide +kernel
theorem dX6_scene_8 : decode cX6_scene 8 = .ok (.ifCond .ne 13, 3) := by decide +kernel
theorem dX6_scene_11 : decode cX6_scene 11 = .ok (.new 62, 3) := by decide +kernel
theorem dX6_scene_14 : decode cX6_scene 14 = .ok (.dup, 1) := by decide +kernel
theorem dX6_scene_15 : decode cX6_scene 15 = .ok (.ldc 166, 2) := by decide +kernel
theorem dX6_scene_17 : decode cX6_scene 17 = .ok (.invokespecial 66, 3) := by decide +kernel
theorem dX6_scene_20 : decode cX6_scene 20 = .ok (.athrow, 1) := by decide +kernel
theorem dX6_scene_21 : decode cX6_scene 21 = .ok (.iload_n 2, 1) := by decide +kernel
theorem dX6_scene_22 : decode cX6_scene 22 = .ok (.bipush 10, 2) := by decide +kernel
theorem dX6_scene_24 : decode cX6_scene 24 = .ok (.invokestatic 184, 3) := by decide +kernel
theorem dX6_scene_27 : decode cX6_scene 27 = .ok (.ifCond .ne 13, 3) := by decide +kernel
theorem dX6_scene_30 : decode cX6_scene 30 = .ok (.new 80, 3) := by decide +kernel
theorem dX6_scene_33 : decode cX6_scene 33 = .ok (.dup, 1) := by decide +kernel
theorem dX6_scene_34 : decode cX6_scene 34 = .ok (.ldc 187, 2) := by decide +kernel
theorem dX6_scene_36 : decode cX6_scene 36 = .ok (.invokespecial 84, 3) := by decide +kernel
theorem dX6_scene_39 : decode cX6_scene 39 = .ok (.athrow, 1) := by decide +kernel
theorem dX6_scene_40 : decode cX6_scene 40 = .ok (.aload_n 0, 1) := by decide +kernel
theorem dX6_scene_41 : decode cX6_scene 41 = .ok (.iload_n 1, 1) := by decide +kernel
theorem dX6_scene_42 : decode cX6_scene 42 = .ok (.iload_n 2, 1) := by decide +kernel
theorem dX6_scene_43 : decode cX6_scene 43 = .ok (.invokevirtual 196, 3) := by decide +kernel
theorem dX6_scene_46 : decode cX6_scene 46 = .ok (.ireturn, 1) := by decide +kernel
set_option maxRecDepth 20000 in
theorem ggX6_page_X6_isBelow : GoodIn wsX6_page wsX6_isBelow := goodIn_r _ [9] (by decide +kernel) (by decide +kernel)
set_option maxRecDepth 20000 in
theorem gX6_page_X6_isBelow : GoodIn wsX6_page (va_wsS RX6 184 yX6_isBelow wsX6_isBelow) := goodIn_app (goodIn_of _ (by decide +kernel)) ggX6_page_X6_isBelow
set_option maxRecDepth 20000 in
theorem ggX6_page_X6_pageFact : GoodIn wsX6_page wsX6_pageFact := goodIn_r _ [13, 5, 14, 15, 16, 17, 18, 19, 20, 21, 22, 23, 24, 25, 26, 27, 28, 29, 30, 31, 32, 33, 34, 35, 36, 37, 38, 39, 40, 41, 42, 43] (by decide +kernel) (by decide +kernel)
set_option maxRecDepth 20000 in
theorem gX6_page_X6_pageFact : GoodIn wsX6_page (wsV RX6 201 RX6 yX6_pageFact wsX6_pageFact) := goodIn_app (goodIn_of _ (by decide +kernel)) ggX6_page_X6_pageFact
theorem dX6_page_0 : decode cX6_page 0 = .ok (.iload_n 1, 1) := by decide +kernel
theorem dX6_page_1 : decode cX6_page 1 = .ok (.aload_n 0, 1) := by decide +kernel
theorem dX6_page_2 : decode cX6_page 2 = .ok (.getfield 32, 3) := by decide +kernel
theorem dX6_page_5 : decode cX6_page 5 = .ok (.getfield 182, 3) := by decide +kernel
theorem dX6_page_8 : decode cX6_page 8 = .ok (.invokestatic 184, 3) := by decide +kernel
theorem dX6_page_11 : decode cX6_page 11 = .ok (.ifCond .ne 13, 3) := by decide +kernel
theorem dX6_page_14 : decode cX6_page 14 = .ok (.new 62, 3) := by decide +kernel
theorem dX6_page_17 : decode cX6_page 17 = .ok (.dup, 1) := by decide +kernel
theorem dX6_page_18 : decode cX6_page 18 = .ok (.ldc 199, 2) := by decide +kernel
theorem dX6_page_20 : decode cX6_page 20 = .ok (.invokespecial 66, 3) := by decide +kernel
theorem dX6_page_23 : decode cX6_page 23 = .ok (.athrow, 1) := by decide +kernel
theorem dX6_page_24 : decode cX6_page 24 = .ok (.iload_n 2, 1) := by decide +kernel
theorem dX6_page_25 : decode cX6_page 25 = .ok (.iconst 5, 1) := by decide +kernel
theorem dX6_page_26 : decode cX6_page 26 = .ok (.invokestatic 184, 3) := by decide +kernel
theorem dX6_page_29 : decode cX6_page 29 = .ok (.ifCond .ne 13, 3) := by decide +kernel
theorem dX6_page_32 : decode cX6_page 32 = .ok (.new 80, 3) := by decide +kernel
theorem dX6_page_35 : decode cX6_page 35 = .ok (.dup, 1) := by decide +kernel
theorem dX6_page_36 : decode cX6_page 36 = .ok (.ldc 187, 2) := by decide +kernel
theorem dX6_page_38 : decode cX6_page 38 = .ok (.invokespecial 84, 3) := by decide +kernel
theorem dX6_page_41 : decode cX6_page 41 = .ok (.athrow, 1) := by decide +kernel
theorem dX6_page_42 : decode cX6_page 42 = .ok (.aload_n 0, 1) := by decide +kernel
theorem dX6_page_43 : decode cX6_page 43 = .ok (.iload_n 1, 1) := by decide +kernel
theorem dX6_page_44 : decode cX6_page 44 = .ok (.iload_n 2, 1) := by decide +kernel
theorem dX6_page_45 : decode cX6_page 45 = .ok (.invokevirtual 201, 3) := by decide +kernel
theorem dX6_page_48 : decode cX6_page 48 = .ok (.ireturn, 1) := by decide +kernel
set_option maxRecDepth 20000 in
theorem ggX6_find_X3_at : GoodIn wsX6_find wsX3_at := goodIn_r _ [6, 7, 29] (by decide +kernel) (by decide +kernel)
set_option maxRecDepth 20000 in
theorem gX6_find_X3_at : GoodIn wsX6_find (wsV RX6 150 RX3 yX3_at wsX3_at) := goodIn_app (goodIn_of _ (by decide +kernel)) ggX6_find_X3_at
theorem dX6_find_0 : decode cX6_find 0 = .ok (.iconst 0, 1) := by decide +kernel
theorem dX6_find_1 : decode cX6_find 1 = .ok (.istore 4, 2) := by decide +kernel
theorem dX6_find_3 : decode cX6_find 3 = .ok (.iload 4, 2) := by decide +kernel
theorem dX6_find_5 : decode cX6_find 5 = .ok (.aload_n 0, 1) := by decide +kernel
theorem dX6_find_6 : decode cX6_find 6 = .ok (.getfield 22, 3) := by decide +kernel
theorem dX6_find_9 : decode cX6_find 9 = .ok (.getfield 144, 3) := by decide +kernel
theorem dX6_find_12 : decode cX6_find 12 = .ok (.if_icmp .ge 60, 3) := by decide +kernel
theorem dX6_find_15 : decode cX6_find 15 = .ok (.aload_n 0, 1) := by decide +kernel
theorem dX6_find_16 : decode cX6_find 16 = .ok (.getfield 22, 3) := by decide +kernel
theorem dX6_find_19 : decode cX6_find 19 = .ok (.getfield 153, 3) := by decide +kernel
theorem dX6_find_22 : decode cX6_find 22 = .ok (.iload 4, 2) := by decide +kernel
theorem dX6_find_24 : decode cX6_find 24 = .ok (.invokevirtual 150, 3) := by decide +kernel
theorem dX6_find_27 : decode cX6_find 27 = .ok (.iload_n 1, 1) := by decide +kernel
theorem dX6_find_28 : decode cX6_find 28 = .ok (.if_icmp .ne 38, 3) := by decide +kernel
theorem dX6_find_31 : decode cX6_find 31 = .ok (.aload_n 0, 1) := by decide +kernel
theorem dX6_find_32 : decode cX6_find 32 = .ok (.getfield 22, 3) := by decide +kernel
theorem dX6_find_35 : decode cX6_find 35 = .ok (.getfield 156, 3) := by decide +kernel
theorem dX6_find_38 : decode cX6_find 38 = .ok (.iload 4, 2) := by decide +kernel
theorem dX6_find_40 : decode cX6_find 40 = .ok (.invokevirtual 150, 3) := by decide +kernel
theorem dX6_find_43 : decode cX6_find 43 = .ok (.iload_n 2, 1) := by decide +kernel
theorem dX6_find_44 : decode cX6_find 44 = .ok (.if_icmp .ne 22, 3) := by decide +kernel
theorem dX6_find_47 : decode cX6_find 47 = .ok (.aload_n 0, 1) := by decide +kernel
theorem dX6_find_48 : decode cX6_find 48 = .ok (.getfield 22, 3) := by decide +kernel
theorem dX6_find_51 : decode cX6_find 51 = .ok (.getfield 159, 3) := by decide +kernel
theorem dX6_find_54 : decode cX6_find 54 = .ok (.iload 4, 2) := by decide +kernel
theorem dX6_find_56 : decode cX6_find 56 = .ok (.invokevirtual 150, 3) := by decide +kernel
theorem dX6_find_59 : decode cX6_find 59 = .ok (.iload_n 3, 1) := by decide +kernel
theorem dX6_find_60 : decode cX6_find 60 = .ok (.if_icmp .ne 6, 3) := by decide +kernel
theorem dX6_find_63 : decode cX6_find 63 = .ok (.iload 4, 2) := by decide +kernel
theorem dX6_find_65 : decode cX6_find 65 = .ok (.ireturn, 1) := by decide +kernel
theorem dX6_find_66 : decode cX6_find 66 = .ok (.iinc 4 1, 3) := by decide +kernel
theorem dX6_find_69 : decode cX6_find 69 = .ok (.goto (-66), 3) := by decide +kernel
theorem dX6_find_72 : decode cX6_find 72 = .ok (.iconst (-1), 1) := by decide +kernel
theorem dX6_find_73 : decode cX6_find 73 = .ok (.ireturn, 1) := by decide +kernel
set_option maxRecDepth 20000 in
theorem ggX6_names_X3_at : GoodIn wsX6_names wsX3_at := goodIn_r _ [9, 10, 42] (by decide +kernel) (by decide +kernel)
set_option maxRecDepth 20000 in
theorem gX6_names_X3_at : GoodIn wsX6_names (wsV RX6 150 RX3 yX3_at wsX3_at) := goodIn_app (goodIn_of _ (by decide +kernel)) ggX6_names_X3_at
theorem dX6_names_0 : decode cX6_names 0 = .ok (.iload_n 1, 1) := by decide +kernel
theorem dX6_names_1 : decode cX6_names 1 = .ok (.ifCond .lt 9, 3) := by decide +kernel
theorem dX6_names_4 : decode cX6_names 4 = .ok (.iload_n 1, 1) := by decide +kernel
theorem dX6_names_5 : decode cX6_names 5 = .ok (.bipush 9, 2) := by decide +kernel
theorem dX6_names_7 : decode cX6_names 7 = .ok (.if_icmp .le 13, 3) := by decide +kernel
theorem dX6_names_10 : decode cX6_names 10 = .ok (.new 80, 3) := by decide +kernel
theorem dX6_names_13 : decode cX6_names 13 = .ok (.dup, 1) := by decide +kernel
theorem dX6_names_14 : decode cX6_names 14 = .ok (.ldc 204, 2) := by decide +kernel
theorem dX6_names_16 : decode cX6_names 16 = .ok (.invokespecial 84, 3) := by decide +kernel
theorem dX6_names_19 : decode cX6_names 19 = .ok (.athrow, 1) := by decide +kernel
theorem dX6_names_20 : decode cX6_names 20 = .ok (.iconst 0, 1) := by decide +kernel
theorem dX6_names_21 : decode cX6_names 21 = .ok (.istore_n 3, 1) := by decide +kernel
theorem dX6_names_22 : decode cX6_names 22 = .ok (.iconst 0, 1) := by decide +kernel
theorem dX6_names_23 : decode cX6_names 23 = .ok (.istore 4, 2) := by decide +kernel
theorem dX6_names_25 : decode cX6_names 25 = .ok (.iload 4, 2) := by decide +kernel
theorem dX6_names_27 : decode cX6_names 27 = .ok (.aload_n 0, 1) := by decide +kernel
theorem dX6_names_28 : decode cX6_names 28 = .ok (.getfield 12, 3) := by decide +kernel
theorem dX6_names_31 : decode cX6_names 31 = .ok (.getfield 59, 3) := by decide +kernel
theorem dX6_names_34 : decode cX6_names 34 = .ok (.if_icmp .ge 48, 3) := by decide +kernel
theorem dX6_names_37 : decode cX6_names 37 = .ok (.aload_n 0, 1) := by decide +kernel
theorem dX6_names_38 : decode cX6_names 38 = .ok (.getfield 12, 3) := by decide +kernel
theorem dX6_names_41 : decode cX6_names 41 = .ok (.getfield 206, 3) := by decide +kernel
theorem dX6_names_44 : decode cX6_names 44 = .ok (.iload 4, 2) := by decide +kernel
theorem dX6_names_46 : decode cX6_names 46 = .ok (.invokevirtual 150, 3) := by decide +kernel
theorem dX6_names_49 : decode cX6_names 49 = .ok (.iload_n 1, 1) := by decide +kernel
theorem dX6_names_50 : decode cX6_names 50 = .ok (.if_icmp .ne 26, 3) := by decide +kernel
theorem dX6_names_53 : decode cX6_names 53 = .ok (.iload_n 2, 1) := by decide +kernel
theorem dX6_names_54 : decode cX6_names 54 = .ok (.ifCond .eq 19, 3) := by decide +kernel
theorem dX6_names_57 : decode cX6_names 57 = .ok (.aload_n 0, 1) := by decide +kernel
theorem dX6_names_58 : decode cX6_names 58 = .ok (.getfield 22, 3) := by decide +kernel
theorem dX6_names_61 : decode cX6_names 61 = .ok (.getfield 209, 3) := by decide +kernel
theorem dX6_names_64 : decode cX6_names 64 = .ok (.iload 4, 2) := by decide +kernel
theorem dX6_names_66 : decode cX6_names 66 = .ok (.invokevirtual 150, 3) := by decide +kernel
theorem dX6_names_69 : decode cX6_names 69 = .ok (.iconst 1, 1) := by decide +kernel
theorem dX6_names_70 : decode cX6_names 70 = .ok (.if_icmp .ne 6, 3) := by decide +kernel
theorem dX6_names_73 : decode cX6_names 73 = .ok (.iinc 3 1, 3) := by decide +kernel
theorem dX6_names_76 : decode cX6_names 76 = .ok (.iinc 4 1, 3) := by decide +kernel
theorem dX6_names_79 : decode cX6_names 79 = .ok (.goto (-54), 3) := by decide +kernel
theorem dX6_names_82 : decode cX6_names 82 = .ok (.iload_n 3, 1) := by decide +kernel
theorem dX6_names_83 : decode cX6_names 83 = .ok (.ireturn, 1) := by decide +kernel
set_option maxRecDepth 20000 in
theorem ggX6_used_X3_at : GoodIn wsX6_used wsX3_at := goodIn_r _ [7, 8, 42] (by decide +kernel) (by decide +kernel)
set_option maxRecDepth 20000 in
theorem gX6_used_X3_at : GoodIn wsX6_used (wsV RX6 150 RX3 yX3_at wsX3_at) := goodIn_app (goodIn_of _ (by decide +kernel)) ggX6_used_X3_at
theorem dX6_used_0 : decode cX6_used 0 = .ok (.aload_n 0, 1) := by decide +kernel
theorem dX6_used_1 : decode cX6_used 1 = .ok (.getfield 12, 3) := by decide +kernel
theorem dX6_used_4 : decode cX6_used 4 = .ok (.getfield 141, 3) := by decide +kernel
theorem dX6_used_7 : decode cX6_used 7 = .ok (.aload_n 0, 1) := by decide +kernel
theorem dX6_used_8 : decode cX6_used 8 = .ok (.getfield 32, 3) := by decide +kernel
theorem dX6_used_11 : decode cX6_used 11 = .ok (.getfield 182, 3) := by decide +kernel
theorem dX6_used_14 : decode cX6_used 14 = .ok (.imul, 1) := by decide +kernel
theorem dX6_used_15 : decode cX6_used 15 = .ok (.istore_n 1, 1) := by decide +kernel
theorem dX6_used_16 : decode cX6_used 16 = .ok (.iload_n 1, 1) := by decide +kernel
theorem dX6_used_17 : decode cX6_used 17 = .ok (.ifCond .gt 5, 3) := by decide +kernel
theorem dX6_used_20 : decode cX6_used 20 = .ok (.dconst 0, 1) := by decide +kernel
theorem dX6_used_21 : decode cX6_used 21 = .ok (.dreturn, 1) := by decide +kernel
theorem dX6_used_22 : decode cX6_used 22 = .ok (.iconst 0, 1) := by decide +kernel
theorem dX6_used_23 : decode cX6_used 23 = .ok (.istore_n 2, 1) := by decide +kernel
theorem dX6_used_24 : decode cX6_used 24 = .ok (.iconst 0, 1) := by decide +kernel
theorem dX6_used_25 : decode cX6_used 25 = .ok (.istore_n 3, 1) := by decide +kernel
theorem dX6_used_26 : decode cX6_used 26 = .ok (.iload_n 3, 1) := by decide +kernel
theorem dX6_used_27 : decode cX6_used 27 = .ok (.aload_n 0, 1) := by decide +kernel
theorem dX6_used_28 : decode cX6_used 28 = .ok (.getfield 32, 3) := by decide +kernel
theorem dX6_used_31 : decode cX6_used 31 = .ok (.getfield 182, 3) := by decide +kernel
theorem dX6_used_34 : decode cX6_used 34 = .ok (.if_icmp .ge 23, 3) := by decide +kernel
theorem dX6_used_37 : decode cX6_used 37 = .ok (.iload_n 2, 1) := by decide +kernel
theorem dX6_used_38 : decode cX6_used 38 = .ok (.aload_n 0, 1) := by decide +kernel
theorem dX6_used_39 : decode cX6_used 39 = .ok (.getfield 32, 3) := by decide +kernel
theorem dX6_used_42 : decode cX6_used 42 = .ok (.getfield 212, 3) := by decide +kernel
theorem dX6_used_45 : decode cX6_used 45 = .ok (.iload_n 3, 1) := by decide +kernel
theorem dX6_used_46 : decode cX6_used 46 = .ok (.invokevirtual 150, 3) := by decide +kernel
theorem dX6_used_49 : decode cX6_used 49 = .ok (.iadd, 1) := by decide +kernel
theorem dX6_used_50 : decode cX6_used 50 = .ok (.istore_n 2, 1) := by decide +kernel
theorem dX6_used_51 : decode cX6_used 51 = .ok (.iinc 3 1, 3) := by decide +kernel
theorem dX6_used_54 : decode cX6_used 54 = .ok (.goto (-28), 3) := by decide +kernel
theorem dX6_used_57 : decode cX6_used 57 = .ok (.iload_n 2, 1) := by decide +kernel
theorem dX6_used_58 : decode cX6_used 58 = .ok (.i2d, 1) := by decide +kernel
theorem dX6_used_59 : decode cX6_used 59 = .ok (.iload_n 1, 1) := by decide +kernel
theorem dX6_used_60 : decode cX6_used 60 = .ok (.i2d, 1) := by decide +kernel
theorem dX6_used_61 : decode cX6_used 61 = .ok (.ddiv, 1) := by decide +kernel
theorem dX6_used_62 : decode cX6_used 62 = .ok (.dreturn, 1) := by decide +kernel
set_option maxRecDepth 20000 in
theorem ggX6_pagesWith_X6_isPageLines : GoodIn wsX6_pagesWith wsX6_isPageLines := goodIn_r _ [9] (by decide +kernel) (by decide +kernel)
set_option maxRecDepth 20000 in
theorem gX6_pagesWith_X6_isPageLines : GoodIn wsX6_pagesWith (va_wsS RX6 136 yX6_isPageLines wsX6_isPageLines) := goodIn_app (goodIn_of _ (by decide +kernel)) ggX6_pagesWith_X6_isPageLines
set_option maxRecDepth 20000 in
theorem ggX6_pagesWith_X5_copyFrom : GoodIn wsX6_pagesWith wsX5_copyFrom := goodIn_r _ [14, 15, 16, 17, 18, 19, 20, 21, 22, 23, 24, 25, 26, 27, 28, 29, 30, 139, 140, 141, 142, 143, 144, 145, 146, 147, 148, 149] (by decide +kernel) (by decide +kernel)
set_option maxRecDepth 20000 in
theorem gX6_pagesWith_X5_copyFrom : GoodIn wsX6_pagesWith (wsV RX6 94 RX5 yX5_copyFrom wsX5_copyFrom) := goodIn_app (goodIn_of _ (by decide +kernel)) ggX6_pagesWith_X5_copyFrom
set_option maxRecDepth 20000 in
theorem ggX6_pagesWith_X1_arrange : GoodIn wsX6_pagesWith wsX1_arrange := goodIn_r _ [35, 36, 37, 38, 39, 40, 41, 34, 42, 43, 44, 45, 46, 28, 47, 30, 48, 49, 50, 13, 51, 17, 18, 52, 53, 54, 55, 56, 21, 57, 58, 59, 60, 61, 62, 63, 64, 65, 66, 15, 67, 8, 68, 69, 70, 71, 72, 73, 74, 75, 76, 77, 78, 79, 80, 81, 82, 83, 84, 85, 86, 87, 88, 89, 90, 91, 92, 93, 94, 95, 96, 97, 98, 99, 100, 101, 102, 103, 104, 105, 106, 107, 108, 109, 110, 111, 112, 113, 114, 115, 116, 117, 118, 119, 120, 121, 122, 123, 124, 125, 126, 127, 128, 129, 150, 151, 152, 153, 154, 155, 156, 157, 158, 159, 160, 161, 162, 163, 139, 140, 141, 142, 143, 144, 145, 146, 147, 148, 149] (by decide +kernel) (by decide +kernel)
set_option maxRecDepth 20000 in
theorem gX6_pagesWith_X1_arrange : GoodIn wsX6_pagesWith (wsV RX6 215 RX1 yX1_arrange wsX1_arrange) := goodIn_app (goodIn_of _ (by decide +kernel)) ggX6_pagesWith_X1_arrange
theorem dX6_pagesWith_0 : decode cX6_pagesWith 0 = .ok (.iload_n 1, 1) := by decide +kernel
theorem dX6_pagesWith_1 : decode cX6_pagesWith 1 = .ok (.invokestatic 136, 3) := by decide +kernel
theorem dX6_pagesWith_4 : decode cX6_pagesWith 4 = .ok (.ifCond .ne 13, 3) := by decide +kernel
theorem dX6_pagesWith_7 : decode cX6_pagesWith 7 = .ok (.new 80, 3) := by decide +kernel
theorem dX6_pagesWith_10 : decode cX6_pagesWith 10 = .ok (.dup, 1) := by decide +kernel
theorem dX6_pagesWith_11 : decode cX6_pagesWith 11 = .ok (.ldc 139, 2) := by decide +kernel
theorem dX6_pagesWith_13 : decode cX6_pagesWith 13 = .ok (.invokespecial 84, 3) := by decide +kernel
theorem dX6_pagesWith_16 : decode cX6_pagesWith 16 = .ok (.athrow, 1) := by decide +kernel
theorem dX6_pagesWith_17 : decode cX6_pagesWith 17 = .ok (.aload_n 0, 1) := by decide +kernel
theorem dX6_pagesWith_18 : decode cX6_pagesWith 18 = .ok (.getfield 16, 3) := by decide +kernel
theorem dX6_pagesWith_21 : decode cX6_pagesWith 21 = .ok (.aload_n 0, 1) := by decide +kernel
theorem dX6_pagesWith_22 : decode cX6_pagesWith 22 = .ok (.getfield 12, 3) := by decide +kernel
theorem dX6_pagesWith_25 : decode cX6_pagesWith 25 = .ok (.invokevirtual 94, 3) := by decide +kernel
theorem dX6_pagesWith_28 : decode cX6_pagesWith 28 = .ok (.aload_n 0, 1) := by decide +kernel
theorem dX6_pagesWith_29 : decode cX6_pagesWith 29 = .ok (.getfield 16, 3) := by decide +kernel
theorem dX6_pagesWith_32 : decode cX6_pagesWith 32 = .ok (.iload_n 1, 1) := by decide +kernel
theorem dX6_pagesWith_33 : decode cX6_pagesWith 33 = .ok (.putfield 141, 3) := by decide +kernel
theorem dX6_pagesWith_36 : decode cX6_pagesWith 36 = .ok (.aload_n 0, 1) := by decide +kernel
theorem dX6_pagesWith_37 : decode cX6_pagesWith 37 = .ok (.getfield 36, 3) := by decide +kernel
theorem dX6_pagesWith_40 : decode cX6_pagesWith 40 = .ok (.aload_n 0, 1) := by decide +kernel
theorem dX6_pagesWith_41 : decode cX6_pagesWith 41 = .ok (.getfield 16, 3) := by decide +kernel
theorem dX6_pagesWith_44 : decode cX6_pagesWith 44 = .ok (.invokevirtual 215, 3) := by decide +kernel
theorem dX6_pagesWith_47 : decode cX6_pagesWith 47 = .ok (.ireturn, 1) := by decide +kernel
set_option maxRecDepth 20000 in
theorem ggX6_smallestPage_X5_copyFrom : GoodIn wsX6_smallestPage wsX5_copyFrom := goodIn_r _ [10, 11, 12, 13, 14, 15, 16, 17, 18, 19, 20, 21, 22, 23, 24, 25, 26, 136, 137, 138, 139, 140, 141, 142, 143, 144, 145, 146] (by decide +kernel) (by decide +kernel)
set_option maxRecDepth 20000 in
theorem gX6_smallestPage_X5_copyFrom : GoodIn wsX6_smallestPage (wsV RX6 94 RX5 yX5_copyFrom wsX5_copyFrom) := goodIn_app (goodIn_of _ (by decide +kernel)) ggX6_smallestPage_X5_copyFrom
set_option maxRecDepth 20000 in
theorem ggX6_smallestPage_X1_arrange : GoodIn wsX6_smallestPage wsX1_arrange := goodIn_r _ [31, 32, 33, 34, 35, 36, 37, 30, 38, 39, 40, 41, 42, 24, 43, 26, 44, 45, 46, 9, 47, 13, 14, 48, 49, 50, 51, 52, 17, 53, 54, 55, 56, 57, 58, 59, 60, 61, 62, 11, 63, 64, 65, 66, 67, 68, 69, 70, 71, 72, 73, 74, 75, 76, 77, 78, 79, 80, 81, 82, 83, 84, 85, 86, 87, 88, 89, 90, 91, 92, 93, 94, 95, 96, 97, 98, 99, 100, 101, 102, 103, 104, 105, 106, 107, 108, 109, 110, 111, 112, 113, 114, 115, 116, 117, 118, 119, 120, 121, 122, 123, 124, 125, 126, 147, 148, 149, 150, 151, 152, 153, 154, 155, 156, 157, 158, 159, 160, 136, 137, 138, 139, 140, 141, 142, 143, 144, 145, 146] (by decide +kernel) (by decide +kernel)
set_option maxRecDepth 20000 in
theorem gX6_smallestPage_X1_arrange : GoodIn wsX6_smallestPage (wsV RX6 215 RX1 yX1_arrange wsX1_arrange) := goodIn_app (goodIn_of _ (by decide +kernel)) ggX6_smallestPage_X1_arrange
theorem dX6_smallestPage_0 : decode cX6_smallestPage 0 = .ok (.iload_n 1, 1) := by decide +kernel
theorem dX6_smallestPage_1 : decode cX6_smallestPage 1 = .ok (.ifCond .lt 9, 3) := by decide +kernel
theorem dX6_smallestPage_4 : decode cX6_smallestPage 4 = .ok (.iload_n 1, 1) := by decide +kernel
theorem dX6_smallestPage_5 : decode cX6_smallestPage 5 = .ok (.bipush 60, 2) := by decide +kernel
theorem dX6_smallestPage_7 : decode cX6_smallestPage 7 = .ok (.if_icmp .le 13, 3) := by decide +kernel
theorem dX6_smallestPage_10 : decode cX6_smallestPage 10 = .ok (.new 80, 3) := by decide +kernel
theorem dX6_smallestPage_13 : decode cX6_smallestPage 13 = .ok (.dup, 1) := by decide +kernel
theorem dX6_smallestPage_14 : decode cX6_smallestPage 14 = .ok (.ldc 219, 2) := by decide +kernel
theorem dX6_smallestPage_16 : decode cX6_smallestPage 16 = .ok (.invokespecial 84, 3) := by decide +kernel
theorem dX6_smallestPage_19 : decode cX6_smallestPage 19 = .ok (.athrow, 1) := by decide +kernel
theorem dX6_smallestPage_20 : decode cX6_smallestPage 20 = .ok (.aload_n 0, 1) := by decide +kernel
theorem dX6_smallestPage_21 : decode cX6_smallestPage 21 = .ok (.getfield 16, 3) := by decide +kernel
theorem dX6_smallestPage_24 : decode cX6_smallestPage 24 = .ok (.aload_n 0, 1) := by decide +kernel
theorem dX6_smallestPage_25 : decode cX6_smallestPage 25 = .ok (.getfield 12, 3) := by decide +kernel
theorem dX6_smallestPage_28 : decode cX6_smallestPage 28 = .ok (.invokevirtual 94, 3) := by decide +kernel
theorem dX6_smallestPage_31 : decode cX6_smallestPage 31 = .ok (.bipush 20, 2) := by decide +kernel
theorem dX6_smallestPage_33 : decode cX6_smallestPage 33 = .ok (.istore_n 2, 1) := by decide +kernel
theorem dX6_smallestPage_34 : decode cX6_smallestPage 34 = .ok (.iload_n 2, 1) := by decide +kernel
theorem dX6_smallestPage_35 : decode cX6_smallestPage 35 = .ok (.bipush 60, 2) := by decide +kernel
theorem dX6_smallestPage_37 : decode cX6_smallestPage 37 = .ok (.if_icmp .gt 34, 3) := by decide +kernel
theorem dX6_smallestPage_40 : decode cX6_smallestPage 40 = .ok (.aload_n 0, 1) := by decide +kernel
theorem dX6_smallestPage_41 : decode cX6_smallestPage 41 = .ok (.getfield 16, 3) := by decide +kernel
theorem dX6_smallestPage_44 : decode cX6_smallestPage 44 = .ok (.iload_n 2, 1) := by decide +kernel
theorem dX6_smallestPage_45 : decode cX6_smallestPage 45 = .ok (.putfield 141, 3) := by decide +kernel
theorem dX6_smallestPage_48 : decode cX6_smallestPage 48 = .ok (.aload_n 0, 1) := by decide +kernel
theorem dX6_smallestPage_49 : decode cX6_smallestPage 49 = .ok (.getfield 36, 3) := by decide +kernel
theorem dX6_smallestPage_52 : decode cX6_smallestPage 52 = .ok (.aload_n 0, 1) := by decide +kernel
theorem dX6_smallestPage_53 : decode cX6_smallestPage 53 = .ok (.getfield 16, 3) := by decide +kernel
theorem dX6_smallestPage_56 : decode cX6_smallestPage 56 = .ok (.invokevirtual 215, 3) := by decide +kernel
theorem dX6_smallestPage_59 : decode cX6_smallestPage 59 = .ok (.iload_n 1, 1) := by decide +kernel
theorem dX6_smallestPage_60 : decode cX6_smallestPage 60 = .ok (.if_icmp .gt 5, 3) := by decide +kernel
theorem dX6_smallestPage_63 : decode cX6_smallestPage 63 = .ok (.iload_n 2, 1) := by decide +kernel
theorem dX6_smallestPage_64 : decode cX6_smallestPage 64 = .ok (.ireturn, 1) := by decide +kernel
theorem dX6_smallestPage_65 : decode cX6_smallestPage 65 = .ok (.iinc 2 1, 3) := by decide +kernel
theorem dX6_smallestPage_68 : decode cX6_smallestPage 68 = .ok (.goto (-34), 3) := by decide +kernel
theorem dX6_smallestPage_71 : decode cX6_smallestPage 71 = .ok (.iconst (-1), 1) := by decide +kernel
theorem dX6_smallestPage_72 : decode cX6_smallestPage 72 = .ok (.ireturn, 1) := by decide +kernel
set_option maxRecDepth 20000 in
theorem ggX6_pagesBy_X5_has : GoodIn wsX6_pagesBy wsX5_has := goodIn_r _ [12, 13, 14, 15, 16, 143, 144, 145, 146, 147, 148, 149, 150, 151, 152] (by decide +kernel) (by decide +kernel)
set_option maxRecDepth 20000 in
theorem gX6_pagesBy_X5_has : GoodIn wsX6_pagesBy (wsV RX6 110 RX5 yX5_has wsX5_has) := goodIn_app (goodIn_of _ (by decide +kernel)) ggX6_pagesBy_X5_has
set_option maxRecDepth 20000 in
theorem ggX6_pagesBy_X6_isLength : GoodIn wsX6_pagesBy wsX6_isLength := goodIn_r _ [19] (by decide +kernel) (by decide +kernel)
set_option maxRecDepth 20000 in
theorem gX6_pagesBy_X6_isLength : GoodIn wsX6_pagesBy (va_wsS RX6 73 yX6_isLength wsX6_isLength) := goodIn_app (goodIn_of _ (by decide +kernel)) ggX6_pagesBy_X6_isLength
set_option maxRecDepth 20000 in
theorem ggX6_pagesBy_X5_copyFrom : GoodIn wsX6_pagesBy wsX5_copyFrom := goodIn_r _ [23, 13, 24, 25, 26, 27, 28, 29, 30, 31, 32, 33, 34, 35, 36, 37, 38, 143, 144, 145, 146, 147, 148, 149, 150, 151, 152, 153] (by decide +kernel) (by decide +kernel)
set_option maxRecDepth 20000 in
theorem gX6_pagesBy_X5_copyFrom : GoodIn wsX6_pagesBy (wsV RX6 94 RX5 yX5_copyFrom wsX5_copyFrom) := goodIn_app (goodIn_of _ (by decide +kernel)) ggX6_pagesBy_X5_copyFrom
set_option maxRecDepth 20000 in
theorem ggX6_pagesBy_X3_put : GoodIn wsX6_pagesBy wsX3_put := goodIn_r _ [42, 38, 153] (by decide +kernel) (by decide +kernel)
set_option maxRecDepth 20000 in
theorem gX6_pagesBy_X3_put : GoodIn wsX6_pagesBy (wsV RX6 128 RX3 yX3_put wsX3_put) := goodIn_app (goodIn_of _ (by decide +kernel)) ggX6_pagesBy_X3_put
set_option maxRecDepth 20000 in
theorem ggX6_pagesBy_X1_arrange : GoodIn wsX6_pagesBy wsX1_arrange := goodIn_r _ [47, 48, 49, 50, 51, 52, 53, 46, 54, 55, 56, 57, 58, 36, 59, 38, 60, 61, 62, 11, 63, 25, 26, 64, 65, 66, 67, 68, 29, 69, 70, 71, 72, 73, 74, 75, 9, 10, 12, 13, 14, 15, 16, 76, 77, 78, 79, 80, 40, 41, 42, 81, 82, 83, 84, 85, 86, 87, 88, 89, 90, 91, 92, 93, 94, 95, 96, 97, 98, 99, 100, 101, 102, 103, 104, 105, 106, 107, 108, 109, 110, 111, 112, 113, 114, 115, 116, 117, 118, 119, 120, 121, 122, 123, 124, 125, 126, 127, 128, 129, 130, 131, 132, 133, 154, 155, 156, 157, 158, 159, 160, 161, 162, 163, 164, 165, 166, 167, 143, 144, 145, 146, 147, 148, 149, 150, 151, 152, 153] (by decide +kernel) (by decide +kernel)
set_option maxRecDepth 20000 in
theorem gX6_pagesBy_X1_arrange : GoodIn wsX6_pagesBy (wsV RX6 215 RX1 yX1_arrange wsX1_arrange) := goodIn_app (goodIn_of _ (by decide +kernel)) ggX6_pagesBy_X1_arrange
theorem dX6_pagesBy_0 : decode cX6_pagesBy 0 = .ok (.aload_n 0, 1) := by decide +kernel
theorem dX6_pagesBy_1 : decode cX6_pagesBy 1 = .ok (.getfield 12, 3) := by decide +kernel
theorem dX6_pagesBy_4 : decode cX6_pagesBy 4 = .ok (.iload_n 1, 1) := by decide +kernel
theorem dX6_pagesBy_5 : decode cX6_pagesBy 5 = .ok (.invokevirtual 110, 3) := by decide +kernel
theorem dX6_pagesBy_8 : decode cX6_pagesBy 8 = .ok (.ifCond .ne 13, 3) := by decide +kernel
theorem dX6_pagesBy_11 : decode cX6_pagesBy 11 = .ok (.new 62, 3) := by decide +kernel
theorem dX6_pagesBy_14 : decode cX6_pagesBy 14 = .ok (.dup, 1) := by decide +kernel
theorem dX6_pagesBy_15 : decode cX6_pagesBy 15 = .ok (.ldc 113, 2) := by decide +kernel
theorem dX6_pagesBy_17 : decode cX6_pagesBy 17 = .ok (.invokespecial 66, 3) := by decide +kernel
theorem dX6_pagesBy_20 : decode cX6_pagesBy 20 = .ok (.athrow, 1) := by decide +kernel
theorem dX6_pagesBy_21 : decode cX6_pagesBy 21 = .ok (.iload_n 2, 1) := by decide +kernel
theorem dX6_pagesBy_22 : decode cX6_pagesBy 22 = .ok (.invokestatic 73, 3) := by decide +kernel
theorem dX6_pagesBy_25 : decode cX6_pagesBy 25 = .ok (.ifCond .ne 13, 3) := by decide +kernel
theorem dX6_pagesBy_28 : decode cX6_pagesBy 28 = .ok (.new 80, 3) := by decide +kernel
theorem dX6_pagesBy_31 : decode cX6_pagesBy 31 = .ok (.dup, 1) := by decide +kernel
theorem dX6_pagesBy_32 : decode cX6_pagesBy 32 = .ok (.ldc 123, 2) := by decide +kernel
theorem dX6_pagesBy_34 : decode cX6_pagesBy 34 = .ok (.invokespecial 84, 3) := by decide +kernel
theorem dX6_pagesBy_37 : decode cX6_pagesBy 37 = .ok (.athrow, 1) := by decide +kernel
theorem dX6_pagesBy_38 : decode cX6_pagesBy 38 = .ok (.aload_n 0, 1) := by decide +kernel
theorem dX6_pagesBy_39 : decode cX6_pagesBy 39 = .ok (.getfield 16, 3) := by decide +kernel
theorem dX6_pagesBy_42 : decode cX6_pagesBy 42 = .ok (.aload_n 0, 1) := by decide +kernel
theorem dX6_pagesBy_43 : decode cX6_pagesBy 43 = .ok (.getfield 12, 3) := by decide +kernel
theorem dX6_pagesBy_46 : decode cX6_pagesBy 46 = .ok (.invokevirtual 94, 3) := by decide +kernel
theorem dX6_pagesBy_49 : decode cX6_pagesBy 49 = .ok (.aload_n 0, 1) := by decide +kernel
theorem dX6_pagesBy_50 : decode cX6_pagesBy 50 = .ok (.getfield 16, 3) := by decide +kernel
theorem dX6_pagesBy_53 : decode cX6_pagesBy 53 = .ok (.getfield 125, 3) := by decide +kernel
theorem dX6_pagesBy_56 : decode cX6_pagesBy 56 = .ok (.iload_n 1, 1) := by decide +kernel
theorem dX6_pagesBy_57 : decode cX6_pagesBy 57 = .ok (.iload_n 2, 1) := by decide +kernel
theorem dX6_pagesBy_58 : decode cX6_pagesBy 58 = .ok (.invokevirtual 128, 3) := by decide +kernel
theorem dX6_pagesBy_61 : decode cX6_pagesBy 61 = .ok (.aload_n 0, 1) := by decide +kernel
theorem dX6_pagesBy_62 : decode cX6_pagesBy 62 = .ok (.getfield 36, 3) := by decide +kernel
theorem dX6_pagesBy_65 : decode cX6_pagesBy 65 = .ok (.aload_n 0, 1) := by decide +kernel
theorem dX6_pagesBy_66 : decode cX6_pagesBy 66 = .ok (.getfield 16, 3) := by decide +kernel
theorem dX6_pagesBy_69 : decode cX6_pagesBy 69 = .ok (.invokevirtual 215, 3) := by decide +kernel
theorem dX6_pagesBy_72 : decode cX6_pagesBy 72 = .ok (.ireturn, 1) := by decide +kernel
set_option maxRecDepth 20000 in
theorem ggX6_greatestLength_X5_has : GoodIn wsX6_greatestLength wsX5_has := goodIn_r _ [11, 12, 13, 14, 15, 141, 142, 143, 144, 145, 146, 147, 148, 149, 150] (by decide +kernel) (by decide +kernel)
set_option maxRecDepth 20000 in
theorem gX6_greatestLength_X5_has : GoodIn wsX6_greatestLength (wsV RX6 110 RX5 yX5_has wsX5_has) := goodIn_app (goodIn_of _ (by decide +kernel)) ggX6_greatestLength_X5_has
set_option maxRecDepth 20000 in
theorem ggX6_greatestLength_X5_copyFrom : GoodIn wsX6_greatestLength wsX5_copyFrom := goodIn_r _ [19, 12, 20, 21, 22, 23, 24, 25, 26, 27, 28, 29, 30, 31, 32, 33, 34, 141, 142, 143, 144, 145, 146, 147, 148, 149, 150, 165] (by decide +kernel) (by decide +kernel)
set_option maxRecDepth 20000 in
theorem gX6_greatestLength_X5_copyFrom : GoodIn wsX6_greatestLength (wsV RX6 94 RX5 yX5_copyFrom wsX5_copyFrom) := goodIn_app (goodIn_of _ (by decide +kernel)) ggX6_greatestLength_X5_copyFrom
set_option maxRecDepth 20000 in
theorem ggX6_greatestLength_X3_at : GoodIn wsX6_greatestLength wsX3_at := goodIn_r _ [38, 34, 165] (by decide +kernel) (by decide +kernel)
set_option maxRecDepth 20000 in
theorem gX6_greatestLength_X3_at : GoodIn wsX6_greatestLength (wsV RX6 150 RX3 yX3_at wsX3_at) := goodIn_app (goodIn_of _ (by decide +kernel)) ggX6_greatestLength_X3_at
set_option maxRecDepth 20000 in
theorem ggX6_greatestLength_X3_put : GoodIn wsX6_greatestLength wsX3_put := goodIn_r _ [42, 34, 165] (by decide +kernel) (by decide +kernel)
set_option maxRecDepth 20000 in
theorem gX6_greatestLength_X3_put : GoodIn wsX6_greatestLength (wsV RX6 128 RX3 yX3_put wsX3_put) := goodIn_app (goodIn_of _ (by decide +kernel)) ggX6_greatestLength_X3_put
set_option maxRecDepth 20000 in
theorem ggX6_greatestLength_X5_linesOf : GoodIn wsX6_greatestLength wsX5_linesOf := goodIn_r _ [46, 21, 22, 47, 36, 37, 32, 38, 34, 48, 49, 50, 10, 51, 25, 141, 142, 143, 144, 145, 146, 147, 148, 149, 150, 165] (by decide +kernel) (by decide +kernel)
set_option maxRecDepth 20000 in
theorem gX6_greatestLength_X5_linesOf : GoodIn wsX6_greatestLength (wsV RX6 132 RX5 yX5_linesOf wsX5_linesOf) := goodIn_app (goodIn_of _ (by decide +kernel)) ggX6_greatestLength_X5_linesOf
set_option maxRecDepth 20000 in
theorem ggX6_greatestLength_X1_arrange : GoodIn wsX6_greatestLength wsX1_arrange := goodIn_r _ [56, 57, 58, 59, 60, 61, 62, 55, 63, 64, 65, 36, 37, 32, 38, 34, 66, 44, 45, 10, 46, 21, 22, 47, 48, 49, 50, 51, 25, 67, 68, 69, 70, 71, 72, 73, 8, 9, 11, 12, 13, 14, 15, 74, 75, 76, 77, 78, 40, 41, 42, 79, 80, 81, 82, 83, 84, 85, 86, 87, 88, 89, 90, 91, 92, 93, 94, 95, 96, 97, 98, 99, 100, 101, 102, 103, 104, 105, 106, 107, 108, 109, 110, 111, 112, 113, 114, 115, 116, 117, 118, 119, 120, 121, 122, 123, 124, 125, 126, 127, 128, 129, 130, 131, 151, 152, 153, 154, 155, 156, 157, 158, 159, 160, 161, 162, 163, 164, 141, 142, 143, 144, 145, 146, 147, 148, 149, 150, 165] (by decide +kernel) (by decide +kernel)
set_option maxRecDepth 20000 in
theorem gX6_greatestLength_X1_arrange : GoodIn wsX6_greatestLength (wsV RX6 215 RX1 yX1_arrange wsX1_arrange) := goodIn_app (goodIn_of _ (by decide +kernel)) ggX6_greatestLength_X1_arrange
theorem dX6_greatestLength_0 : decode cX6_greatestLength 0 = .ok (.aload_n 0, 1) := by decide +kernel
theorem dX6_greatestLength_1 : decode cX6_greatestLength 1 = .ok (.getfield 12, 3) := by decide +kernel
theorem dX6_greatestLength_4 : decode cX6_greatestLength 4 = .ok (.iload_n 1, 1) := by decide +kernel
theorem dX6_greatestLength_5 : decode cX6_greatestLength 5 = .ok (.invokevirtual 110, 3) := by decide +kernel
theorem dX6_greatestLength_8 : decode cX6_greatestLength 8 = .ok (.ifCond .ne 13, 3) := by decide +kernel
theorem dX6_greatestLength_11 : decode cX6_greatestLength 11 = .ok (.new 62, 3) := by decide +kernel
theorem dX6_greatestLength_14 : decode cX6_greatestLength 14 = .ok (.dup, 1) := by decide +kernel
theorem dX6_greatestLength_15 : decode cX6_greatestLength 15 = .ok (.ldc 113, 2) := by decide +kernel
theorem dX6_greatestLength_17 : decode cX6_greatestLength 17 = .ok (.invokespecial 66, 3) := by decide +kernel
theorem dX6_greatestLength_20 : decode cX6_greatestLength 20 = .ok (.athrow, 1) := by decide +kernel
theorem dX6_greatestLength_21 : decode cX6_greatestLength 21 = .ok (.aload_n 0, 1) := by decide +kernel
theorem dX6_greatestLength_22 : decode cX6_greatestLength 22 = .ok (.getfield 16, 3) := by decide +kernel
theorem dX6_greatestLength_25 : decode cX6_greatestLength 25 = .ok (.aload_n 0, 1) := by decide +kernel
theorem dX6_greatestLength_26 : decode cX6_greatestLength 26 = .ok (.getfield 12, 3) := by decide +kernel
theorem dX6_greatestLength_29 : decode cX6_greatestLength 29 = .ok (.invokevirtual 94, 3) := by decide +kernel
theorem dX6_greatestLength_32 : decode cX6_greatestLength 32 = .ok (.aload_n 0, 1) := by decide +kernel
theorem dX6_greatestLength_33 : decode cX6_greatestLength 33 = .ok (.getfield 12, 3) := by decide +kernel
theorem dX6_greatestLength_36 : decode cX6_greatestLength 36 = .ok (.getfield 125, 3) := by decide +kernel
theorem dX6_greatestLength_39 : decode cX6_greatestLength 39 = .ok (.iload_n 1, 1) := by decide +kernel
theorem dX6_greatestLength_40 : decode cX6_greatestLength 40 = .ok (.invokevirtual 150, 3) := by decide +kernel
theorem dX6_greatestLength_43 : decode cX6_greatestLength 43 = .ok (.istore_n 2, 1) := by decide +kernel
theorem dX6_greatestLength_44 : decode cX6_greatestLength 44 = .ok (.iconst (-1), 1) := by decide +kernel
theorem dX6_greatestLength_45 : decode cX6_greatestLength 45 = .ok (.istore_n 3, 1) := by decide +kernel
theorem dX6_greatestLength_46 : decode cX6_greatestLength 46 = .ok (.sipush 400, 3) := by decide +kernel
theorem dX6_greatestLength_49 : decode cX6_greatestLength 49 = .ok (.istore 4, 2) := by decide +kernel
theorem dX6_greatestLength_51 : decode cX6_greatestLength 51 = .ok (.iload 4, 2) := by decide +kernel
theorem dX6_greatestLength_53 : decode cX6_greatestLength 53 = .ok (.iload_n 2, 1) := by decide +kernel
theorem dX6_greatestLength_54 : decode cX6_greatestLength 54 = .ok (.if_icmp .le 65, 3) := by decide +kernel
theorem dX6_greatestLength_57 : decode cX6_greatestLength 57 = .ok (.aload_n 0, 1) := by decide +kernel
theorem dX6_greatestLength_58 : decode cX6_greatestLength 58 = .ok (.getfield 16, 3) := by decide +kernel
theorem dX6_greatestLength_61 : decode cX6_greatestLength 61 = .ok (.getfield 125, 3) := by decide +kernel
theorem dX6_greatestLength_64 : decode cX6_greatestLength 64 = .ok (.iload_n 1, 1) := by decide +kernel
theorem dX6_greatestLength_65 : decode cX6_greatestLength 65 = .ok (.iload 4, 2) := by decide +kernel
theorem dX6_greatestLength_67 : decode cX6_greatestLength 67 = .ok (.invokevirtual 128, 3) := by decide +kernel
theorem dX6_greatestLength_70 : decode cX6_greatestLength 70 = .ok (.aload_n 0, 1) := by decide +kernel
theorem dX6_greatestLength_71 : decode cX6_greatestLength 71 = .ok (.getfield 16, 3) := by decide +kernel
theorem dX6_greatestLength_74 : decode cX6_greatestLength 74 = .ok (.iload_n 1, 1) := by decide +kernel
theorem dX6_greatestLength_75 : decode cX6_greatestLength 75 = .ok (.invokevirtual 132, 3) := by decide +kernel
theorem dX6_greatestLength_78 : decode cX6_greatestLength 78 = .ok (.istore 5, 2) := by decide +kernel
theorem dX6_greatestLength_80 : decode cX6_greatestLength 80 = .ok (.iload 5, 2) := by decide +kernel
theorem dX6_greatestLength_82 : decode cX6_greatestLength 82 = .ok (.iload_n 3, 1) := by decide +kernel
theorem dX6_greatestLength_83 : decode cX6_greatestLength 83 = .ok (.if_icmp .eq 27, 3) := by decide +kernel
theorem dX6_greatestLength_86 : decode cX6_greatestLength 86 = .ok (.aload_n 0, 1) := by decide +kernel
theorem dX6_greatestLength_87 : decode cX6_greatestLength 87 = .ok (.getfield 36, 3) := by decide +kernel
theorem dX6_greatestLength_90 : decode cX6_greatestLength 90 = .ok (.aload_n 0, 1) := by decide +kernel
theorem dX6_greatestLength_91 : decode cX6_greatestLength 91 = .ok (.getfield 16, 3) := by decide +kernel
theorem dX6_greatestLength_94 : decode cX6_greatestLength 94 = .ok (.invokevirtual 215, 3) := by decide +kernel
theorem dX6_greatestLength_97 : decode cX6_greatestLength 97 = .ok (.aload_n 0, 1) := by decide +kernel
theorem dX6_greatestLength_98 : decode cX6_greatestLength 98 = .ok (.getfield 32, 3) := by decide +kernel
theorem dX6_greatestLength_101 : decode cX6_greatestLength 101 = .ok (.getfield 182, 3) := by decide +kernel
theorem dX6_greatestLength_104 : decode cX6_greatestLength 104 = .ok (.if_icmp .gt 6, 3) := by decide +kernel
theorem dX6_greatestLength_107 : decode cX6_greatestLength 107 = .ok (.iload 4, 2) := by decide +kernel
theorem dX6_greatestLength_109 : decode cX6_greatestLength 109 = .ok (.ireturn, 1) := by decide +kernel
theorem dX6_greatestLength_110 : decode cX6_greatestLength 110 = .ok (.iload 5, 2) := by decide +kernel
theorem dX6_greatestLength_112 : decode cX6_greatestLength 112 = .ok (.istore_n 3, 1) := by decide +kernel
theorem dX6_greatestLength_113 : decode cX6_greatestLength 113 = .ok (.iinc 4 (-1), 3) := by decide +kernel
theorem dX6_greatestLength_116 : decode cX6_greatestLength 116 = .ok (.goto (-65), 3) := by decide +kernel
theorem dX6_greatestLength_119 : decode cX6_greatestLength 119 = .ok (.iload_n 2, 1) := by decide +kernel
theorem dX6_greatestLength_120 : decode cX6_greatestLength 120 = .ok (.ireturn, 1) := by decide +kernel
set_option maxRecDepth 20000 in
theorem ggX6_append_X3_put : GoodIn wsX6_append wsX3_put := goodIn_r _ [11, 12, 22] (by decide +kernel) (by decide +kernel)
set_option maxRecDepth 20000 in
theorem gX6_append_X3_put : GoodIn wsX6_append (wsV RX6 128 RX3 yX3_put wsX3_put) := goodIn_app (goodIn_of _ (by decide +kernel)) ggX6_append_X3_put
theorem dX6_append_0 : decode cX6_append 0 = .ok (.iload_n 1, 1) := by decide +kernel
theorem dX6_append_1 : decode cX6_append 1 = .ok (.ifCond .lt 9, 3) := by decide +kernel
theorem dX6_append_4 : decode cX6_append 4 = .ok (.iload_n 1, 1) := by decide +kernel
theorem dX6_append_5 : decode cX6_append 5 = .ok (.bipush 127, 2) := by decide +kernel
theorem dX6_append_7 : decode cX6_append 7 = .ok (.if_icmp .le 13, 3) := by decide +kernel
theorem dX6_append_10 : decode cX6_append 10 = .ok (.new 80, 3) := by decide +kernel
theorem dX6_append_13 : decode cX6_append 13 = .ok (.dup, 1) := by decide +kernel
theorem dX6_append_14 : decode cX6_append 14 = .ok (.ldc 221, 2) := by decide +kernel
theorem dX6_append_16 : decode cX6_append 16 = .ok (.invokespecial 84, 3) := by decide +kernel
theorem dX6_append_19 : decode cX6_append 19 = .ok (.athrow, 1) := by decide +kernel
theorem dX6_append_20 : decode cX6_append 20 = .ok (.aload_n 0, 1) := by decide +kernel
theorem dX6_append_21 : decode cX6_append 21 = .ok (.getfield 55, 3) := by decide +kernel
theorem dX6_append_24 : decode cX6_append 24 = .ok (.sipush 200, 3) := by decide +kernel
theorem dX6_append_27 : decode cX6_append 27 = .ok (.if_icmp .lt 13, 3) := by decide +kernel
theorem dX6_append_30 : decode cX6_append 30 = .ok (.new 89, 3) := by decide +kernel
theorem dX6_append_33 : decode cX6_append 33 = .ok (.dup, 1) := by decide +kernel
theorem dX6_append_34 : decode cX6_append 34 = .ok (.ldc 223, 2) := by decide +kernel
theorem dX6_append_36 : decode cX6_append 36 = .ok (.invokespecial 93, 3) := by decide +kernel
theorem dX6_append_39 : decode cX6_append 39 = .ok (.athrow, 1) := by decide +kernel
theorem dX6_append_40 : decode cX6_append 40 = .ok (.aload_n 0, 1) := by decide +kernel
theorem dX6_append_41 : decode cX6_append 41 = .ok (.getfield 51, 3) := by decide +kernel
theorem dX6_append_44 : decode cX6_append 44 = .ok (.aload_n 0, 1) := by decide +kernel
theorem dX6_append_45 : decode cX6_append 45 = .ok (.getfield 55, 3) := by decide +kernel
theorem dX6_append_48 : decode cX6_append 48 = .ok (.iload_n 1, 1) := by decide +kernel
theorem dX6_append_49 : decode cX6_append 49 = .ok (.invokevirtual 128, 3) := by decide +kernel
theorem dX6_append_52 : decode cX6_append 52 = .ok (.aload_n 0, 1) := by decide +kernel
theorem dX6_append_53 : decode cX6_append 53 = .ok (.dup, 1) := by decide +kernel
theorem dX6_append_54 : decode cX6_append 54 = .ok (.getfield 55, 3) := by decide +kernel
theorem dX6_append_57 : decode cX6_append 57 = .ok (.iconst 1, 1) := by decide +kernel
theorem dX6_append_58 : decode cX6_append 58 = .ok (.iadd, 1) := by decide +kernel
theorem dX6_append_59 : decode cX6_append 59 = .ok (.putfield 55, 3) := by decide +kernel
theorem dX6_append_62 : decode cX6_append 62 = .ok (.aload_n 0, 1) := by decide +kernel
theorem dX6_append_63 : decode cX6_append 63 = .ok (.getfield 55, 3) := by decide +kernel
theorem dX6_append_66 : decode cX6_append 66 = .ok (.ireturn, 1) := by decide +kernel
theorem dX6_clearText_0 : decode cX6_clearText 0 = .ok (.aload_n 0, 1) := by decide +kernel
theorem dX6_clearText_1 : decode cX6_clearText 1 = .ok (.getfield 55, 3) := by decide +kernel
theorem dX6_clearText_4 : decode cX6_clearText 4 = .ok (.istore_n 1, 1) := by decide +kernel
theorem dX6_clearText_5 : decode cX6_clearText 5 = .ok (.aload_n 0, 1) := by decide +kernel
theorem dX6_clearText_6 : decode cX6_clearText 6 = .ok (.iconst 0, 1) := by decide +kernel
theorem dX6_clearText_7 : decode cX6_clearText 7 = .ok (.putfield 55, 3) := by decide +kernel
theorem dX6_clearText_10 : decode cX6_clearText 10 = .ok (.iload_n 1, 1) := by decide +kernel
theorem dX6_clearText_11 : decode cX6_clearText 11 = .ok (.ireturn, 1) := by decide +kernel
set_option maxRecDepth 20000 in
theorem ggX6_parse_X5_clear : GoodIn wsX6_parse wsX5_clear := goodIn_r _ [12, 13, 279, 280, 281, 282, 283, 284, 285, 286, 287, 288] (by decide +kernel) (by decide +kernel)
set_option maxRecDepth 20000 in
theorem gX6_parse_X5_clear : GoodIn wsX6_parse (wsV RX6 225 RX5 yX5_clear wsX5_clear) := goodIn_app (goodIn_of _ (by decide +kernel)) ggX6_parse_X5_clear
set_option maxRecDepth 20000 in
theorem ggX6_parse_X2_init : GoodIn wsX6_parse wsX2_init := goodIn_r _ [16, 17, 18, 19, 20, 21, 22, 23, 289, 290, 291, 292] (by decide +kernel) (by decide +kernel)
set_option maxRecDepth 20000 in
theorem gX6_parse_X2_init : GoodIn wsX6_parse (wsX2_init) := ggX6_parse_X2_init
set_option maxRecDepth 20000 in
theorem ggX6_parse_X2_readInto : GoodIn wsX6_parse wsX2_readInto := goodIn_r _ [27, 20, 23, 21, 28, 29, 30, 5, 31, 32, 33, 34, 35, 22, 36, 37, 38, 39, 40, 41, 42, 43, 44, 45, 46, 47, 11, 48, 13, 49, 50, 51, 52, 53, 54, 55, 56, 57, 58, 59, 60, 61, 62, 63, 64, 65, 66, 67, 68, 69, 70, 71, 72, 73, 74, 75, 76, 77, 78, 79, 80, 81, 82, 83, 84, 85, 86, 87, 88, 89, 90, 91, 289, 290, 291, 292, 279, 280, 281, 282, 283, 284, 285, 286, 287, 288, 293] (by decide +kernel) (by decide +kernel)
set_option maxRecDepth 20000 in
theorem gX6_parse_X2_readInto : GoodIn wsX6_parse (wsV RX6 233 RX2 yX2_readInto wsX2_readInto) := goodIn_app (goodIn_of _ (by decide +kernel)) ggX6_parse_X2_readInto
set_option maxRecDepth 20000 in
theorem ggX6_parse_X6_keepDraft : GoodIn wsX6_parse wsX6_keepDraft := goodIn_r _ [95, 96, 2, 1, 97, 98, 99, 100, 101, 102, 103, 104, 105, 106, 107, 108, 109, 110, 111, 112, 113, 114, 115, 116, 11, 117, 13, 118, 75, 76, 77, 78, 79, 80, 81, 82, 119, 120, 121, 39, 122, 41, 123, 124, 125, 126, 127, 128, 129, 130, 131, 132, 133, 134, 135, 136, 137, 138, 139, 140, 141, 142, 143, 37, 38, 40, 144, 89, 90, 91, 145, 146, 147, 148, 149, 150, 151, 152, 153, 154, 155, 156, 157, 158, 159, 160, 161, 162, 163, 164, 165, 166, 167, 168, 169, 170, 171, 172, 173, 174, 175, 176, 177, 178, 179, 180, 181, 182, 183, 184, 185, 186, 187, 188, 189, 190, 191, 192, 193, 194, 195, 196, 197, 198, 199, 200, 201, 202, 203, 204, 205, 206, 207, 208, 209, 210, 211, 212, 213, 69, 214, 215, 216, 217, 218, 219, 220, 221, 222, 223, 224, 225, 226, 227, 228, 229, 230, 231, 232, 233, 234, 235, 236, 237, 238, 239, 240, 241, 242, 243, 244, 245, 246, 247, 248, 249, 250, 251, 252, 253, 254, 255, 256, 257, 258, 259, 260, 261, 262, 263, 264, 265, 266, 267, 268, 269, 270, 271, 272, 273, 274, 275, 276, 277, 278, 294, 295, 279, 280, 281, 282, 283, 284, 285, 286, 287, 288, 293, 296, 297, 298, 299, 300, 301, 302, 303, 304, 305, 306, 307, 308, 309, 310, 311, 312, 313, 314, 315, 316, 317, 318, 319, 320, 321] (by decide +kernel) (by decide +kernel)
set_option maxRecDepth 20000 in
theorem gX6_parse_X6_keepDraft : GoodIn wsX6_parse (wsV RX6 107 RX6 yX6_keepDraft wsX6_keepDraft) := goodIn_app (goodIn_of _ (by decide +kernel)) ggX6_parse_X6_keepDraft
theorem dX6_parse_0 : decode cX6_parse 0 = .ok (.aload_n 0, 1) := by decide +kernel
theorem dX6_parse_1 : decode cX6_parse 1 = .ok (.getfield 16, 3) := by decide +kernel
theorem dX6_parse_4 : decode cX6_parse 4 = .ok (.invokevirtual 225, 3) := by decide +kernel
theorem dX6_parse_7 : decode cX6_parse 7 = .ok (.aload_n 0, 1) := by decide +kernel
theorem dX6_parse_8 : decode cX6_parse 8 = .ok (.getfield 16, 3) := by decide +kernel
theorem dX6_parse_11 : decode cX6_parse 11 = .ok (.aload_n 0, 1) := by decide +kernel
theorem dX6_parse_12 : decode cX6_parse 12 = .ok (.getfield 12, 3) := by decide +kernel
theorem dX6_parse_15 : decode cX6_parse 15 = .ok (.getfield 141, 3) := by decide +kernel
theorem dX6_parse_18 : decode cX6_parse 18 = .ok (.putfield 141, 3) := by decide +kernel
theorem dX6_parse_21 : decode cX6_parse 21 = .ok (.new 228, 3) := by decide +kernel
theorem dX6_parse_24 : decode cX6_parse 24 = .ok (.dup, 1) := by decide +kernel
theorem dX6_parse_25 : decode cX6_parse 25 = .ok (.aload_n 0, 1) := by decide +kernel
theorem dX6_parse_26 : decode cX6_parse 26 = .ok (.getfield 51, 3) := by decide +kernel
theorem dX6_parse_29 : decode cX6_parse 29 = .ok (.aload_n 0, 1) := by decide +kernel
theorem dX6_parse_30 : decode cX6_parse 30 = .ok (.getfield 55, 3) := by decide +kernel
theorem dX6_parse_33 : decode cX6_parse 33 = .ok (.invokespecial 230, 3) := by decide +kernel
theorem dX6_parse_36 : decode cX6_parse 36 = .ok (.astore_n 1, 1) := by decide +kernel
theorem dX6_parse_37 : decode cX6_parse 37 = .ok (.aload_n 1, 1) := by decide +kernel
theorem dX6_parse_38 : decode cX6_parse 38 = .ok (.aload_n 0, 1) := by decide +kernel
theorem dX6_parse_39 : decode cX6_parse 39 = .ok (.getfield 16, 3) := by decide +kernel
theorem dX6_parse_42 : decode cX6_parse 42 = .ok (.invokevirtual 233, 3) := by decide +kernel
theorem dX6_parse_45 : decode cX6_parse 45 = .ok (.istore_n 2, 1) := by decide +kernel
theorem dX6_parse_46 : decode cX6_parse 46 = .ok (.iload_n 2, 1) := by decide +kernel
theorem dX6_parse_47 : decode cX6_parse 47 = .ok (.iconst (-1), 1) := by decide +kernel
theorem dX6_parse_48 : decode cX6_parse 48 = .ok (.if_icmp .eq 8, 3) := by decide +kernel
theorem dX6_parse_51 : decode cX6_parse 51 = .ok (.bipush (-10), 2) := by decide +kernel
theorem dX6_parse_53 : decode cX6_parse 53 = .ok (.iload_n 2, 1) := by decide +kernel
theorem dX6_parse_54 : decode cX6_parse 54 = .ok (.isub, 1) := by decide +kernel
theorem dX6_parse_55 : decode cX6_parse 55 = .ok (.ireturn, 1) := by decide +kernel
theorem dX6_parse_56 : decode cX6_parse 56 = .ok (.aload_n 0, 1) := by decide +kernel
theorem dX6_parse_57 : decode cX6_parse 57 = .ok (.invokevirtual 107, 3) := by decide +kernel
theorem dX6_parse_60 : decode cX6_parse 60 = .ok (.aload_n 0, 1) := by decide +kernel
theorem dX6_parse_61 : decode cX6_parse 61 = .ok (.getfield 12, 3) := by decide +kernel
theorem dX6_parse_64 : decode cX6_parse 64 = .ok (.getfield 59, 3) := by decide +kernel
theorem dX6_parse_67 : decode cX6_parse 67 = .ok (.ireturn, 1) := by decide +kernel
set_option maxRecDepth 20000 in
theorem ggX6_undo_X0_giveBack : GoodIn wsX6_undo wsX0_giveBack := goodIn_r _ [11, 12, 13, 14, 15, 10, 16, 17, 18, 19, 20, 21, 22, 23, 24, 25, 26, 27, 28, 29, 30, 31, 32, 33, 34, 35, 36, 37, 38, 201, 202, 203, 204, 205, 206, 207, 208, 209, 210, 211, 212, 213] (by decide +kernel) (by decide +kernel)
set_option maxRecDepth 20000 in
theorem gX6_undo_X0_giveBack : GoodIn wsX6_undo (wsV RX6 239 RX0 yX0_giveBack wsX0_giveBack) := goodIn_app (goodIn_of _ (by decide +kernel)) ggX6_undo_X0_giveBack
set_option maxRecDepth 20000 in
theorem ggX6_undo_X4_survey : GoodIn wsX6_undo wsX4_survey := goodIn_r _ [43, 44, 45, 46, 42, 47, 48, 49, 50, 51, 52, 53, 54, 55, 56, 21, 57, 25, 58, 59, 60, 36, 61, 38, 62, 63, 64, 65, 66, 67, 68, 69, 29, 70, 71, 72, 73, 74, 75, 76, 77, 26, 78, 79, 80, 81, 82, 83, 84, 85, 86, 87, 88, 89, 90, 91, 92, 93, 94, 95, 96, 97, 98, 99, 100, 101, 102, 103, 104, 105, 106, 107, 108, 214, 215, 216, 217, 218, 219, 220, 221, 222, 223, 224, 225, 203, 204, 205, 206, 207, 208, 209, 210, 211, 212, 213] (by decide +kernel) (by decide +kernel)
set_option maxRecDepth 20000 in
theorem gX6_undo_X4_survey : GoodIn wsX6_undo (wsV RX6 242 RX4 yX4_survey wsX4_survey) := goodIn_app (goodIn_of _ (by decide +kernel)) ggX6_undo_X4_survey
set_option maxRecDepth 20000 in
theorem ggX6_undo_X1_arrange : GoodIn wsX6_undo wsX1_arrange := goodIn_r _ [113, 114, 115, 116, 117, 118, 119, 112, 120, 121, 122, 59, 60, 36, 61, 38, 123, 75, 76, 21, 77, 25, 26, 58, 78, 79, 80, 81, 29, 124, 125, 126, 127, 128, 129, 130, 131, 132, 133, 23, 134, 135, 136, 137, 138, 139, 140, 141, 63, 64, 65, 142, 143, 144, 145, 146, 147, 148, 149, 150, 151, 152, 153, 154, 155, 156, 157, 158, 159, 160, 161, 162, 163, 164, 165, 166, 167, 168, 169, 170, 171, 172, 173, 174, 175, 176, 71, 72, 73, 177, 178, 179, 180, 181, 182, 183, 184, 185, 186, 187, 188, 189, 190, 191, 226, 227, 228, 229, 230, 231, 232, 233, 234, 235, 236, 237, 238, 239, 203, 204, 205, 206, 207, 208, 209, 210, 211, 212, 213] (by decide +kernel) (by decide +kernel)
set_option maxRecDepth 20000 in
theorem gX6_undo_X1_arrange : GoodIn wsX6_undo (wsV RX6 215 RX1 yX1_arrange wsX1_arrange) := goodIn_app (goodIn_of _ (by decide +kernel)) ggX6_undo_X1_arrange
theorem dX6_undo_0 : decode cX6_undo 0 = .ok (.aload_n 0, 1) := by decide +kernel
theorem dX6_undo_1 : decode cX6_undo 1 = .ok (.getfield 42, 3) := by decide +kernel
theorem dX6_undo_4 : decode cX6_undo 4 = .ok (.getfield 236, 3) := by decide +kernel
theorem dX6_undo_7 : decode cX6_undo 7 = .ok (.ifCond .ne 13, 3) := by decide +kernel
theorem dX6_undo_10 : decode cX6_undo 10 = .ok (.new 89, 3) := by decide +kernel
theorem dX6_undo_13 : decode cX6_undo 13 = .ok (.dup, 1) := by decide +kernel
theorem dX6_undo_14 : decode cX6_undo 14 = .ok (.ldc 237, 2) := by decide +kernel
theorem dX6_undo_16 : decode cX6_undo 16 = .ok (.invokespecial 93, 3) := by decide +kernel
theorem dX6_undo_19 : decode cX6_undo 19 = .ok (.athrow, 1) := by decide +kernel
theorem dX6_undo_20 : decode cX6_undo 20 = .ok (.aload_n 0, 1) := by decide +kernel
theorem dX6_undo_21 : decode cX6_undo 21 = .ok (.getfield 42, 3) := by decide +kernel
theorem dX6_undo_24 : decode cX6_undo 24 = .ok (.aload_n 0, 1) := by decide +kernel
theorem dX6_undo_25 : decode cX6_undo 25 = .ok (.getfield 12, 3) := by decide +kernel
theorem dX6_undo_28 : decode cX6_undo 28 = .ok (.invokevirtual 239, 3) := by decide +kernel
theorem dX6_undo_31 : decode cX6_undo 31 = .ok (.aload_n 0, 1) := by decide +kernel
theorem dX6_undo_32 : decode cX6_undo 32 = .ok (.getfield 22, 3) := by decide +kernel
theorem dX6_undo_35 : decode cX6_undo 35 = .ok (.aload_n 0, 1) := by decide +kernel
theorem dX6_undo_36 : decode cX6_undo 36 = .ok (.getfield 12, 3) := by decide +kernel
theorem dX6_undo_39 : decode cX6_undo 39 = .ok (.invokevirtual 242, 3) := by decide +kernel
theorem dX6_undo_42 : decode cX6_undo 42 = .ok (.aload_n 0, 1) := by decide +kernel
theorem dX6_undo_43 : decode cX6_undo 43 = .ok (.getfield 32, 3) := by decide +kernel
theorem dX6_undo_46 : decode cX6_undo 46 = .ok (.aload_n 0, 1) := by decide +kernel
theorem dX6_undo_47 : decode cX6_undo 47 = .ok (.getfield 12, 3) := by decide +kernel
theorem dX6_undo_50 : decode cX6_undo 50 = .ok (.invokevirtual 215, 3) := by decide +kernel
theorem dX6_undo_53 : decode cX6_undo 53 = .ok (.pop, 1) := by decide +kernel
theorem dX6_undo_54 : decode cX6_undo 54 = .ok (.aload_n 0, 1) := by decide +kernel
theorem dX6_undo_55 : decode cX6_undo 55 = .ok (.getfield 42, 3) := by decide +kernel
theorem dX6_undo_58 : decode cX6_undo 58 = .ok (.getfield 236, 3) := by decide +kernel
theorem dX6_undo_61 : decode cX6_undo 61 = .ok (.ireturn, 1) := by decide +kernel
set_option maxRecDepth 20000 in
theorem ggX6_digest_X6_valueOf : GoodIn wsX6_digest wsX6_valueOf := goodIn_r _ [12, 4, 5, 6, 53, 54, 55, 56, 57, 58, 59, 60, 61, 62, 63, 64, 65, 66, 67, 68, 69, 70, 71, 72, 73, 74, 75, 76, 77, 78, 79, 80, 81, 82, 83, 84, 85, 86, 87, 88, 89, 90, 91, 92, 93, 94, 95, 96, 97] (by decide +kernel) (by decide +kernel)
set_option maxRecDepth 20000 in
theorem gX6_digest_X6_valueOf : GoodIn wsX6_digest (wsV RX6 189 RX6 yX6_valueOf wsX6_valueOf) := goodIn_app (goodIn_of _ (by decide +kernel)) ggX6_digest_X6_valueOf
set_option maxRecDepth 20000 in
theorem ggX6_digest_X6_elementFact : GoodIn wsX6_digest wsX6_elementFact := goodIn_r _ [16, 4, 5, 6, 17, 18, 19, 20, 21, 22, 23, 24, 25, 26, 27, 28, 29, 30, 31, 32, 33, 34, 35, 53, 54, 55, 56, 57, 58, 59, 60, 61, 62, 63, 64, 65, 66, 67, 68, 69, 70, 71, 72, 73, 74, 75, 76, 77, 78, 79, 80, 81, 82, 83, 84, 85, 86, 87, 88, 89, 90, 91, 92, 93, 94, 95, 96, 97, 100] (by decide +kernel) (by decide +kernel)
set_option maxRecDepth 20000 in
theorem gX6_digest_X6_elementFact : GoodIn wsX6_digest (wsV RX6 192 RX6 yX6_elementFact wsX6_elementFact) := goodIn_app (goodIn_of _ (by decide +kernel)) ggX6_digest_X6_elementFact
set_option maxRecDepth 20000 in
theorem ggX6_digest_X6_sceneFact : GoodIn wsX6_digest wsX6_sceneFact := goodIn_r _ [39, 5, 4, 6, 17, 18, 19, 20, 21, 22, 40, 41, 42, 26, 43, 35, 30, 44, 32, 33, 34, 45, 46, 47, 11, 48, 53, 54, 55, 56, 57, 58, 59, 60, 61, 72, 73, 74, 75, 76, 77, 78, 79, 80, 81, 82, 83, 84, 85, 86, 87, 88, 89, 90, 91, 92, 93, 94, 95, 96, 97, 100, 62, 63, 64, 65, 66, 67, 68, 69, 70, 71] (by decide +kernel) (by decide +kernel)
set_option maxRecDepth 20000 in
theorem gX6_digest_X6_sceneFact : GoodIn wsX6_digest (wsV RX6 196 RX6 yX6_sceneFact wsX6_sceneFact) := goodIn_app (goodIn_of _ (by decide +kernel)) ggX6_digest_X6_sceneFact
set_option maxRecDepth 20000 in
theorem ggX6_digest_X6_pageFact : GoodIn wsX6_digest wsX6_pageFact := goodIn_r _ [52, 6, 17, 18, 19, 20, 21, 22, 53, 54, 55, 56, 57, 58, 59, 60, 61, 84, 85, 86, 87, 88, 89, 90, 91, 92, 93, 94, 95, 96, 97, 100] (by decide +kernel) (by decide +kernel)
set_option maxRecDepth 20000 in
theorem gX6_digest_X6_pageFact : GoodIn wsX6_digest (wsV RX6 201 RX6 yX6_pageFact wsX6_pageFact) := goodIn_app (goodIn_of _ (by decide +kernel)) ggX6_digest_X6_pageFact
theorem dX6_digest_0 : decode cX6_digest 0 = .ok (.ldc2_w 245, 3) := by decide +kernel
theorem dX6_digest_3 : decode cX6_digest 3 = .ok (.aload_n 0, 1) := by decide +kernel
theorem dX6_digest_4 : decode cX6_digest 4 = .ok (.getfield 55, 3) := by decide +kernel
theorem dX6_digest_7 : decode cX6_digest 7 = .ok (.i2l, 1) := by decide +kernel
theorem dX6_digest_8 : decode cX6_digest 8 = .ok (.ladd, 1) := by decide +kernel
theorem dX6_digest_9 : decode cX6_digest 9 = .ok (.lstore_n 1, 1) := by decide +kernel
theorem dX6_digest_10 : decode cX6_digest 10 = .ok (.iconst 0, 1) := by decide +kernel
theorem dX6_digest_11 : decode cX6_digest 11 = .ok (.istore_n 3, 1) := by decide +kernel
theorem dX6_digest_12 : decode cX6_digest 12 = .ok (.iload_n 3, 1) := by decide +kernel
theorem dX6_digest_13 : decode cX6_digest 13 = .ok (.bipush 8, 2) := by decide +kernel
theorem dX6_digest_15 : decode cX6_digest 15 = .ok (.if_icmp .ge 22, 3) := by decide +kernel
theorem dX6_digest_18 : decode cX6_digest 18 = .ok (.ldc2_w 247, 3) := by decide +kernel
theorem dX6_digest_21 : decode cX6_digest 21 = .ok (.lload_n 1, 1) := by decide +kernel
theorem dX6_digest_22 : decode cX6_digest 22 = .ok (.lmul, 1) := by decide +kernel
theorem dX6_digest_23 : decode cX6_digest 23 = .ok (.aload_n 0, 1) := by decide +kernel
theorem dX6_digest_24 : decode cX6_digest 24 = .ok (.iload_n 3, 1) := by decide +kernel
theorem dX6_digest_25 : decode cX6_digest 25 = .ok (.invokevirtual 189, 3) := by decide +kernel
theorem dX6_digest_28 : decode cX6_digest 28 = .ok (.i2l, 1) := by decide +kernel
theorem dX6_digest_29 : decode cX6_digest 29 = .ok (.ladd, 1) := by decide +kernel
theorem dX6_digest_30 : decode cX6_digest 30 = .ok (.lstore_n 1, 1) := by decide +kernel
theorem dX6_digest_31 : decode cX6_digest 31 = .ok (.iinc 3 1, 3) := by decide +kernel
theorem dX6_digest_34 : decode cX6_digest 34 = .ok (.goto (-22), 3) := by decide +kernel
theorem dX6_digest_37 : decode cX6_digest 37 = .ok (.iconst 0, 1) := by decide +kernel
theorem dX6_digest_38 : decode cX6_digest 38 = .ok (.istore_n 3, 1) := by decide +kernel
theorem dX6_digest_39 : decode cX6_digest 39 = .ok (.iload_n 3, 1) := by decide +kernel
theorem dX6_digest_40 : decode cX6_digest 40 = .ok (.aload_n 0, 1) := by decide +kernel
theorem dX6_digest_41 : decode cX6_digest 41 = .ok (.getfield 12, 3) := by decide +kernel
theorem dX6_digest_44 : decode cX6_digest 44 = .ok (.getfield 59, 3) := by decide +kernel
theorem dX6_digest_47 : decode cX6_digest 47 = .ok (.if_icmp .ge 40, 3) := by decide +kernel
theorem dX6_digest_50 : decode cX6_digest 50 = .ok (.iconst 0, 1) := by decide +kernel
theorem dX6_digest_51 : decode cX6_digest 51 = .ok (.istore 4, 2) := by decide +kernel
theorem dX6_digest_53 : decode cX6_digest 53 = .ok (.iload 4, 2) := by decide +kernel
theorem dX6_digest_55 : decode cX6_digest 55 = .ok (.bipush 10, 2) := by decide +kernel
theorem dX6_digest_57 : decode cX6_digest 57 = .ok (.if_icmp .ge 24, 3) := by decide +kernel
theorem dX6_digest_60 : decode cX6_digest 60 = .ok (.ldc2_w 247, 3) := by decide +kernel
theorem dX6_digest_63 : decode cX6_digest 63 = .ok (.lload_n 1, 1) := by decide +kernel
theorem dX6_digest_64 : decode cX6_digest 64 = .ok (.lmul, 1) := by decide +kernel
theorem dX6_digest_65 : decode cX6_digest 65 = .ok (.aload_n 0, 1) := by decide +kernel
theorem dX6_digest_66 : decode cX6_digest 66 = .ok (.iload_n 3, 1) := by decide +kernel
theorem dX6_digest_67 : decode cX6_digest 67 = .ok (.iload 4, 2) := by decide +kernel
theorem dX6_digest_69 : decode cX6_digest 69 = .ok (.invokevirtual 192, 3) := by decide +kernel
theorem dX6_digest_72 : decode cX6_digest 72 = .ok (.i2l, 1) := by decide +kernel
theorem dX6_digest_73 : decode cX6_digest 73 = .ok (.ladd, 1) := by decide +kernel
theorem dX6_digest_74 : decode cX6_digest 74 = .ok (.lstore_n 1, 1) := by decide +kernel
theorem dX6_digest_75 : decode cX6_digest 75 = .ok (.iinc 4 1, 3) := by decide +kernel
theorem dX6_digest_78 : decode cX6_digest 78 = .ok (.goto (-25), 3) := by decide +kernel
theorem dX6_digest_81 : decode cX6_digest 81 = .ok (.iinc 3 1, 3) := by decide +kernel
theorem dX6_digest_84 : decode cX6_digest 84 = .ok (.goto (-45), 3) := by decide +kernel
theorem dX6_digest_87 : decode cX6_digest 87 = .ok (.iconst 0, 1) := by decide +kernel
theorem dX6_digest_88 : decode cX6_digest 88 = .ok (.istore_n 3, 1) := by decide +kernel
theorem dX6_digest_89 : decode cX6_digest 89 = .ok (.iload_n 3, 1) := by decide +kernel
theorem dX6_digest_90 : decode cX6_digest 90 = .ok (.aload_n 0, 1) := by decide +kernel
theorem dX6_digest_91 : decode cX6_digest 91 = .ok (.getfield 22, 3) := by decide +kernel
theorem dX6_digest_94 : decode cX6_digest 94 = .ok (.getfield 144, 3) := by decide +kernel
theorem dX6_digest_97 : decode cX6_digest 97 = .ok (.if_icmp .ge 40, 3) := by decide +kernel
theorem dX6_digest_100 : decode cX6_digest 100 = .ok (.iconst 0, 1) := by decide +kernel
theorem dX6_digest_101 : decode cX6_digest 101 = .ok (.istore 4, 2) := by decide +kernel
theorem dX6_digest_103 : decode cX6_digest 103 = .ok (.iload 4, 2) := by decide +kernel
theorem dX6_digest_105 : decode cX6_digest 105 = .ok (.bipush 10, 2) := by decide +kernel
theorem dX6_digest_107 : decode cX6_digest 107 = .ok (.if_icmp .ge 24, 3) := by decide +kernel
theorem dX6_digest_110 : decode cX6_digest 110 = .ok (.ldc2_w 247, 3) := by decide +kernel
theorem dX6_digest_113 : decode cX6_digest 113 = .ok (.lload_n 1, 1) := by decide +kernel
theorem dX6_digest_114 : decode cX6_digest 114 = .ok (.lmul, 1) := by decide +kernel
theorem dX6_digest_115 : decode cX6_digest 115 = .ok (.aload_n 0, 1) := by decide +kernel
theorem dX6_digest_116 : decode cX6_digest 116 = .ok (.iload_n 3, 1) := by decide +kernel
theorem dX6_digest_117 : decode cX6_digest 117 = .ok (.iload 4, 2) := by decide +kernel
theorem dX6_digest_119 : decode cX6_digest 119 = .ok (.invokevirtual 196, 3) := by decide +kernel
theorem dX6_digest_122 : decode cX6_digest 122 = .ok (.i2l, 1) := by decide +kernel
theorem dX6_digest_123 : decode cX6_digest 123 = .ok (.ladd, 1) := by decide +kernel
theorem dX6_digest_124 : decode cX6_digest 124 = .ok (.lstore_n 1, 1) := by decide +kernel
theorem dX6_digest_125 : decode cX6_digest 125 = .ok (.iinc 4 1, 3) := by decide +kernel
theorem dX6_digest_128 : decode cX6_digest 128 = .ok (.goto (-25), 3) := by decide +kernel
theorem dX6_digest_131 : decode cX6_digest 131 = .ok (.iinc 3 1, 3) := by decide +kernel
theorem dX6_digest_134 : decode cX6_digest 134 = .ok (.goto (-45), 3) := by decide +kernel
theorem dX6_digest_137 : decode cX6_digest 137 = .ok (.iconst 0, 1) := by decide +kernel
theorem dX6_digest_138 : decode cX6_digest 138 = .ok (.istore_n 3, 1) := by decide +kernel
theorem dX6_digest_139 : decode cX6_digest 139 = .ok (.iload_n 3, 1) := by decide +kernel
theorem dX6_digest_140 : decode cX6_digest 140 = .ok (.aload_n 0, 1) := by decide +kernel
theorem dX6_digest_141 : decode cX6_digest 141 = .ok (.getfield 32, 3) := by decide +kernel
theorem dX6_digest_144 : decode cX6_digest 144 = .ok (.getfield 182, 3) := by decide +kernel
theorem dX6_digest_147 : decode cX6_digest 147 = .ok (.if_icmp .ge 39, 3) := by decide +kernel
theorem dX6_digest_150 : decode cX6_digest 150 = .ok (.iconst 0, 1) := by decide +kernel
theorem dX6_digest_151 : decode cX6_digest 151 = .ok (.istore 4, 2) := by decide +kernel
theorem dX6_digest_153 : decode cX6_digest 153 = .ok (.iload 4, 2) := by decide +kernel
theorem dX6_digest_155 : decode cX6_digest 155 = .ok (.iconst 5, 1) := by decide +kernel
theorem dX6_digest_156 : decode cX6_digest 156 = .ok (.if_icmp .ge 24, 3) := by decide +kernel
theorem dX6_digest_159 : decode cX6_digest 159 = .ok (.ldc2_w 247, 3) := by decide +kernel
theorem dX6_digest_162 : decode cX6_digest 162 = .ok (.lload_n 1, 1) := by decide +kernel
theorem dX6_digest_163 : decode cX6_digest 163 = .ok (.lmul, 1) := by decide +kernel
theorem dX6_digest_164 : decode cX6_digest 164 = .ok (.aload_n 0, 1) := by decide +kernel
theorem dX6_digest_165 : decode cX6_digest 165 = .ok (.iload_n 3, 1) := by decide +kernel
theorem dX6_digest_166 : decode cX6_digest 166 = .ok (.iload 4, 2) := by decide +kernel
theorem dX6_digest_168 : decode cX6_digest 168 = .ok (.invokevirtual 201, 3) := by decide +kernel
theorem dX6_digest_171 : decode cX6_digest 171 = .ok (.i2l, 1) := by decide +kernel
theorem dX6_digest_172 : decode cX6_digest 172 = .ok (.ladd, 1) := by decide +kernel
theorem dX6_digest_173 : decode cX6_digest 173 = .ok (.lstore_n 1, 1) := by decide +kernel
theorem dX6_digest_174 : decode cX6_digest 174 = .ok (.iinc 4 1, 3) := by decide +kernel
theorem dX6_digest_177 : decode cX6_digest 177 = .ok (.goto (-24), 3) := by decide +kernel
theorem dX6_digest_180 : decode cX6_digest 180 = .ok (.iinc 3 1, 3) := by decide +kernel
theorem dX6_digest_183 : decode cX6_digest 183 = .ok (.goto (-44), 3) := by decide +kernel
theorem dX6_digest_186 : decode cX6_digest 186 = .ok (.ldc2_w 247, 3) := by decide +kernel
theorem dX6_digest_189 : decode cX6_digest 189 = .ok (.lload_n 1, 1) := by decide +kernel
theorem dX6_digest_190 : decode cX6_digest 190 = .ok (.lmul, 1) := by decide +kernel
theorem dX6_digest_191 : decode cX6_digest 191 = .ok (.aload_n 0, 1) := by decide +kernel
theorem dX6_digest_192 : decode cX6_digest 192 = .ok (.getfield 42, 3) := by decide +kernel
theorem dX6_digest_195 : decode cX6_digest 195 = .ok (.getfield 236, 3) := by decide +kernel
theorem dX6_digest_198 : decode cX6_digest 198 = .ok (.i2l, 1) := by decide +kernel
theorem dX6_digest_199 : decode cX6_digest 199 = .ok (.ladd, 1) := by decide +kernel
theorem dX6_digest_200 : decode cX6_digest 200 = .ok (.lreturn, 1) := by decide +kernel
set_option maxRecDepth 20000 in
theorem ggX6_keepDraft_X0_store : GoodIn wsX6_keepDraft wsX0_store := goodIn_r _ [10, 11, 12, 13, 14, 15, 9, 16, 17, 18, 19, 20, 21, 22, 23, 24, 25, 26, 27, 28, 29, 30, 31, 32, 33, 34, 35, 36, 37, 38, 39, 40, 41, 205, 206, 207, 208, 209, 210, 211, 212, 213, 214, 215, 216, 217] (by decide +kernel) (by decide +kernel)
set_option maxRecDepth 20000 in
theorem gX6_keepDraft_X0_store : GoodIn wsX6_keepDraft (wsV RX6 249 RX0 yX0_store wsX0_store) := goodIn_app (goodIn_of _ (by decide +kernel)) ggX6_keepDraft_X0_store
set_option maxRecDepth 20000 in
theorem ggX6_keepDraft_X5_copyFrom : GoodIn wsX6_keepDraft wsX5_copyFrom := goodIn_r _ [25, 26, 27, 28, 29, 30, 31, 32, 33, 34, 35, 36, 37, 38, 39, 40, 41, 207, 208, 209, 210, 211, 212, 213, 214, 215, 216, 217] (by decide +kernel) (by decide +kernel)
set_option maxRecDepth 20000 in
theorem gX6_keepDraft_X5_copyFrom : GoodIn wsX6_keepDraft (wsV RX6 94 RX5 yX5_copyFrom wsX5_copyFrom) := goodIn_app (goodIn_of _ (by decide +kernel)) ggX6_keepDraft_X5_copyFrom
set_option maxRecDepth 20000 in
theorem ggX6_keepDraft_X4_survey : GoodIn wsX6_keepDraft wsX4_survey := goodIn_r _ [47, 48, 49, 50, 46, 51, 52, 53, 54, 55, 56, 57, 58, 59, 60, 24, 61, 28, 62, 63, 64, 39, 65, 41, 66, 67, 68, 69, 70, 71, 72, 73, 32, 74, 75, 76, 77, 78, 79, 80, 81, 29, 82, 83, 84, 85, 86, 87, 88, 89, 90, 91, 92, 93, 94, 95, 96, 97, 98, 99, 100, 101, 102, 103, 104, 105, 106, 107, 108, 109, 110, 111, 112, 218, 219, 220, 221, 222, 223, 224, 225, 226, 227, 228, 229, 207, 208, 209, 210, 211, 212, 213, 214, 215, 216, 217] (by decide +kernel) (by decide +kernel)
set_option maxRecDepth 20000 in
theorem gX6_keepDraft_X4_survey : GoodIn wsX6_keepDraft (wsV RX6 242 RX4 yX4_survey wsX4_survey) := goodIn_app (goodIn_of _ (by decide +kernel)) ggX6_keepDraft_X4_survey
set_option maxRecDepth 20000 in
theorem ggX6_keepDraft_X1_arrange : GoodIn wsX6_keepDraft wsX1_arrange := goodIn_r _ [117, 118, 119, 120, 121, 122, 123, 116, 124, 125, 126, 63, 64, 39, 65, 41, 127, 79, 80, 24, 81, 28, 29, 62, 82, 83, 84, 85, 32, 128, 129, 130, 131, 132, 133, 134, 135, 136, 137, 26, 138, 139, 140, 141, 142, 143, 144, 145, 67, 68, 69, 146, 147, 148, 149, 150, 151, 152, 153, 154, 155, 156, 157, 158, 159, 160, 161, 162, 163, 164, 165, 166, 167, 168, 169, 170, 171, 172, 173, 174, 175, 176, 177, 178, 179, 180, 75, 76, 77, 181, 182, 183, 184, 185, 186, 187, 188, 189, 190, 191, 192, 193, 194, 195, 230, 231, 232, 233, 234, 235, 236, 237, 238, 239, 240, 241, 242, 243, 207, 208, 209, 210, 211, 212, 213, 214, 215, 216, 217] (by decide +kernel) (by decide +kernel)
set_option maxRecDepth 20000 in
theorem gX6_keepDraft_X1_arrange : GoodIn wsX6_keepDraft (wsV RX6 215 RX1 yX1_arrange wsX1_arrange) := goodIn_app (goodIn_of _ (by decide +kernel)) ggX6_keepDraft_X1_arrange
theorem dX6_keepDraft_0 : decode cX6_keepDraft 0 = .ok (.aload_n 0, 1) := by decide +kernel
theorem dX6_keepDraft_1 : decode cX6_keepDraft 1 = .ok (.getfield 42, 3) := by decide +kernel
theorem dX6_keepDraft_4 : decode cX6_keepDraft 4 = .ok (.aload_n 0, 1) := by decide +kernel
theorem dX6_keepDraft_5 : decode cX6_keepDraft 5 = .ok (.getfield 12, 3) := by decide +kernel
theorem dX6_keepDraft_8 : decode cX6_keepDraft 8 = .ok (.invokevirtual 249, 3) := by decide +kernel
theorem dX6_keepDraft_11 : decode cX6_keepDraft 11 = .ok (.aload_n 0, 1) := by decide +kernel
theorem dX6_keepDraft_12 : decode cX6_keepDraft 12 = .ok (.getfield 12, 3) := by decide +kernel
theorem dX6_keepDraft_15 : decode cX6_keepDraft 15 = .ok (.aload_n 0, 1) := by decide +kernel
theorem dX6_keepDraft_16 : decode cX6_keepDraft 16 = .ok (.getfield 16, 3) := by decide +kernel
theorem dX6_keepDraft_19 : decode cX6_keepDraft 19 = .ok (.invokevirtual 94, 3) := by decide +kernel
theorem dX6_keepDraft_22 : decode cX6_keepDraft 22 = .ok (.aload_n 0, 1) := by decide +kernel
theorem dX6_keepDraft_23 : decode cX6_keepDraft 23 = .ok (.getfield 22, 3) := by decide +kernel
theorem dX6_keepDraft_26 : decode cX6_keepDraft 26 = .ok (.aload_n 0, 1) := by decide +kernel
theorem dX6_keepDraft_27 : decode cX6_keepDraft 27 = .ok (.getfield 12, 3) := by decide +kernel
theorem dX6_keepDraft_30 : decode cX6_keepDraft 30 = .ok (.invokevirtual 242, 3) := by decide +kernel
theorem dX6_keepDraft_33 : decode cX6_keepDraft 33 = .ok (.aload_n 0, 1) := by decide +kernel
theorem dX6_keepDraft_34 : decode cX6_keepDraft 34 = .ok (.getfield 32, 3) := by decide +kernel
theorem dX6_keepDraft_37 : decode cX6_keepDraft 37 = .ok (.aload_n 0, 1) := by decide +kernel
theorem dX6_keepDraft_38 : decode cX6_keepDraft 38 = .ok (.getfield 12, 3) := by decide +kernel
theorem dX6_keepDraft_41 : decode cX6_keepDraft 41 = .ok (.invokevirtual 215, 3) := by decide +kernel
theorem dX6_keepDraft_44 : decode cX6_keepDraft 44 = .ok (.pop, 1) := by decide +kernel
theorem dX6_keepDraft_45 : decode cX6_keepDraft 45 = .ok (.return_, 1) := by decide +kernel
set_option maxRecDepth 20000 in
theorem ggX6_repeatsLabel_X4_survey : GoodIn wsX6_repeatsLabel wsX4_survey := goodIn_r _ [7, 8, 9, 10, 6, 11, 12, 13, 14, 15, 16, 17, 18, 19, 20, 21, 22, 23, 24, 25, 26, 27, 28, 29, 30, 31, 32, 33, 34, 35, 36, 37, 38, 39, 40, 41, 42, 43, 44, 45, 46, 47, 48, 49, 50, 51, 52, 53, 54, 55, 56, 57, 58, 59, 60, 61, 62, 63, 64, 65, 66, 67, 68, 69, 70, 71, 72, 73, 74, 75, 76, 77, 78, 96, 97, 98, 99, 100, 101, 102, 103, 104, 105, 106, 107, 108, 109, 110, 111, 112, 113, 114, 115, 116, 117, 118] (by decide +kernel) (by decide +kernel)
set_option maxRecDepth 20000 in
theorem gX6_repeatsLabel_X4_survey : GoodIn wsX6_repeatsLabel (wsV RX6 242 RX4 yX4_survey wsX4_survey) := goodIn_app (goodIn_of _ (by decide +kernel)) ggX6_repeatsLabel_X4_survey
set_option maxRecDepth 20000 in
theorem ggX6_repeatsLabel_X4_hasTwins : GoodIn wsX6_repeatsLabel wsX4_hasTwins := goodIn_r _ [82, 12, 83, 84, 85, 6, 86, 72, 73, 74, 58, 25, 26, 27, 28, 29, 96, 97, 98, 99, 100, 101, 102, 103, 104, 105, 106, 107, 118] (by decide +kernel) (by decide +kernel)
set_option maxRecDepth 20000 in
theorem gX6_repeatsLabel_X4_hasTwins : GoodIn wsX6_repeatsLabel (wsV RX6 252 RX4 yX4_hasTwins wsX4_hasTwins) := goodIn_app (goodIn_of _ (by decide +kernel)) ggX6_repeatsLabel_X4_hasTwins
theorem dX6_repeatsLabel_0 : decode cX6_repeatsLabel 0 = .ok (.aload_n 0, 1) := by decide +kernel
theorem dX6_repeatsLabel_1 : decode cX6_repeatsLabel 1 = .ok (.getfield 26, 3) := by decide +kernel
theorem dX6_repeatsLabel_4 : decode cX6_repeatsLabel 4 = .ok (.aload_n 0, 1) := by decide +kernel
theorem dX6_repeatsLabel_5 : decode cX6_repeatsLabel 5 = .ok (.getfield 16, 3) := by decide +kernel
theorem dX6_repeatsLabel_8 : decode cX6_repeatsLabel 8 = .ok (.invokevirtual 242, 3) := by decide +kernel
theorem dX6_repeatsLabel_11 : decode cX6_repeatsLabel 11 = .ok (.aload_n 0, 1) := by decide +kernel
theorem dX6_repeatsLabel_12 : decode cX6_repeatsLabel 12 = .ok (.getfield 26, 3) := by decide +kernel
theorem dX6_repeatsLabel_15 : decode cX6_repeatsLabel 15 = .ok (.invokevirtual 252, 3) := by decide +kernel
theorem dX6_repeatsLabel_18 : decode cX6_repeatsLabel 18 = .ok (.ireturn, 1) := by decide +kernel
theorem dX6_valueOf_0 : decode cX6_valueOf 0 = .ok (.iload_n 1, 1) := by decide +kernel
theorem dX6_valueOf_1 : decode cX6_valueOf 1 = .ok (.tableswitch 99 0 6 #[43, 51, 59, 67, 75, 83, 91], 43) := by decide +kernel
theorem dX6_valueOf_44 : decode cX6_valueOf 44 = .ok (.aload_n 0, 1) := by decide +kernel
theorem dX6_valueOf_45 : decode cX6_valueOf 45 = .ok (.getfield 12, 3) := by decide +kernel
theorem dX6_valueOf_48 : decode cX6_valueOf 48 = .ok (.getfield 59, 3) := by decide +kernel
theorem dX6_valueOf_51 : decode cX6_valueOf 51 = .ok (.ireturn, 1) := by decide +kernel
theorem dX6_valueOf_52 : decode cX6_valueOf 52 = .ok (.aload_n 0, 1) := by decide +kernel
theorem dX6_valueOf_53 : decode cX6_valueOf 53 = .ok (.getfield 22, 3) := by decide +kernel
theorem dX6_valueOf_56 : decode cX6_valueOf 56 = .ok (.getfield 144, 3) := by decide +kernel
theorem dX6_valueOf_59 : decode cX6_valueOf 59 = .ok (.ireturn, 1) := by decide +kernel
theorem dX6_valueOf_60 : decode cX6_valueOf 60 = .ok (.aload_n 0, 1) := by decide +kernel
theorem dX6_valueOf_61 : decode cX6_valueOf 61 = .ok (.getfield 32, 3) := by decide +kernel
theorem dX6_valueOf_64 : decode cX6_valueOf 64 = .ok (.getfield 182, 3) := by decide +kernel
theorem dX6_valueOf_67 : decode cX6_valueOf 67 = .ok (.ireturn, 1) := by decide +kernel
theorem dX6_valueOf_68 : decode cX6_valueOf 68 = .ok (.aload_n 0, 1) := by decide +kernel
theorem dX6_valueOf_69 : decode cX6_valueOf 69 = .ok (.getfield 12, 3) := by decide +kernel
theorem dX6_valueOf_72 : decode cX6_valueOf 72 = .ok (.getfield 141, 3) := by decide +kernel
theorem dX6_valueOf_75 : decode cX6_valueOf 75 = .ok (.ireturn, 1) := by decide +kernel
theorem dX6_valueOf_76 : decode cX6_valueOf 76 = .ok (.aload_n 0, 1) := by decide +kernel
theorem dX6_valueOf_77 : decode cX6_valueOf 77 = .ok (.getfield 22, 3) := by decide +kernel
theorem dX6_valueOf_80 : decode cX6_valueOf 80 = .ok (.getfield 255, 3) := by decide +kernel
theorem dX6_valueOf_83 : decode cX6_valueOf 83 = .ok (.ireturn, 1) := by decide +kernel
theorem dX6_valueOf_84 : decode cX6_valueOf 84 = .ok (.aload_n 0, 1) := by decide +kernel
theorem dX6_valueOf_85 : decode cX6_valueOf 85 = .ok (.getfield 32, 3) := by decide +kernel
theorem dX6_valueOf_88 : decode cX6_valueOf 88 = .ok (.getfield 258, 3) := by decide +kernel
theorem dX6_valueOf_91 : decode cX6_valueOf 91 = .ok (.ireturn, 1) := by decide +kernel
theorem dX6_valueOf_92 : decode cX6_valueOf 92 = .ok (.aload_n 0, 1) := by decide +kernel
theorem dX6_valueOf_93 : decode cX6_valueOf 93 = .ok (.getfield 22, 3) := by decide +kernel
theorem dX6_valueOf_96 : decode cX6_valueOf 96 = .ok (.getfield 261, 3) := by decide +kernel
theorem dX6_valueOf_99 : decode cX6_valueOf 99 = .ok (.ireturn, 1) := by decide +kernel
theorem dX6_valueOf_100 : decode cX6_valueOf 100 = .ok (.aload_n 0, 1) := by decide +kernel
theorem dX6_valueOf_101 : decode cX6_valueOf 101 = .ok (.getfield 32, 3) := by decide +kernel
theorem dX6_valueOf_104 : decode cX6_valueOf 104 = .ok (.getfield 264, 3) := by decide +kernel
theorem dX6_valueOf_107 : decode cX6_valueOf 107 = .ok (.ireturn, 1) := by decide +kernel
set_option maxRecDepth 20000 in
theorem ggX6_elementFact_X3_at : GoodIn wsX6_elementFact wsX3_at := goodIn_r _ [8, 9, 68] (by decide +kernel) (by decide +kernel)
set_option maxRecDepth 20000 in
theorem gX6_elementFact_X3_at : GoodIn wsX6_elementFact (wsV RX6 150 RX3 yX3_at wsX3_at) := goodIn_app (goodIn_of _ (by decide +kernel)) ggX6_elementFact_X3_at
set_option maxRecDepth 20000 in
theorem ggX6_elementFact_X5_linesOf : GoodIn wsX6_elementFact wsX5_linesOf := goodIn_r _ [14, 15, 16, 17, 5, 6, 7, 8, 9, 18, 19, 20, 13, 21, 22, 32, 33, 34, 35, 36, 37, 38, 39, 40, 41, 68] (by decide +kernel) (by decide +kernel)
set_option maxRecDepth 20000 in
theorem gX6_elementFact_X5_linesOf : GoodIn wsX6_elementFact (wsV RX6 132 RX5 yX5_linesOf wsX5_linesOf) := goodIn_app (goodIn_of _ (by decide +kernel)) ggX6_elementFact_X5_linesOf
theorem dX6_elementFact_0 : decode cX6_elementFact 0 = .ok (.iload_n 2, 1) := by decide +kernel
theorem dX6_elementFact_1 : decode cX6_elementFact 1 = .ok (.tableswitch 156 0 8 #[51, 63, 75, 87, 96, 108, 120, 132, 144], 51) := by decide +kernel
theorem dX6_elementFact_52 : decode cX6_elementFact 52 = .ok (.aload_n 0, 1) := by decide +kernel
theorem dX6_elementFact_53 : decode cX6_elementFact 53 = .ok (.getfield 12, 3) := by decide +kernel
theorem dX6_elementFact_56 : decode cX6_elementFact 56 = .ok (.getfield 267, 3) := by decide +kernel
theorem dX6_elementFact_59 : decode cX6_elementFact 59 = .ok (.iload_n 1, 1) := by decide +kernel
theorem dX6_elementFact_60 : decode cX6_elementFact 60 = .ok (.invokevirtual 150, 3) := by decide +kernel
theorem dX6_elementFact_63 : decode cX6_elementFact 63 = .ok (.ireturn, 1) := by decide +kernel
theorem dX6_elementFact_64 : decode cX6_elementFact 64 = .ok (.aload_n 0, 1) := by decide +kernel
theorem dX6_elementFact_65 : decode cX6_elementFact 65 = .ok (.getfield 12, 3) := by decide +kernel
theorem dX6_elementFact_68 : decode cX6_elementFact 68 = .ok (.getfield 125, 3) := by decide +kernel
theorem dX6_elementFact_71 : decode cX6_elementFact 71 = .ok (.iload_n 1, 1) := by decide +kernel
theorem dX6_elementFact_72 : decode cX6_elementFact 72 = .ok (.invokevirtual 150, 3) := by decide +kernel
theorem dX6_elementFact_75 : decode cX6_elementFact 75 = .ok (.ireturn, 1) := by decide +kernel
theorem dX6_elementFact_76 : decode cX6_elementFact 76 = .ok (.aload_n 0, 1) := by decide +kernel
theorem dX6_elementFact_77 : decode cX6_elementFact 77 = .ok (.getfield 12, 3) := by decide +kernel
theorem dX6_elementFact_80 : decode cX6_elementFact 80 = .ok (.getfield 206, 3) := by decide +kernel
theorem dX6_elementFact_83 : decode cX6_elementFact 83 = .ok (.iload_n 1, 1) := by decide +kernel
theorem dX6_elementFact_84 : decode cX6_elementFact 84 = .ok (.invokevirtual 150, 3) := by decide +kernel
theorem dX6_elementFact_87 : decode cX6_elementFact 87 = .ok (.ireturn, 1) := by decide +kernel
theorem dX6_elementFact_88 : decode cX6_elementFact 88 = .ok (.aload_n 0, 1) := by decide +kernel
theorem dX6_elementFact_89 : decode cX6_elementFact 89 = .ok (.getfield 12, 3) := by decide +kernel
theorem dX6_elementFact_92 : decode cX6_elementFact 92 = .ok (.iload_n 1, 1) := by decide +kernel
theorem dX6_elementFact_93 : decode cX6_elementFact 93 = .ok (.invokevirtual 132, 3) := by decide +kernel
theorem dX6_elementFact_96 : decode cX6_elementFact 96 = .ok (.ireturn, 1) := by decide +kernel
theorem dX6_elementFact_97 : decode cX6_elementFact 97 = .ok (.aload_n 0, 1) := by decide +kernel
theorem dX6_elementFact_98 : decode cX6_elementFact 98 = .ok (.getfield 22, 3) := by decide +kernel
theorem dX6_elementFact_101 : decode cX6_elementFact 101 = .ok (.getfield 270, 3) := by decide +kernel
theorem dX6_elementFact_104 : decode cX6_elementFact 104 = .ok (.iload_n 1, 1) := by decide +kernel
theorem dX6_elementFact_105 : decode cX6_elementFact 105 = .ok (.invokevirtual 150, 3) := by decide +kernel
theorem dX6_elementFact_108 : decode cX6_elementFact 108 = .ok (.ireturn, 1) := by decide +kernel
theorem dX6_elementFact_109 : decode cX6_elementFact 109 = .ok (.aload_n 0, 1) := by decide +kernel
theorem dX6_elementFact_110 : decode cX6_elementFact 110 = .ok (.getfield 12, 3) := by decide +kernel
theorem dX6_elementFact_113 : decode cX6_elementFact 113 = .ok (.getfield 179, 3) := by decide +kernel
theorem dX6_elementFact_116 : decode cX6_elementFact 116 = .ok (.iload_n 1, 1) := by decide +kernel
theorem dX6_elementFact_117 : decode cX6_elementFact 117 = .ok (.invokevirtual 150, 3) := by decide +kernel
theorem dX6_elementFact_120 : decode cX6_elementFact 120 = .ok (.ireturn, 1) := by decide +kernel
theorem dX6_elementFact_121 : decode cX6_elementFact 121 = .ok (.aload_n 0, 1) := by decide +kernel
theorem dX6_elementFact_122 : decode cX6_elementFact 122 = .ok (.getfield 32, 3) := by decide +kernel
theorem dX6_elementFact_125 : decode cX6_elementFact 125 = .ok (.getfield 273, 3) := by decide +kernel
theorem dX6_elementFact_128 : decode cX6_elementFact 128 = .ok (.iload_n 1, 1) := by decide +kernel
theorem dX6_elementFact_129 : decode cX6_elementFact 129 = .ok (.invokevirtual 150, 3) := by decide +kernel
theorem dX6_elementFact_132 : decode cX6_elementFact 132 = .ok (.ireturn, 1) := by decide +kernel
theorem dX6_elementFact_133 : decode cX6_elementFact 133 = .ok (.aload_n 0, 1) := by decide +kernel
theorem dX6_elementFact_134 : decode cX6_elementFact 134 = .ok (.getfield 32, 3) := by decide +kernel
theorem dX6_elementFact_137 : decode cX6_elementFact 137 = .ok (.getfield 276, 3) := by decide +kernel
theorem dX6_elementFact_140 : decode cX6_elementFact 140 = .ok (.iload_n 1, 1) := by decide +kernel
theorem dX6_elementFact_141 : decode cX6_elementFact 141 = .ok (.invokevirtual 150, 3) := by decide +kernel
theorem dX6_elementFact_144 : decode cX6_elementFact 144 = .ok (.ireturn, 1) := by decide +kernel
theorem dX6_elementFact_145 : decode cX6_elementFact 145 = .ok (.aload_n 0, 1) := by decide +kernel
theorem dX6_elementFact_146 : decode cX6_elementFact 146 = .ok (.getfield 32, 3) := by decide +kernel
theorem dX6_elementFact_149 : decode cX6_elementFact 149 = .ok (.getfield 279, 3) := by decide +kernel
theorem dX6_elementFact_152 : decode cX6_elementFact 152 = .ok (.iload_n 1, 1) := by decide +kernel
theorem dX6_elementFact_153 : decode cX6_elementFact 153 = .ok (.invokevirtual 150, 3) := by decide +kernel
theorem dX6_elementFact_156 : decode cX6_elementFact 156 = .ok (.ireturn, 1) := by decide +kernel
theorem dX6_elementFact_157 : decode cX6_elementFact 157 = .ok (.aload_n 0, 1) := by decide +kernel
theorem dX6_elementFact_158 : decode cX6_elementFact 158 = .ok (.getfield 22, 3) := by decide +kernel
theorem dX6_elementFact_161 : decode cX6_elementFact 161 = .ok (.getfield 209, 3) := by decide +kernel
theorem dX6_elementFact_164 : decode cX6_elementFact 164 = .ok (.iload_n 1, 1) := by decide +kernel
theorem dX6_elementFact_165 : decode cX6_elementFact 165 = .ok (.invokevirtual 150, 3) := by decide +kernel
theorem dX6_elementFact_168 : decode cX6_elementFact 168 = .ok (.ireturn, 1) := by decide +kernel
set_option maxRecDepth 20000 in
theorem ggX6_sceneFact_X3_at : GoodIn wsX6_sceneFact wsX3_at := goodIn_r _ [8, 9, 61] (by decide +kernel) (by decide +kernel)
set_option maxRecDepth 20000 in
theorem gX6_sceneFact_X3_at : GoodIn wsX6_sceneFact (wsV RX6 150 RX3 yX3_at wsX3_at) := goodIn_app (goodIn_of _ (by decide +kernel)) ggX6_sceneFact_X3_at
set_option maxRecDepth 20000 in
theorem ggX6_sceneFact_X5_isLocked : GoodIn wsX6_sceneFact wsX5_isLocked := goodIn_r _ [14, 15, 16, 5, 6, 7, 8, 9, 62, 63, 64, 65, 66, 67, 68, 69, 70, 71, 61] (by decide +kernel) (by decide +kernel)
set_option maxRecDepth 20000 in
theorem gX6_sceneFact_X5_isLocked : GoodIn wsX6_sceneFact (wsV RX6 115 RX5 yX5_isLocked wsX5_isLocked) := goodIn_app (goodIn_of _ (by decide +kernel)) ggX6_sceneFact_X5_isLocked
set_option maxRecDepth 20000 in
theorem ggX6_sceneFact_X5_isOmitted : GoodIn wsX6_sceneFact wsX5_isOmitted := goodIn_r _ [20, 15, 16, 5, 6, 7, 8, 9, 62, 63, 64, 65, 66, 67, 68, 69, 70, 71, 61] (by decide +kernel) (by decide +kernel)
set_option maxRecDepth 20000 in
theorem gX6_sceneFact_X5_isOmitted : GoodIn wsX6_sceneFact (wsV RX6 168 RX5 yX5_isOmitted wsX5_isOmitted) := goodIn_app (goodIn_of _ (by decide +kernel)) ggX6_sceneFact_X5_isOmitted
set_option maxRecDepth 20000 in
theorem ggX6_sceneFact_X6_eighths : GoodIn wsX6_sceneFact wsX6_eighths := goodIn_r _ [25, 2, 26, 27, 28, 29, 30, 31, 32, 33, 34, 62, 63, 64, 65, 66, 67, 68, 69, 70, 71] (by decide +kernel) (by decide +kernel)
set_option maxRecDepth 20000 in
theorem gX6_sceneFact_X6_eighths : GoodIn wsX6_sceneFact (wsV RX6 285 RX6 yX6_eighths wsX6_eighths) := goodIn_app (goodIn_of _ (by decide +kernel)) ggX6_sceneFact_X6_eighths
theorem dX6_sceneFact_0 : decode cX6_sceneFact 0 = .ok (.aload_n 0, 1) := by decide +kernel
theorem dX6_sceneFact_1 : decode cX6_sceneFact 1 = .ok (.getfield 22, 3) := by decide +kernel
theorem dX6_sceneFact_4 : decode cX6_sceneFact 4 = .ok (.getfield 147, 3) := by decide +kernel
theorem dX6_sceneFact_7 : decode cX6_sceneFact 7 = .ok (.iload_n 1, 1) := by decide +kernel
theorem dX6_sceneFact_8 : decode cX6_sceneFact 8 = .ok (.invokevirtual 150, 3) := by decide +kernel
theorem dX6_sceneFact_11 : decode cX6_sceneFact 11 = .ok (.istore_n 3, 1) := by decide +kernel
theorem dX6_sceneFact_12 : decode cX6_sceneFact 12 = .ok (.iload_n 2, 1) := by decide +kernel
theorem dX6_sceneFact_13 : decode cX6_sceneFact 13 = .ok (.tableswitch 163 0 8 #[51, 63, 75, 87, 104, 121, 123, 135, 147], 51) := by decide +kernel
theorem dX6_sceneFact_64 : decode cX6_sceneFact 64 = .ok (.aload_n 0, 1) := by decide +kernel
theorem dX6_sceneFact_65 : decode cX6_sceneFact 65 = .ok (.getfield 22, 3) := by decide +kernel
theorem dX6_sceneFact_68 : decode cX6_sceneFact 68 = .ok (.getfield 153, 3) := by decide +kernel
theorem dX6_sceneFact_71 : decode cX6_sceneFact 71 = .ok (.iload_n 1, 1) := by decide +kernel
theorem dX6_sceneFact_72 : decode cX6_sceneFact 72 = .ok (.invokevirtual 150, 3) := by decide +kernel
theorem dX6_sceneFact_75 : decode cX6_sceneFact 75 = .ok (.ireturn, 1) := by decide +kernel
theorem dX6_sceneFact_76 : decode cX6_sceneFact 76 = .ok (.aload_n 0, 1) := by decide +kernel
theorem dX6_sceneFact_77 : decode cX6_sceneFact 77 = .ok (.getfield 22, 3) := by decide +kernel
theorem dX6_sceneFact_80 : decode cX6_sceneFact 80 = .ok (.getfield 156, 3) := by decide +kernel
theorem dX6_sceneFact_83 : decode cX6_sceneFact 83 = .ok (.iload_n 1, 1) := by decide +kernel
theorem dX6_sceneFact_84 : decode cX6_sceneFact 84 = .ok (.invokevirtual 150, 3) := by decide +kernel
theorem dX6_sceneFact_87 : decode cX6_sceneFact 87 = .ok (.ireturn, 1) := by decide +kernel
theorem dX6_sceneFact_88 : decode cX6_sceneFact 88 = .ok (.aload_n 0, 1) := by decide +kernel
theorem dX6_sceneFact_89 : decode cX6_sceneFact 89 = .ok (.getfield 22, 3) := by decide +kernel
theorem dX6_sceneFact_92 : decode cX6_sceneFact 92 = .ok (.getfield 159, 3) := by decide +kernel
theorem dX6_sceneFact_95 : decode cX6_sceneFact 95 = .ok (.iload_n 1, 1) := by decide +kernel
theorem dX6_sceneFact_96 : decode cX6_sceneFact 96 = .ok (.invokevirtual 150, 3) := by decide +kernel
theorem dX6_sceneFact_99 : decode cX6_sceneFact 99 = .ok (.ireturn, 1) := by decide +kernel
theorem dX6_sceneFact_100 : decode cX6_sceneFact 100 = .ok (.aload_n 0, 1) := by decide +kernel
theorem dX6_sceneFact_101 : decode cX6_sceneFact 101 = .ok (.getfield 12, 3) := by decide +kernel
theorem dX6_sceneFact_104 : decode cX6_sceneFact 104 = .ok (.iload_n 3, 1) := by decide +kernel
theorem dX6_sceneFact_105 : decode cX6_sceneFact 105 = .ok (.invokevirtual 115, 3) := by decide +kernel
theorem dX6_sceneFact_108 : decode cX6_sceneFact 108 = .ok (.ifCond .eq 7, 3) := by decide +kernel
theorem dX6_sceneFact_111 : decode cX6_sceneFact 111 = .ok (.iconst 1, 1) := by decide +kernel
theorem dX6_sceneFact_112 : decode cX6_sceneFact 112 = .ok (.goto 4, 3) := by decide +kernel
theorem dX6_sceneFact_115 : decode cX6_sceneFact 115 = .ok (.iconst 0, 1) := by decide +kernel
theorem dX6_sceneFact_116 : decode cX6_sceneFact 116 = .ok (.ireturn, 1) := by decide +kernel
theorem dX6_sceneFact_117 : decode cX6_sceneFact 117 = .ok (.aload_n 0, 1) := by decide +kernel
theorem dX6_sceneFact_118 : decode cX6_sceneFact 118 = .ok (.getfield 12, 3) := by decide +kernel
theorem dX6_sceneFact_121 : decode cX6_sceneFact 121 = .ok (.iload_n 3, 1) := by decide +kernel
theorem dX6_sceneFact_122 : decode cX6_sceneFact 122 = .ok (.invokevirtual 168, 3) := by decide +kernel
theorem dX6_sceneFact_125 : decode cX6_sceneFact 125 = .ok (.ifCond .eq 7, 3) := by decide +kernel
theorem dX6_sceneFact_128 : decode cX6_sceneFact 128 = .ok (.iconst 1, 1) := by decide +kernel
theorem dX6_sceneFact_129 : decode cX6_sceneFact 129 = .ok (.goto 4, 3) := by decide +kernel
theorem dX6_sceneFact_132 : decode cX6_sceneFact 132 = .ok (.iconst 0, 1) := by decide +kernel
theorem dX6_sceneFact_133 : decode cX6_sceneFact 133 = .ok (.ireturn, 1) := by decide +kernel
theorem dX6_sceneFact_134 : decode cX6_sceneFact 134 = .ok (.iload_n 3, 1) := by decide +kernel
theorem dX6_sceneFact_135 : decode cX6_sceneFact 135 = .ok (.ireturn, 1) := by decide +kernel
theorem dX6_sceneFact_136 : decode cX6_sceneFact 136 = .ok (.aload_n 0, 1) := by decide +kernel
theorem dX6_sceneFact_137 : decode cX6_sceneFact 137 = .ok (.getfield 22, 3) := by decide +kernel
theorem dX6_sceneFact_140 : decode cX6_sceneFact 140 = .ok (.getfield 173, 3) := by decide +kernel
theorem dX6_sceneFact_143 : decode cX6_sceneFact 143 = .ok (.iload_n 1, 1) := by decide +kernel
theorem dX6_sceneFact_144 : decode cX6_sceneFact 144 = .ok (.invokevirtual 150, 3) := by decide +kernel
theorem dX6_sceneFact_147 : decode cX6_sceneFact 147 = .ok (.ireturn, 1) := by decide +kernel
theorem dX6_sceneFact_148 : decode cX6_sceneFact 148 = .ok (.aload_n 0, 1) := by decide +kernel
theorem dX6_sceneFact_149 : decode cX6_sceneFact 149 = .ok (.getfield 22, 3) := by decide +kernel
theorem dX6_sceneFact_152 : decode cX6_sceneFact 152 = .ok (.getfield 282, 3) := by decide +kernel
theorem dX6_sceneFact_155 : decode cX6_sceneFact 155 = .ok (.iload_n 1, 1) := by decide +kernel
theorem dX6_sceneFact_156 : decode cX6_sceneFact 156 = .ok (.invokevirtual 150, 3) := by decide +kernel
theorem dX6_sceneFact_159 : decode cX6_sceneFact 159 = .ok (.ireturn, 1) := by decide +kernel
theorem dX6_sceneFact_160 : decode cX6_sceneFact 160 = .ok (.aload_n 0, 1) := by decide +kernel
theorem dX6_sceneFact_161 : decode cX6_sceneFact 161 = .ok (.aload_n 0, 1) := by decide +kernel
theorem dX6_sceneFact_162 : decode cX6_sceneFact 162 = .ok (.getfield 22, 3) := by decide +kernel
theorem dX6_sceneFact_165 : decode cX6_sceneFact 165 = .ok (.getfield 282, 3) := by decide +kernel
theorem dX6_sceneFact_168 : decode cX6_sceneFact 168 = .ok (.iload_n 1, 1) := by decide +kernel
theorem dX6_sceneFact_169 : decode cX6_sceneFact 169 = .ok (.invokevirtual 150, 3) := by decide +kernel
theorem dX6_sceneFact_172 : decode cX6_sceneFact 172 = .ok (.invokevirtual 285, 3) := by decide +kernel
theorem dX6_sceneFact_175 : decode cX6_sceneFact 175 = .ok (.ireturn, 1) := by decide +kernel
theorem dX6_sceneFact_176 : decode cX6_sceneFact 176 = .ok (.aload_n 0, 1) := by decide +kernel
theorem dX6_sceneFact_177 : decode cX6_sceneFact 177 = .ok (.getfield 32, 3) := by decide +kernel
theorem dX6_sceneFact_180 : decode cX6_sceneFact 180 = .ok (.getfield 273, 3) := by decide +kernel
theorem dX6_sceneFact_183 : decode cX6_sceneFact 183 = .ok (.iload_n 3, 1) := by decide +kernel
theorem dX6_sceneFact_184 : decode cX6_sceneFact 184 = .ok (.invokevirtual 150, 3) := by decide +kernel
theorem dX6_sceneFact_187 : decode cX6_sceneFact 187 = .ok (.ireturn, 1) := by decide +kernel
set_option maxRecDepth 20000 in
theorem ggX6_pageFact_X3_at : GoodIn wsX6_pageFact wsX3_at := goodIn_r _ [6, 7, 31] (by decide +kernel) (by decide +kernel)
set_option maxRecDepth 20000 in
theorem gX6_pageFact_X3_at : GoodIn wsX6_pageFact (wsV RX6 150 RX3 yX3_at wsX3_at) := goodIn_app (goodIn_of _ (by decide +kernel)) ggX6_pageFact_X3_at
theorem dX6_pageFact_0 : decode cX6_pageFact 0 = .ok (.iload_n 2, 1) := by decide +kernel
theorem dX6_pageFact_1 : decode cX6_pageFact 1 = .ok (.tableswitch 79 0 3 #[31, 43, 55, 67], 31) := by decide +kernel
theorem dX6_pageFact_32 : decode cX6_pageFact 32 = .ok (.aload_n 0, 1) := by decide +kernel
theorem dX6_pageFact_33 : decode cX6_pageFact 33 = .ok (.getfield 32, 3) := by decide +kernel
theorem dX6_pageFact_36 : decode cX6_pageFact 36 = .ok (.getfield 288, 3) := by decide +kernel
theorem dX6_pageFact_39 : decode cX6_pageFact 39 = .ok (.iload_n 1, 1) := by decide +kernel
theorem dX6_pageFact_40 : decode cX6_pageFact 40 = .ok (.invokevirtual 150, 3) := by decide +kernel
theorem dX6_pageFact_43 : decode cX6_pageFact 43 = .ok (.ireturn, 1) := by decide +kernel
theorem dX6_pageFact_44 : decode cX6_pageFact 44 = .ok (.aload_n 0, 1) := by decide +kernel
theorem dX6_pageFact_45 : decode cX6_pageFact 45 = .ok (.getfield 32, 3) := by decide +kernel
theorem dX6_pageFact_48 : decode cX6_pageFact 48 = .ok (.getfield 291, 3) := by decide +kernel
theorem dX6_pageFact_51 : decode cX6_pageFact 51 = .ok (.iload_n 1, 1) := by decide +kernel
theorem dX6_pageFact_52 : decode cX6_pageFact 52 = .ok (.invokevirtual 150, 3) := by decide +kernel
theorem dX6_pageFact_55 : decode cX6_pageFact 55 = .ok (.ireturn, 1) := by decide +kernel
theorem dX6_pageFact_56 : decode cX6_pageFact 56 = .ok (.aload_n 0, 1) := by decide +kernel
theorem dX6_pageFact_57 : decode cX6_pageFact 57 = .ok (.getfield 32, 3) := by decide +kernel
theorem dX6_pageFact_60 : decode cX6_pageFact 60 = .ok (.getfield 212, 3) := by decide +kernel
theorem dX6_pageFact_63 : decode cX6_pageFact 63 = .ok (.iload_n 1, 1) := by decide +kernel
theorem dX6_pageFact_64 : decode cX6_pageFact 64 = .ok (.invokevirtual 150, 3) := by decide +kernel
theorem dX6_pageFact_67 : decode cX6_pageFact 67 = .ok (.ireturn, 1) := by decide +kernel
theorem dX6_pageFact_68 : decode cX6_pageFact 68 = .ok (.aload_n 0, 1) := by decide +kernel
theorem dX6_pageFact_69 : decode cX6_pageFact 69 = .ok (.getfield 32, 3) := by decide +kernel
theorem dX6_pageFact_72 : decode cX6_pageFact 72 = .ok (.getfield 183, 3) := by decide +kernel
theorem dX6_pageFact_75 : decode cX6_pageFact 75 = .ok (.iload_n 1, 1) := by decide +kernel
theorem dX6_pageFact_76 : decode cX6_pageFact 76 = .ok (.invokevirtual 150, 3) := by decide +kernel
theorem dX6_pageFact_79 : decode cX6_pageFact 79 = .ok (.ireturn, 1) := by decide +kernel
theorem dX6_pageFact_80 : decode cX6_pageFact 80 = .ok (.aload_n 0, 1) := by decide +kernel
theorem dX6_pageFact_81 : decode cX6_pageFact 81 = .ok (.getfield 32, 3) := by decide +kernel
theorem dX6_pageFact_84 : decode cX6_pageFact 84 = .ok (.getfield 294, 3) := by decide +kernel
theorem dX6_pageFact_87 : decode cX6_pageFact 87 = .ok (.iload_n 1, 1) := by decide +kernel
theorem dX6_pageFact_88 : decode cX6_pageFact 88 = .ok (.invokevirtual 150, 3) := by decide +kernel
theorem dX6_pageFact_91 : decode cX6_pageFact 91 = .ok (.ireturn, 1) := by decide +kernel
theorem dX6_eighths_0 : decode cX6_eighths 0 = .ok (.aload_n 0, 1) := by decide +kernel
theorem dX6_eighths_1 : decode cX6_eighths 1 = .ok (.getfield 12, 3) := by decide +kernel
theorem dX6_eighths_4 : decode cX6_eighths 4 = .ok (.getfield 141, 3) := by decide +kernel
theorem dX6_eighths_7 : decode cX6_eighths 7 = .ok (.istore_n 2, 1) := by decide +kernel
theorem dX6_eighths_8 : decode cX6_eighths 8 = .ok (.iload_n 2, 1) := by decide +kernel
theorem dX6_eighths_9 : decode cX6_eighths 9 = .ok (.ifCond .le 16, 3) := by decide +kernel
theorem dX6_eighths_12 : decode cX6_eighths 12 = .ok (.iload_n 1, 1) := by decide +kernel
theorem dX6_eighths_13 : decode cX6_eighths 13 = .ok (.bipush 8, 2) := by decide +kernel
theorem dX6_eighths_15 : decode cX6_eighths 15 = .ok (.imul, 1) := by decide +kernel
theorem dX6_eighths_16 : decode cX6_eighths 16 = .ok (.iload_n 2, 1) := by decide +kernel
theorem dX6_eighths_17 : decode cX6_eighths 17 = .ok (.iadd, 1) := by decide +kernel
theorem dX6_eighths_18 : decode cX6_eighths 18 = .ok (.iconst 1, 1) := by decide +kernel
theorem dX6_eighths_19 : decode cX6_eighths 19 = .ok (.isub, 1) := by decide +kernel
theorem dX6_eighths_20 : decode cX6_eighths 20 = .ok (.iload_n 2, 1) := by decide +kernel
theorem dX6_eighths_21 : decode cX6_eighths 21 = .ok (.idiv, 1) := by decide +kernel
theorem dX6_eighths_22 : decode cX6_eighths 22 = .ok (.goto 4, 3) := by decide +kernel
theorem dX6_eighths_25 : decode cX6_eighths 25 = .ok (.iconst 0, 1) := by decide +kernel
theorem dX6_eighths_26 : decode cX6_eighths 26 = .ok (.ireturn, 1) := by decide +kernel
theorem dX6_isBelow_0 : decode cX6_isBelow 0 = .ok (.iload_n 0, 1) := by decide +kernel
theorem dX6_isBelow_1 : decode cX6_isBelow 1 = .ok (.ifCond .lt 12, 3) := by decide +kernel
theorem dX6_isBelow_4 : decode cX6_isBelow 4 = .ok (.iload_n 0, 1) := by decide +kernel
theorem dX6_isBelow_5 : decode cX6_isBelow 5 = .ok (.iload_n 1, 1) := by decide +kernel
theorem dX6_isBelow_6 : decode cX6_isBelow 6 = .ok (.if_icmp .ge 7, 3) := by decide +kernel
theorem dX6_isBelow_9 : decode cX6_isBelow 9 = .ok (.iconst 1, 1) := by decide +kernel
theorem dX6_isBelow_10 : decode cX6_isBelow 10 = .ok (.goto 4, 3) := by decide +kernel
theorem dX6_isBelow_13 : decode cX6_isBelow 13 = .ok (.iconst 0, 1) := by decide +kernel
theorem dX6_isBelow_14 : decode cX6_isBelow 14 = .ok (.ireturn, 1) := by decide +kernel
theorem dX6_isKind_0 : decode cX6_isKind 0 = .ok (.iload_n 0, 1) := by decide +kernel
theorem dX6_isKind_1 : decode cX6_isKind 1 = .ok (.ifCond .lt 12, 3) := by decide +kernel
theorem dX6_isKind_4 : decode cX6_isKind 4 = .ok (.iload_n 0, 1) := by decide +kernel
theorem dX6_isKind_5 : decode cX6_isKind 5 = .ok (.iconst 4, 1) := by decide +kernel
theorem dX6_isKind_6 : decode cX6_isKind 6 = .ok (.if_icmp .gt 7, 3) := by decide +kernel
theorem dX6_isKind_9 : decode cX6_isKind 9 = .ok (.iconst 1, 1) := by decide +kernel
theorem dX6_isKind_10 : decode cX6_isKind 10 = .ok (.goto 4, 3) := by decide +kernel
theorem dX6_isKind_13 : decode cX6_isKind 13 = .ok (.iconst 0, 1) := by decide +kernel
theorem dX6_isKind_14 : decode cX6_isKind 14 = .ok (.ireturn, 1) := by decide +kernel
theorem dX6_isLength_0 : decode cX6_isLength 0 = .ok (.iload_n 0, 1) := by decide +kernel
theorem dX6_isLength_1 : decode cX6_isLength 1 = .ok (.iconst 1, 1) := by decide +kernel
theorem dX6_isLength_2 : decode cX6_isLength 2 = .ok (.if_icmp .lt 14, 3) := by decide +kernel
theorem dX6_isLength_5 : decode cX6_isLength 5 = .ok (.iload_n 0, 1) := by decide +kernel
theorem dX6_isLength_6 : decode cX6_isLength 6 = .ok (.sipush 400, 3) := by decide +kernel
theorem dX6_isLength_9 : decode cX6_isLength 9 = .ok (.if_icmp .gt 7, 3) := by decide +kernel
theorem dX6_isLength_12 : decode cX6_isLength 12 = .ok (.iconst 1, 1) := by decide +kernel
theorem dX6_isLength_13 : decode cX6_isLength 13 = .ok (.goto 4, 3) := by decide +kernel
theorem dX6_isLength_16 : decode cX6_isLength 16 = .ok (.iconst 0, 1) := by decide +kernel
theorem dX6_isLength_17 : decode cX6_isLength 17 = .ok (.ireturn, 1) := by decide +kernel
theorem dX6_isPersonOf_0 : decode cX6_isPersonOf 0 = .ok (.iload_n 0, 1) := by decide +kernel
theorem dX6_isPersonOf_1 : decode cX6_isPersonOf 1 = .ok (.iconst 2, 1) := by decide +kernel
theorem dX6_isPersonOf_2 : decode cX6_isPersonOf 2 = .ok (.if_icmp .ne 21, 3) := by decide +kernel
theorem dX6_isPersonOf_5 : decode cX6_isPersonOf 5 = .ok (.iload_n 1, 1) := by decide +kernel
theorem dX6_isPersonOf_6 : decode cX6_isPersonOf 6 = .ok (.ifCond .lt 13, 3) := by decide +kernel
theorem dX6_isPersonOf_9 : decode cX6_isPersonOf 9 = .ok (.iload_n 1, 1) := by decide +kernel
theorem dX6_isPersonOf_10 : decode cX6_isPersonOf 10 = .ok (.bipush 9, 2) := by decide +kernel
theorem dX6_isPersonOf_12 : decode cX6_isPersonOf 12 = .ok (.if_icmp .gt 7, 3) := by decide +kernel
theorem dX6_isPersonOf_15 : decode cX6_isPersonOf 15 = .ok (.iconst 1, 1) := by decide +kernel
theorem dX6_isPersonOf_16 : decode cX6_isPersonOf 16 = .ok (.goto 17, 3) := by decide +kernel
theorem dX6_isPersonOf_19 : decode cX6_isPersonOf 19 = .ok (.iconst 0, 1) := by decide +kernel
theorem dX6_isPersonOf_20 : decode cX6_isPersonOf 20 = .ok (.goto 13, 3) := by decide +kernel
theorem dX6_isPersonOf_23 : decode cX6_isPersonOf 23 = .ok (.iload_n 1, 1) := by decide +kernel
theorem dX6_isPersonOf_24 : decode cX6_isPersonOf 24 = .ok (.iconst (-1), 1) := by decide +kernel
theorem dX6_isPersonOf_25 : decode cX6_isPersonOf 25 = .ok (.if_icmp .ne 7, 3) := by decide +kernel
theorem dX6_isPersonOf_28 : decode cX6_isPersonOf 28 = .ok (.iconst 1, 1) := by decide +kernel
theorem dX6_isPersonOf_29 : decode cX6_isPersonOf 29 = .ok (.goto 4, 3) := by decide +kernel
theorem dX6_isPersonOf_32 : decode cX6_isPersonOf 32 = .ok (.iconst 0, 1) := by decide +kernel
theorem dX6_isPersonOf_33 : decode cX6_isPersonOf 33 = .ok (.ireturn, 1) := by decide +kernel
theorem dX6_isPageLines_0 : decode cX6_isPageLines 0 = .ok (.iload_n 0, 1) := by decide +kernel
theorem dX6_isPageLines_1 : decode cX6_isPageLines 1 = .ok (.bipush 20, 2) := by decide +kernel
theorem dX6_isPageLines_3 : decode cX6_isPageLines 3 = .ok (.if_icmp .lt 13, 3) := by decide +kernel
theorem dX6_isPageLines_6 : decode cX6_isPageLines 6 = .ok (.iload_n 0, 1) := by decide +kernel
theorem dX6_isPageLines_7 : decode cX6_isPageLines 7 = .ok (.bipush 60, 2) := by decide +kernel
theorem dX6_isPageLines_9 : decode cX6_isPageLines 9 = .ok (.if_icmp .gt 7, 3) := by decide +kernel
theorem dX6_isPageLines_12 : decode cX6_isPageLines 12 = .ok (.iconst 1, 1) := by decide +kernel
theorem dX6_isPageLines_13 : decode cX6_isPageLines 13 = .ok (.goto 4, 3) := by decide +kernel
theorem dX6_isPageLines_16 : decode cX6_isPageLines 16 = .ok (.iconst 0, 1) := by decide +kernel
theorem dX6_isPageLines_17 : decode cX6_isPageLines 17 = .ok (.ireturn, 1) := by decide +kernel

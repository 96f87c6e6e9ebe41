theorem dX7_init_0 : decode cX7_init 0 = .ok (.aload_n 0, 1) := by decide +kernel
theorem dX7_init_1 : decode cX7_init 1 = .ok (.invokespecial 1, 3) := by decide +kernel
theorem dX7_init_4 : decode cX7_init 4 = .ok (.aload_n 0, 1) := by decide +kernel
theorem dX7_init_5 : decode cX7_init 5 = .ok (.sipush 542, 3) := by decide +kernel
theorem dX7_init_8 : decode cX7_init 8 = .ok (.newarray .int, 2) := by decide +kernel
theorem dX7_init_10 : decode cX7_init 10 = .ok (.putfield 7, 3) := by decide +kernel
theorem dX7_init_13 : decode cX7_init 13 = .ok (.aload_n 0, 1) := by decide +kernel
theorem dX7_init_14 : decode cX7_init 14 = .ok (.sipush 2168, 3) := by decide +kernel
theorem dX7_init_17 : decode cX7_init 17 = .ok (.newarray .int, 2) := by decide +kernel
theorem dX7_init_19 : decode cX7_init 19 = .ok (.putfield 13, 3) := by decide +kernel
theorem dX7_init_22 : decode cX7_init 22 = .ok (.aload_n 0, 1) := by decide +kernel
theorem dX7_init_23 : decode cX7_init 23 = .ok (.sipush 542, 3) := by decide +kernel
theorem dX7_init_26 : decode cX7_init 26 = .ok (.newarray .int, 2) := by decide +kernel
theorem dX7_init_28 : decode cX7_init 28 = .ok (.putfield 16, 3) := by decide +kernel
theorem dX7_init_31 : decode cX7_init 31 = .ok (.aload_n 0, 1) := by decide +kernel
theorem dX7_init_32 : decode cX7_init 32 = .ok (.sipush 200, 3) := by decide +kernel
theorem dX7_init_35 : decode cX7_init 35 = .ok (.newarray .int, 2) := by decide +kernel
theorem dX7_init_37 : decode cX7_init 37 = .ok (.putfield 19, 3) := by decide +kernel
theorem dX7_init_40 : decode cX7_init 40 = .ok (.aload_n 0, 1) := by decide +kernel
theorem dX7_init_41 : decode cX7_init 41 = .ok (.bipush 60, 2) := by decide +kernel
theorem dX7_init_43 : decode cX7_init 43 = .ok (.newarray .int, 2) := by decide +kernel
theorem dX7_init_45 : decode cX7_init 45 = .ok (.putfield 22, 3) := by decide +kernel
theorem dX7_init_48 : decode cX7_init 48 = .ok (.aload_n 0, 1) := by decide +kernel
theorem dX7_init_49 : decode cX7_init 49 = .ok (.bipush 60, 2) := by decide +kernel
theorem dX7_init_51 : decode cX7_init 51 = .ok (.newarray .int, 2) := by decide +kernel
theorem dX7_init_53 : decode cX7_init 53 = .ok (.putfield 25, 3) := by decide +kernel
theorem dX7_init_56 : decode cX7_init 56 = .ok (.aload_n 0, 1) := by decide +kernel
theorem dX7_init_57 : decode cX7_init 57 = .ok (.bipush 60, 2) := by decide +kernel
theorem dX7_init_59 : decode cX7_init 59 = .ok (.newarray .int, 2) := by decide +kernel
theorem dX7_init_61 : decode cX7_init 61 = .ok (.putfield 28, 3) := by decide +kernel
theorem dX7_init_64 : decode cX7_init 64 = .ok (.aload_n 0, 1) := by decide +kernel
theorem dX7_init_65 : decode cX7_init 65 = .ok (.sipush 130, 3) := by decide +kernel
theorem dX7_init_68 : decode cX7_init 68 = .ok (.newarray .int, 2) := by decide +kernel
theorem dX7_init_70 : decode cX7_init 70 = .ok (.putfield 31, 3) := by decide +kernel
theorem dX7_init_73 : decode cX7_init 73 = .ok (.aload_n 0, 1) := by decide +kernel
theorem dX7_init_74 : decode cX7_init 74 = .ok (.sipush 130, 3) := by decide +kernel
theorem dX7_init_77 : decode cX7_init 77 = .ok (.newarray .int, 2) := by decide +kernel
theorem dX7_init_79 : decode cX7_init 79 = .ok (.putfield 34, 3) := by decide +kernel
theorem dX7_init_82 : decode cX7_init 82 = .ok (.aload_n 0, 1) := by decide +kernel
theorem dX7_init_83 : decode cX7_init 83 = .ok (.sipush 130, 3) := by decide +kernel
theorem dX7_init_86 : decode cX7_init 86 = .ok (.newarray .int, 2) := by decide +kernel
theorem dX7_init_88 : decode cX7_init 88 = .ok (.putfield 37, 3) := by decide +kernel
theorem dX7_init_91 : decode cX7_init 91 = .ok (.aload_n 0, 1) := by decide +kernel
theorem dX7_init_92 : decode cX7_init 92 = .ok (.sipush 180, 3) := by decide +kernel
theorem dX7_init_95 : decode cX7_init 95 = .ok (.newarray .int, 2) := by decide +kernel
theorem dX7_init_97 : decode cX7_init 97 = .ok (.putfield 40, 3) := by decide +kernel
theorem dX7_init_100 : decode cX7_init 100 = .ok (.aload_n 0, 1) := by decide +kernel
theorem dX7_init_101 : decode cX7_init 101 = .ok (.getfield 7, 3) := by decide +kernel
theorem dX7_init_104 : decode cX7_init 104 = .ok (.iconst 0, 1) := by decide +kernel
theorem dX7_init_105 : decode cX7_init 105 = .ok (.bipush 50, 2) := by decide +kernel
theorem dX7_init_107 : decode cX7_init 107 = .ok (.iastore, 1) := by decide +kernel
theorem dX7_init_108 : decode cX7_init 108 = .ok (.return_, 1) := by decide +kernel
theorem dX7_thrown_0 : decode cX7_thrown 0 = .ok (.aload_n 0, 1) := by decide +kernel
theorem dX7_thrown_1 : decode cX7_thrown 1 = .ok (.getfield 43, 3) := by decide +kernel
theorem dX7_thrown_4 : decode cX7_thrown 4 = .ok (.ireturn, 1) := by decide +kernel
theorem dX7_in_0 : decode cX7_in 0 = .ok (.iload_n 0, 1) := by decide +kernel
theorem dX7_in_1 : decode cX7_in 1 = .ok (.iload_n 1, 1) := by decide +kernel
theorem dX7_in_2 : decode cX7_in 2 = .ok (.if_icmp .lt 12, 3) := by decide +kernel
theorem dX7_in_5 : decode cX7_in 5 = .ok (.iload_n 0, 1) := by decide +kernel
theorem dX7_in_6 : decode cX7_in 6 = .ok (.iload_n 2, 1) := by decide +kernel
theorem dX7_in_7 : decode cX7_in 7 = .ok (.if_icmp .gt 7, 3) := by decide +kernel
theorem dX7_in_10 : decode cX7_in 10 = .ok (.iconst 1, 1) := by decide +kernel
theorem dX7_in_11 : decode cX7_in 11 = .ok (.goto 4, 3) := by decide +kernel
theorem dX7_in_14 : decode cX7_in 14 = .ok (.iconst 0, 1) := by decide +kernel
theorem dX7_in_15 : decode cX7_in 15 = .ok (.ireturn, 1) := by decide +kernel
theorem dX7_fails_0 : decode cX7_fails 0 = .ok (.aload_n 0, 1) := by decide +kernel
theorem dX7_fails_1 : decode cX7_fails 1 = .ok (.iload_n 1, 1) := by decide +kernel
theorem dX7_fails_2 : decode cX7_fails 2 = .ok (.putfield 43, 3) := by decide +kernel
theorem dX7_fails_5 : decode cX7_fails 5 = .ok (.iconst 0, 1) := by decide +kernel
theorem dX7_fails_6 : decode cX7_fails 6 = .ok (.ireturn, 1) := by decide +kernel
theorem dX7_tells_0 : decode cX7_tells 0 = .ok (.aload_n 0, 1) := by decide +kernel
theorem dX7_tells_1 : decode cX7_tells 1 = .ok (.iconst 0, 1) := by decide +kernel
theorem dX7_tells_2 : decode cX7_tells 2 = .ok (.putfield 43, 3) := by decide +kernel
theorem dX7_tells_5 : decode cX7_tells 5 = .ok (.iload_n 1, 1) := by decide +kernel
theorem dX7_tells_6 : decode cX7_tells 6 = .ok (.ireturn, 1) := by decide +kernel
theorem dX7_copies_0 : decode cX7_copies 0 = .ok (.iconst 0, 1) := by decide +kernel
theorem dX7_copies_1 : decode cX7_copies 1 = .ok (.istore_n 2, 1) := by decide +kernel
theorem dX7_copies_2 : decode cX7_copies 2 = .ok (.iload_n 2, 1) := by decide +kernel
theorem dX7_copies_3 : decode cX7_copies 3 = .ok (.sipush 542, 3) := by decide +kernel
theorem dX7_copies_6 : decode cX7_copies 6 = .ok (.if_icmp .ge 15, 3) := by decide +kernel
theorem dX7_copies_9 : decode cX7_copies 9 = .ok (.aload_n 0, 1) := by decide +kernel
theorem dX7_copies_10 : decode cX7_copies 10 = .ok (.iload_n 2, 1) := by decide +kernel
theorem dX7_copies_11 : decode cX7_copies 11 = .ok (.aload_n 1, 1) := by decide +kernel
theorem dX7_copies_12 : decode cX7_copies 12 = .ok (.iload_n 2, 1) := by decide +kernel
theorem dX7_copies_13 : decode cX7_copies 13 = .ok (.iaload, 1) := by decide +kernel
theorem dX7_copies_14 : decode cX7_copies 14 = .ok (.iastore, 1) := by decide +kernel
theorem dX7_copies_15 : decode cX7_copies 15 = .ok (.iinc 2 1, 3) := by decide +kernel
theorem dX7_copies_18 : decode cX7_copies 18 = .ok (.goto (-16), 3) := by decide +kernel
theorem dX7_copies_21 : decode cX7_copies 21 = .ok (.return_, 1) := by decide +kernel
set_option maxRecDepth 20000 in
theorem ggX7_hold_X7_copies : GoodIn wsX7_hold wsX7_copies := goodIn_r _ [6] (by decide +kernel) (by decide +kernel)
set_option maxRecDepth 20000 in
theorem gX7_hold_X7_copies : GoodIn wsX7_hold (va_wsS RX7 47 yX7_copies wsX7_copies) := goodIn_app (goodIn_of _ (by decide +kernel)) ggX7_hold_X7_copies
theorem dX7_hold_0 : decode cX7_hold 0 = .ok (.aload_n 0, 1) := by decide +kernel
theorem dX7_hold_1 : decode cX7_hold 1 = .ok (.getfield 16, 3) := by decide +kernel
theorem dX7_hold_4 : decode cX7_hold 4 = .ok (.aload_n 0, 1) := by decide +kernel
theorem dX7_hold_5 : decode cX7_hold 5 = .ok (.getfield 7, 3) := by decide +kernel
theorem dX7_hold_8 : decode cX7_hold 8 = .ok (.invokestatic 47, 3) := by decide +kernel
theorem dX7_hold_11 : decode cX7_hold 11 = .ok (.return_, 1) := by decide +kernel
set_option maxRecDepth 20000 in
theorem ggX7_ends_X7_tells : GoodIn wsX7_ends wsX7_tells := goodIn_r _ [8, 9, 10, 11, 12, 13, 14, 15, 16, 17, 18, 19, 20, 21, 22, 23, 24, 25, 26, 27, 28] (by decide +kernel) (by decide +kernel)
set_option maxRecDepth 20000 in
theorem gX7_ends_X7_tells : GoodIn wsX7_ends (wsV RX7 54 RX7 yX7_tells wsX7_tells) := goodIn_app (goodIn_of _ (by decide +kernel)) ggX7_ends_X7_tells
theorem dX7_ends_0 : decode cX7_ends 0 = .ok (.aload_n 0, 1) := by decide +kernel
theorem dX7_ends_1 : decode cX7_ends 1 = .ok (.getfield 51, 3) := by decide +kernel
theorem dX7_ends_4 : decode cX7_ends 4 = .ok (.iconst 4, 1) := by decide +kernel
theorem dX7_ends_5 : decode cX7_ends 5 = .ok (.if_icmp .ne 44, 3) := by decide +kernel
theorem dX7_ends_8 : decode cX7_ends 8 = .ok (.iconst 0, 1) := by decide +kernel
theorem dX7_ends_9 : decode cX7_ends 9 = .ok (.istore_n 2, 1) := by decide +kernel
theorem dX7_ends_10 : decode cX7_ends 10 = .ok (.iload_n 2, 1) := by decide +kernel
theorem dX7_ends_11 : decode cX7_ends 11 = .ok (.sipush 1626, 3) := by decide +kernel
theorem dX7_ends_14 : decode cX7_ends 14 = .ok (.if_icmp .ge 25, 3) := by decide +kernel
theorem dX7_ends_17 : decode cX7_ends 17 = .ok (.aload_n 0, 1) := by decide +kernel
theorem dX7_ends_18 : decode cX7_ends 18 = .ok (.getfield 13, 3) := by decide +kernel
theorem dX7_ends_21 : decode cX7_ends 21 = .ok (.iload_n 2, 1) := by decide +kernel
theorem dX7_ends_22 : decode cX7_ends 22 = .ok (.aload_n 0, 1) := by decide +kernel
theorem dX7_ends_23 : decode cX7_ends 23 = .ok (.getfield 13, 3) := by decide +kernel
theorem dX7_ends_26 : decode cX7_ends 26 = .ok (.iload_n 2, 1) := by decide +kernel
theorem dX7_ends_27 : decode cX7_ends 27 = .ok (.sipush 542, 3) := by decide +kernel
theorem dX7_ends_30 : decode cX7_ends 30 = .ok (.iadd, 1) := by decide +kernel
theorem dX7_ends_31 : decode cX7_ends 31 = .ok (.iaload, 1) := by decide +kernel
theorem dX7_ends_32 : decode cX7_ends 32 = .ok (.iastore, 1) := by decide +kernel
theorem dX7_ends_33 : decode cX7_ends 33 = .ok (.iinc 2 1, 3) := by decide +kernel
theorem dX7_ends_36 : decode cX7_ends 36 = .ok (.goto (-26), 3) := by decide +kernel
theorem dX7_ends_39 : decode cX7_ends 39 = .ok (.aload_n 0, 1) := by decide +kernel
theorem dX7_ends_40 : decode cX7_ends 40 = .ok (.dup, 1) := by decide +kernel
theorem dX7_ends_41 : decode cX7_ends 41 = .ok (.getfield 51, 3) := by decide +kernel
theorem dX7_ends_44 : decode cX7_ends 44 = .ok (.iconst 1, 1) := by decide +kernel
theorem dX7_ends_45 : decode cX7_ends 45 = .ok (.isub, 1) := by decide +kernel
theorem dX7_ends_46 : decode cX7_ends 46 = .ok (.putfield 51, 3) := by decide +kernel
theorem dX7_ends_49 : decode cX7_ends 49 = .ok (.iconst 0, 1) := by decide +kernel
theorem dX7_ends_50 : decode cX7_ends 50 = .ok (.istore_n 2, 1) := by decide +kernel
theorem dX7_ends_51 : decode cX7_ends 51 = .ok (.iload_n 2, 1) := by decide +kernel
theorem dX7_ends_52 : decode cX7_ends 52 = .ok (.sipush 542, 3) := by decide +kernel
theorem dX7_ends_55 : decode cX7_ends 55 = .ok (.if_icmp .ge 30, 3) := by decide +kernel
theorem dX7_ends_58 : decode cX7_ends 58 = .ok (.aload_n 0, 1) := by decide +kernel
theorem dX7_ends_59 : decode cX7_ends 59 = .ok (.getfield 13, 3) := by decide +kernel
theorem dX7_ends_62 : decode cX7_ends 62 = .ok (.sipush 542, 3) := by decide +kernel
theorem dX7_ends_65 : decode cX7_ends 65 = .ok (.aload_n 0, 1) := by decide +kernel
theorem dX7_ends_66 : decode cX7_ends 66 = .ok (.getfield 51, 3) := by decide +kernel
theorem dX7_ends_69 : decode cX7_ends 69 = .ok (.imul, 1) := by decide +kernel
theorem dX7_ends_70 : decode cX7_ends 70 = .ok (.iload_n 2, 1) := by decide +kernel
theorem dX7_ends_71 : decode cX7_ends 71 = .ok (.iadd, 1) := by decide +kernel
theorem dX7_ends_72 : decode cX7_ends 72 = .ok (.aload_n 0, 1) := by decide +kernel
theorem dX7_ends_73 : decode cX7_ends 73 = .ok (.getfield 16, 3) := by decide +kernel
theorem dX7_ends_76 : decode cX7_ends 76 = .ok (.iload_n 2, 1) := by decide +kernel
theorem dX7_ends_77 : decode cX7_ends 77 = .ok (.iaload, 1) := by decide +kernel
theorem dX7_ends_78 : decode cX7_ends 78 = .ok (.iastore, 1) := by decide +kernel
theorem dX7_ends_79 : decode cX7_ends 79 = .ok (.iinc 2 1, 3) := by decide +kernel
theorem dX7_ends_82 : decode cX7_ends 82 = .ok (.goto (-31), 3) := by decide +kernel
theorem dX7_ends_85 : decode cX7_ends 85 = .ok (.aload_n 0, 1) := by decide +kernel
theorem dX7_ends_86 : decode cX7_ends 86 = .ok (.dup, 1) := by decide +kernel
theorem dX7_ends_87 : decode cX7_ends 87 = .ok (.getfield 51, 3) := by decide +kernel
theorem dX7_ends_90 : decode cX7_ends 90 = .ok (.iconst 1, 1) := by decide +kernel
theorem dX7_ends_91 : decode cX7_ends 91 = .ok (.iadd, 1) := by decide +kernel
theorem dX7_ends_92 : decode cX7_ends 92 = .ok (.putfield 51, 3) := by decide +kernel
theorem dX7_ends_95 : decode cX7_ends 95 = .ok (.aload_n 0, 1) := by decide +kernel
theorem dX7_ends_96 : decode cX7_ends 96 = .ok (.iload_n 1, 1) := by decide +kernel
theorem dX7_ends_97 : decode cX7_ends 97 = .ok (.invokevirtual 54, 3) := by decide +kernel
theorem dX7_ends_100 : decode cX7_ends 100 = .ok (.ireturn, 1) := by decide +kernel
theorem dX7_of_0 : decode cX7_of 0 = .ok (.aload_n 0, 1) := by decide +kernel
theorem dX7_of_1 : decode cX7_of 1 = .ok (.getfield 7, 3) := by decide +kernel
theorem dX7_of_4 : decode cX7_of 4 = .ok (.iconst 2, 1) := by decide +kernel
theorem dX7_of_5 : decode cX7_of 5 = .ok (.bipush 9, 2) := by decide +kernel
theorem dX7_of_7 : decode cX7_of 7 = .ok (.iload_n 1, 1) := by decide +kernel
theorem dX7_of_8 : decode cX7_of 8 = .ok (.imul, 1) := by decide +kernel
theorem dX7_of_9 : decode cX7_of 9 = .ok (.iadd, 1) := by decide +kernel
theorem dX7_of_10 : decode cX7_of 10 = .ok (.iload_n 2, 1) := by decide +kernel
theorem dX7_of_11 : decode cX7_of 11 = .ok (.iadd, 1) := by decide +kernel
theorem dX7_of_12 : decode cX7_of 12 = .ok (.iaload, 1) := by decide +kernel
theorem dX7_of_13 : decode cX7_of 13 = .ok (.ireturn, 1) := by decide +kernel
theorem dX7_puts_0 : decode cX7_puts 0 = .ok (.aload_n 0, 1) := by decide +kernel
theorem dX7_puts_1 : decode cX7_puts 1 = .ok (.getfield 7, 3) := by decide +kernel
theorem dX7_puts_4 : decode cX7_puts 4 = .ok (.iconst 2, 1) := by decide +kernel
theorem dX7_puts_5 : decode cX7_puts 5 = .ok (.bipush 9, 2) := by decide +kernel
theorem dX7_puts_7 : decode cX7_puts 7 = .ok (.iload_n 1, 1) := by decide +kernel
theorem dX7_puts_8 : decode cX7_puts 8 = .ok (.imul, 1) := by decide +kernel
theorem dX7_puts_9 : decode cX7_puts 9 = .ok (.iadd, 1) := by decide +kernel
theorem dX7_puts_10 : decode cX7_puts 10 = .ok (.iload_n 2, 1) := by decide +kernel
theorem dX7_puts_11 : decode cX7_puts 11 = .ok (.iadd, 1) := by decide +kernel
theorem dX7_puts_12 : decode cX7_puts 12 = .ok (.iload_n 3, 1) := by decide +kernel
theorem dX7_puts_13 : decode cX7_puts 13 = .ok (.iastore, 1) := by decide +kernel
theorem dX7_puts_14 : decode cX7_puts 14 = .ok (.return_, 1) := by decide +kernel
set_option maxRecDepth 20000 in
theorem ggX7_isElement_X7_in : GoodIn wsX7_isElement wsX7_in := goodIn_r _ [5] (by decide +kernel) (by decide +kernel)
set_option maxRecDepth 20000 in
theorem gX7_isElement_X7_in : GoodIn wsX7_isElement (va_wsS RX7 58 yX7_in wsX7_in) := goodIn_app (goodIn_of _ (by decide +kernel)) ggX7_isElement_X7_in
theorem dX7_isElement_0 : decode cX7_isElement 0 = .ok (.iload_n 1, 1) := by decide +kernel
theorem dX7_isElement_1 : decode cX7_isElement 1 = .ok (.iconst 0, 1) := by decide +kernel
theorem dX7_isElement_2 : decode cX7_isElement 2 = .ok (.aload_n 0, 1) := by decide +kernel
theorem dX7_isElement_3 : decode cX7_isElement 3 = .ok (.getfield 7, 3) := by decide +kernel
theorem dX7_isElement_6 : decode cX7_isElement 6 = .ok (.iconst 1, 1) := by decide +kernel
theorem dX7_isElement_7 : decode cX7_isElement 7 = .ok (.iaload, 1) := by decide +kernel
theorem dX7_isElement_8 : decode cX7_isElement 8 = .ok (.iconst 1, 1) := by decide +kernel
theorem dX7_isElement_9 : decode cX7_isElement 9 = .ok (.isub, 1) := by decide +kernel
theorem dX7_isElement_10 : decode cX7_isElement 10 = .ok (.invokestatic 58, 3) := by decide +kernel
theorem dX7_isElement_13 : decode cX7_isElement 13 = .ok (.ireturn, 1) := by decide +kernel
set_option maxRecDepth 20000 in
theorem ggX7_isHeading_X7_of : GoodIn wsX7_isHeading wsX7_of := goodIn_r _ [5, 6, 7, 8, 9, 10, 11, 12, 13, 14, 15, 16, 17, 18, 19, 20, 21, 22, 23, 24, 25] (by decide +kernel) (by decide +kernel)
set_option maxRecDepth 20000 in
theorem gX7_isHeading_X7_of : GoodIn wsX7_isHeading (wsV RX7 62 RX7 yX7_of wsX7_of) := goodIn_app (goodIn_of _ (by decide +kernel)) ggX7_isHeading_X7_of
theorem dX7_isHeading_0 : decode cX7_isHeading 0 = .ok (.aload_n 0, 1) := by decide +kernel
theorem dX7_isHeading_1 : decode cX7_isHeading 1 = .ok (.iload_n 1, 1) := by decide +kernel
theorem dX7_isHeading_2 : decode cX7_isHeading 2 = .ok (.iconst 0, 1) := by decide +kernel
theorem dX7_isHeading_3 : decode cX7_isHeading 3 = .ok (.invokevirtual 62, 3) := by decide +kernel
theorem dX7_isHeading_6 : decode cX7_isHeading 6 = .ok (.ifCond .ne 7, 3) := by decide +kernel
theorem dX7_isHeading_9 : decode cX7_isHeading 9 = .ok (.iconst 1, 1) := by decide +kernel
theorem dX7_isHeading_10 : decode cX7_isHeading 10 = .ok (.goto 4, 3) := by decide +kernel
theorem dX7_isHeading_13 : decode cX7_isHeading 13 = .ok (.iconst 0, 1) := by decide +kernel
theorem dX7_isHeading_14 : decode cX7_isHeading 14 = .ok (.ireturn, 1) := by decide +kernel
theorem dX7_wide_0 : decode cX7_wide 0 = .ok (.iload_n 0, 1) := by decide +kernel
theorem dX7_wide_1 : decode cX7_wide 1 = .ok (.iconst 3, 1) := by decide +kernel
theorem dX7_wide_2 : decode cX7_wide 2 = .ok (.if_icmp .ne 8, 3) := by decide +kernel
theorem dX7_wide_5 : decode cX7_wide 5 = .ok (.bipush 35, 2) := by decide +kernel
theorem dX7_wide_7 : decode cX7_wide 7 = .ok (.goto 15, 3) := by decide +kernel
theorem dX7_wide_10 : decode cX7_wide 10 = .ok (.iload_n 0, 1) := by decide +kernel
theorem dX7_wide_11 : decode cX7_wide 11 = .ok (.iconst 4, 1) := by decide +kernel
theorem dX7_wide_12 : decode cX7_wide 12 = .ok (.if_icmp .ne 8, 3) := by decide +kernel
theorem dX7_wide_15 : decode cX7_wide 15 = .ok (.bipush 25, 2) := by decide +kernel
theorem dX7_wide_17 : decode cX7_wide 17 = .ok (.goto 5, 3) := by decide +kernel
theorem dX7_wide_20 : decode cX7_wide 20 = .ok (.bipush 60, 2) := by decide +kernel
theorem dX7_wide_22 : decode cX7_wide 22 = .ok (.ireturn, 1) := by decide +kernel
set_option maxRecDepth 20000 in
theorem ggX7_lines_X7_of : GoodIn wsX7_lines wsX7_of := goodIn_r _ [5, 6, 10, 11, 12, 13, 14, 15, 16, 17, 18, 19, 20, 21, 22, 23, 24, 25, 26, 27, 28] (by decide +kernel) (by decide +kernel)
set_option maxRecDepth 20000 in
theorem gX7_lines_X7_of : GoodIn wsX7_lines (wsV RX7 62 RX7 yX7_of wsX7_of) := goodIn_app (goodIn_of _ (by decide +kernel)) ggX7_lines_X7_of
set_option maxRecDepth 20000 in
theorem ggX7_lines_X7_wide : GoodIn wsX7_lines wsX7_wide := goodIn_r _ [9] (by decide +kernel) (by decide +kernel)
set_option maxRecDepth 20000 in
theorem gX7_lines_X7_wide : GoodIn wsX7_lines (va_wsS RX7 66 yX7_wide wsX7_wide) := goodIn_app (goodIn_of _ (by decide +kernel)) ggX7_lines_X7_wide
theorem dX7_lines_0 : decode cX7_lines 0 = .ok (.aload_n 0, 1) := by decide +kernel
theorem dX7_lines_1 : decode cX7_lines 1 = .ok (.iload_n 1, 1) := by decide +kernel
theorem dX7_lines_2 : decode cX7_lines 2 = .ok (.iconst 0, 1) := by decide +kernel
theorem dX7_lines_3 : decode cX7_lines 3 = .ok (.invokevirtual 62, 3) := by decide +kernel
theorem dX7_lines_6 : decode cX7_lines 6 = .ok (.istore_n 2, 1) := by decide +kernel
theorem dX7_lines_7 : decode cX7_lines 7 = .ok (.iload_n 2, 1) := by decide +kernel
theorem dX7_lines_8 : decode cX7_lines 8 = .ok (.iconst 2, 1) := by decide +kernel
theorem dX7_lines_9 : decode cX7_lines 9 = .ok (.if_icmp .eq 13, 3) := by decide +kernel
theorem dX7_lines_12 : decode cX7_lines 12 = .ok (.aload_n 0, 1) := by decide +kernel
theorem dX7_lines_13 : decode cX7_lines 13 = .ok (.iload_n 1, 1) := by decide +kernel
theorem dX7_lines_14 : decode cX7_lines 14 = .ok (.iconst 3, 1) := by decide +kernel
theorem dX7_lines_15 : decode cX7_lines 15 = .ok (.invokevirtual 62, 3) := by decide +kernel
theorem dX7_lines_18 : decode cX7_lines 18 = .ok (.iconst 1, 1) := by decide +kernel
theorem dX7_lines_19 : decode cX7_lines 19 = .ok (.if_icmp .ne 7, 3) := by decide +kernel
theorem dX7_lines_22 : decode cX7_lines 22 = .ok (.iconst 1, 1) := by decide +kernel
theorem dX7_lines_23 : decode cX7_lines 23 = .ok (.goto 21, 3) := by decide +kernel
theorem dX7_lines_26 : decode cX7_lines 26 = .ok (.aload_n 0, 1) := by decide +kernel
theorem dX7_lines_27 : decode cX7_lines 27 = .ok (.iload_n 1, 1) := by decide +kernel
theorem dX7_lines_28 : decode cX7_lines 28 = .ok (.iconst 1, 1) := by decide +kernel
theorem dX7_lines_29 : decode cX7_lines 29 = .ok (.invokevirtual 62, 3) := by decide +kernel
theorem dX7_lines_32 : decode cX7_lines 32 = .ok (.iload_n 2, 1) := by decide +kernel
theorem dX7_lines_33 : decode cX7_lines 33 = .ok (.invokestatic 66, 3) := by decide +kernel
theorem dX7_lines_36 : decode cX7_lines 36 = .ok (.iadd, 1) := by decide +kernel
theorem dX7_lines_37 : decode cX7_lines 37 = .ok (.iconst 1, 1) := by decide +kernel
theorem dX7_lines_38 : decode cX7_lines 38 = .ok (.isub, 1) := by decide +kernel
theorem dX7_lines_39 : decode cX7_lines 39 = .ok (.iload_n 2, 1) := by decide +kernel
theorem dX7_lines_40 : decode cX7_lines 40 = .ok (.invokestatic 66, 3) := by decide +kernel
theorem dX7_lines_43 : decode cX7_lines 43 = .ok (.idiv, 1) := by decide +kernel
theorem dX7_lines_44 : decode cX7_lines 44 = .ok (.ireturn, 1) := by decide +kernel
set_option maxRecDepth 20000 in
theorem ggX7_blanks_X7_of : GoodIn wsX7_blanks wsX7_of := goodIn_r _ [5, 6, 7, 8, 9, 10, 11, 12, 13, 14, 15, 16, 17, 18, 19, 20, 21, 22, 23, 24, 25] (by decide +kernel) (by decide +kernel)
set_option maxRecDepth 20000 in
theorem gX7_blanks_X7_of : GoodIn wsX7_blanks (wsV RX7 62 RX7 yX7_of wsX7_of) := goodIn_app (goodIn_of _ (by decide +kernel)) ggX7_blanks_X7_of
theorem dX7_blanks_0 : decode cX7_blanks 0 = .ok (.aload_n 0, 1) := by decide +kernel
theorem dX7_blanks_1 : decode cX7_blanks 1 = .ok (.iload_n 1, 1) := by decide +kernel
theorem dX7_blanks_2 : decode cX7_blanks 2 = .ok (.iconst 0, 1) := by decide +kernel
theorem dX7_blanks_3 : decode cX7_blanks 3 = .ok (.invokevirtual 62, 3) := by decide +kernel
theorem dX7_blanks_6 : decode cX7_blanks 6 = .ok (.istore_n 2, 1) := by decide +kernel
theorem dX7_blanks_7 : decode cX7_blanks 7 = .ok (.iload_n 2, 1) := by decide +kernel
theorem dX7_blanks_8 : decode cX7_blanks 8 = .ok (.ifCond .ne 7, 3) := by decide +kernel
theorem dX7_blanks_11 : decode cX7_blanks 11 = .ok (.iconst 2, 1) := by decide +kernel
theorem dX7_blanks_12 : decode cX7_blanks 12 = .ok (.goto 18, 3) := by decide +kernel
theorem dX7_blanks_15 : decode cX7_blanks 15 = .ok (.iload_n 2, 1) := by decide +kernel
theorem dX7_blanks_16 : decode cX7_blanks 16 = .ok (.iconst 1, 1) := by decide +kernel
theorem dX7_blanks_17 : decode cX7_blanks 17 = .ok (.if_icmp .eq 8, 3) := by decide +kernel
theorem dX7_blanks_20 : decode cX7_blanks 20 = .ok (.iload_n 2, 1) := by decide +kernel
theorem dX7_blanks_21 : decode cX7_blanks 21 = .ok (.iconst 2, 1) := by decide +kernel
theorem dX7_blanks_22 : decode cX7_blanks 22 = .ok (.if_icmp .ne 7, 3) := by decide +kernel
theorem dX7_blanks_25 : decode cX7_blanks 25 = .ok (.iconst 1, 1) := by decide +kernel
theorem dX7_blanks_26 : decode cX7_blanks 26 = .ok (.goto 4, 3) := by decide +kernel
theorem dX7_blanks_29 : decode cX7_blanks 29 = .ok (.iconst 0, 1) := by decide +kernel
theorem dX7_blanks_30 : decode cX7_blanks 30 = .ok (.ireturn, 1) := by decide +kernel
set_option maxRecDepth 20000 in
theorem ggX7_least_X7_lines : GoodIn wsX7_least wsX7_lines := goodIn_r _ [5, 6, 7, 8, 4, 9, 10, 11, 12, 13, 14, 15, 16, 17, 18, 19, 20, 21, 22, 23, 24, 25, 26, 27, 28, 29, 30, 31, 32] (by decide +kernel) (by decide +kernel)
set_option maxRecDepth 20000 in
theorem gX7_least_X7_lines : GoodIn wsX7_least (wsV RX7 69 RX7 yX7_lines wsX7_lines) := goodIn_app (goodIn_of _ (by decide +kernel)) ggX7_least_X7_lines
set_option maxRecDepth 20000 in
theorem ggX7_least_X7_of : GoodIn wsX7_least wsX7_of := goodIn_r _ [9, 10, 14, 15, 16, 17, 18, 19, 20, 21, 22, 23, 24, 25, 26, 27, 28, 29, 30, 31, 32] (by decide +kernel) (by decide +kernel)
set_option maxRecDepth 20000 in
theorem gX7_least_X7_of : GoodIn wsX7_least (wsV RX7 62 RX7 yX7_of wsX7_of) := goodIn_app (goodIn_of _ (by decide +kernel)) ggX7_least_X7_of
theorem dX7_least_0 : decode cX7_least 0 = .ok (.aload_n 0, 1) := by decide +kernel
theorem dX7_least_1 : decode cX7_least 1 = .ok (.iload_n 1, 1) := by decide +kernel
theorem dX7_least_2 : decode cX7_least 2 = .ok (.invokevirtual 69, 3) := by decide +kernel
theorem dX7_least_5 : decode cX7_least 5 = .ok (.istore_n 2, 1) := by decide +kernel
theorem dX7_least_6 : decode cX7_least 6 = .ok (.iload_n 2, 1) := by decide +kernel
theorem dX7_least_7 : decode cX7_least 7 = .ok (.iconst 4, 1) := by decide +kernel
theorem dX7_least_8 : decode cX7_least 8 = .ok (.if_icmp .ge 7, 3) := by decide +kernel
theorem dX7_least_11 : decode cX7_least 11 = .ok (.iload_n 2, 1) := by decide +kernel
theorem dX7_least_12 : decode cX7_least 12 = .ok (.goto 32, 3) := by decide +kernel
theorem dX7_least_15 : decode cX7_least 15 = .ok (.aload_n 0, 1) := by decide +kernel
theorem dX7_least_16 : decode cX7_least 16 = .ok (.iload_n 1, 1) := by decide +kernel
theorem dX7_least_17 : decode cX7_least 17 = .ok (.iconst 0, 1) := by decide +kernel
theorem dX7_least_18 : decode cX7_least 18 = .ok (.invokevirtual 62, 3) := by decide +kernel
theorem dX7_least_21 : decode cX7_least 21 = .ok (.iconst 1, 1) := by decide +kernel
theorem dX7_least_22 : decode cX7_least 22 = .ok (.if_icmp .ne 7, 3) := by decide +kernel
theorem dX7_least_25 : decode cX7_least 25 = .ok (.iconst 2, 1) := by decide +kernel
theorem dX7_least_26 : decode cX7_least 26 = .ok (.goto 18, 3) := by decide +kernel
theorem dX7_least_29 : decode cX7_least 29 = .ok (.aload_n 0, 1) := by decide +kernel
theorem dX7_least_30 : decode cX7_least 30 = .ok (.iload_n 1, 1) := by decide +kernel
theorem dX7_least_31 : decode cX7_least 31 = .ok (.iconst 0, 1) := by decide +kernel
theorem dX7_least_32 : decode cX7_least 32 = .ok (.invokevirtual 62, 3) := by decide +kernel
theorem dX7_least_35 : decode cX7_least 35 = .ok (.iconst 3, 1) := by decide +kernel
theorem dX7_least_36 : decode cX7_least 36 = .ok (.if_icmp .ne 7, 3) := by decide +kernel
theorem dX7_least_39 : decode cX7_least 39 = .ok (.iconst 3, 1) := by decide +kernel
theorem dX7_least_40 : decode cX7_least 40 = .ok (.goto 4, 3) := by decide +kernel
theorem dX7_least_43 : decode cX7_least 43 = .ok (.iload_n 2, 1) := by decide +kernel
theorem dX7_least_44 : decode cX7_least 44 = .ok (.ireturn, 1) := by decide +kernel
set_option maxRecDepth 20000 in
theorem ggX7_isText_X7_of : GoodIn wsX7_isText wsX7_of := goodIn_r _ [5, 6, 7, 8, 9, 10, 11, 12, 13, 14, 15, 16, 17, 18, 19, 20, 21, 22, 23, 24, 25] (by decide +kernel) (by decide +kernel)
set_option maxRecDepth 20000 in
theorem gX7_isText_X7_of : GoodIn wsX7_isText (wsV RX7 62 RX7 yX7_of wsX7_of) := goodIn_app (goodIn_of _ (by decide +kernel)) ggX7_isText_X7_of
theorem dX7_isText_0 : decode cX7_isText 0 = .ok (.aload_n 0, 1) := by decide +kernel
theorem dX7_isText_1 : decode cX7_isText 1 = .ok (.iload_n 1, 1) := by decide +kernel
theorem dX7_isText_2 : decode cX7_isText 2 = .ok (.iconst 0, 1) := by decide +kernel
theorem dX7_isText_3 : decode cX7_isText 3 = .ok (.invokevirtual 62, 3) := by decide +kernel
theorem dX7_isText_6 : decode cX7_isText 6 = .ok (.iconst 1, 1) := by decide +kernel
theorem dX7_isText_7 : decode cX7_isText 7 = .ok (.if_icmp .eq 13, 3) := by decide +kernel
theorem dX7_isText_10 : decode cX7_isText 10 = .ok (.aload_n 0, 1) := by decide +kernel
theorem dX7_isText_11 : decode cX7_isText 11 = .ok (.iload_n 1, 1) := by decide +kernel
theorem dX7_isText_12 : decode cX7_isText 12 = .ok (.iconst 0, 1) := by decide +kernel
theorem dX7_isText_13 : decode cX7_isText 13 = .ok (.invokevirtual 62, 3) := by decide +kernel
theorem dX7_isText_16 : decode cX7_isText 16 = .ok (.iconst 3, 1) := by decide +kernel
theorem dX7_isText_17 : decode cX7_isText 17 = .ok (.if_icmp .ne 7, 3) := by decide +kernel
theorem dX7_isText_20 : decode cX7_isText 20 = .ok (.iconst 1, 1) := by decide +kernel
theorem dX7_isText_21 : decode cX7_isText 21 = .ok (.goto 4, 3) := by decide +kernel
theorem dX7_isText_24 : decode cX7_isText 24 = .ok (.iconst 0, 1) := by decide +kernel
theorem dX7_isText_25 : decode cX7_isText 25 = .ok (.ireturn, 1) := by decide +kernel
set_option maxRecDepth 20000 in
theorem ggX7_wantsNext_X7_isText : GoodIn wsX7_wantsNext wsX7_isText := goodIn_r _ [6, 7, 8, 9, 5, 10, 1, 15, 16, 17, 18, 19, 20, 21, 22, 23, 24, 25, 26, 27, 28, 29, 30, 31, 32, 33] (by decide +kernel) (by decide +kernel)
set_option maxRecDepth 20000 in
theorem gX7_wantsNext_X7_isText : GoodIn wsX7_wantsNext (wsV RX7 72 RX7 yX7_isText wsX7_isText) := goodIn_app (goodIn_of _ (by decide +kernel)) ggX7_wantsNext_X7_isText
set_option maxRecDepth 20000 in
theorem ggX7_wantsNext_X7_of : GoodIn wsX7_wantsNext wsX7_of := goodIn_r _ [10, 1, 15, 16, 17, 18, 19, 20, 21, 22, 23, 24, 25, 26, 27, 28, 29, 30, 31, 32, 33] (by decide +kernel) (by decide +kernel)
set_option maxRecDepth 20000 in
theorem gX7_wantsNext_X7_of : GoodIn wsX7_wantsNext (wsV RX7 62 RX7 yX7_of wsX7_of) := goodIn_app (goodIn_of _ (by decide +kernel)) ggX7_wantsNext_X7_of
set_option maxRecDepth 20000 in
theorem ggX7_wantsNext_X7_isHeading : GoodIn wsX7_wantsNext wsX7_isHeading := goodIn_r _ [14, 7, 8, 9, 5, 10, 1, 15, 16, 17, 18, 19, 20, 21, 22, 23, 24, 25, 26, 27, 28, 29, 30, 31, 32, 33] (by decide +kernel) (by decide +kernel)
set_option maxRecDepth 20000 in
theorem gX7_wantsNext_X7_isHeading : GoodIn wsX7_wantsNext (wsV RX7 76 RX7 yX7_isHeading wsX7_isHeading) := goodIn_app (goodIn_of _ (by decide +kernel)) ggX7_wantsNext_X7_isHeading
theorem dX7_wantsNext_0 : decode cX7_wantsNext 0 = .ok (.aload_n 0, 1) := by decide +kernel
theorem dX7_wantsNext_1 : decode cX7_wantsNext 1 = .ok (.iload_n 1, 1) := by decide +kernel
theorem dX7_wantsNext_2 : decode cX7_wantsNext 2 = .ok (.invokevirtual 72, 3) := by decide +kernel
theorem dX7_wantsNext_5 : decode cX7_wantsNext 5 = .ok (.ifCond .ne 38, 3) := by decide +kernel
theorem dX7_wantsNext_8 : decode cX7_wantsNext 8 = .ok (.iload_n 1, 1) := by decide +kernel
theorem dX7_wantsNext_9 : decode cX7_wantsNext 9 = .ok (.iconst 1, 1) := by decide +kernel
theorem dX7_wantsNext_10 : decode cX7_wantsNext 10 = .ok (.iadd, 1) := by decide +kernel
theorem dX7_wantsNext_11 : decode cX7_wantsNext 11 = .ok (.aload_n 0, 1) := by decide +kernel
theorem dX7_wantsNext_12 : decode cX7_wantsNext 12 = .ok (.getfield 7, 3) := by decide +kernel
theorem dX7_wantsNext_15 : decode cX7_wantsNext 15 = .ok (.iconst 1, 1) := by decide +kernel
theorem dX7_wantsNext_16 : decode cX7_wantsNext 16 = .ok (.iaload, 1) := by decide +kernel
theorem dX7_wantsNext_17 : decode cX7_wantsNext 17 = .ok (.if_icmp .eq 26, 3) := by decide +kernel
theorem dX7_wantsNext_20 : decode cX7_wantsNext 20 = .ok (.aload_n 0, 1) := by decide +kernel
theorem dX7_wantsNext_21 : decode cX7_wantsNext 21 = .ok (.iload_n 1, 1) := by decide +kernel
theorem dX7_wantsNext_22 : decode cX7_wantsNext 22 = .ok (.iconst 1, 1) := by decide +kernel
theorem dX7_wantsNext_23 : decode cX7_wantsNext 23 = .ok (.iadd, 1) := by decide +kernel
theorem dX7_wantsNext_24 : decode cX7_wantsNext 24 = .ok (.bipush 8, 2) := by decide +kernel
theorem dX7_wantsNext_26 : decode cX7_wantsNext 26 = .ok (.invokevirtual 62, 3) := by decide +kernel
theorem dX7_wantsNext_29 : decode cX7_wantsNext 29 = .ok (.iconst (-1), 1) := by decide +kernel
theorem dX7_wantsNext_30 : decode cX7_wantsNext 30 = .ok (.if_icmp .ne 13, 3) := by decide +kernel
theorem dX7_wantsNext_33 : decode cX7_wantsNext 33 = .ok (.aload_n 0, 1) := by decide +kernel
theorem dX7_wantsNext_34 : decode cX7_wantsNext 34 = .ok (.iload_n 1, 1) := by decide +kernel
theorem dX7_wantsNext_35 : decode cX7_wantsNext 35 = .ok (.iconst 1, 1) := by decide +kernel
theorem dX7_wantsNext_36 : decode cX7_wantsNext 36 = .ok (.iadd, 1) := by decide +kernel
theorem dX7_wantsNext_37 : decode cX7_wantsNext 37 = .ok (.invokevirtual 76, 3) := by decide +kernel
theorem dX7_wantsNext_40 : decode cX7_wantsNext 40 = .ok (.ifCond .eq 5, 3) := by decide +kernel
theorem dX7_wantsNext_43 : decode cX7_wantsNext 43 = .ok (.iconst 0, 1) := by decide +kernel
theorem dX7_wantsNext_44 : decode cX7_wantsNext 44 = .ok (.ireturn, 1) := by decide +kernel
theorem dX7_wantsNext_45 : decode cX7_wantsNext 45 = .ok (.aload_n 0, 1) := by decide +kernel
theorem dX7_wantsNext_46 : decode cX7_wantsNext 46 = .ok (.iload_n 1, 1) := by decide +kernel
theorem dX7_wantsNext_47 : decode cX7_wantsNext 47 = .ok (.invokevirtual 76, 3) := by decide +kernel
theorem dX7_wantsNext_50 : decode cX7_wantsNext 50 = .ok (.ifCond .ne 27, 3) := by decide +kernel
theorem dX7_wantsNext_53 : decode cX7_wantsNext 53 = .ok (.aload_n 0, 1) := by decide +kernel
theorem dX7_wantsNext_54 : decode cX7_wantsNext 54 = .ok (.iload_n 1, 1) := by decide +kernel
theorem dX7_wantsNext_55 : decode cX7_wantsNext 55 = .ok (.iconst 1, 1) := by decide +kernel
theorem dX7_wantsNext_56 : decode cX7_wantsNext 56 = .ok (.iadd, 1) := by decide +kernel
theorem dX7_wantsNext_57 : decode cX7_wantsNext 57 = .ok (.iconst 0, 1) := by decide +kernel
theorem dX7_wantsNext_58 : decode cX7_wantsNext 58 = .ok (.invokevirtual 62, 3) := by decide +kernel
theorem dX7_wantsNext_61 : decode cX7_wantsNext 61 = .ok (.iconst 4, 1) := by decide +kernel
theorem dX7_wantsNext_62 : decode cX7_wantsNext 62 = .ok (.if_icmp .eq 15, 3) := by decide +kernel
theorem dX7_wantsNext_65 : decode cX7_wantsNext 65 = .ok (.aload_n 0, 1) := by decide +kernel
theorem dX7_wantsNext_66 : decode cX7_wantsNext 66 = .ok (.iload_n 1, 1) := by decide +kernel
theorem dX7_wantsNext_67 : decode cX7_wantsNext 67 = .ok (.iconst 1, 1) := by decide +kernel
theorem dX7_wantsNext_68 : decode cX7_wantsNext 68 = .ok (.iadd, 1) := by decide +kernel
theorem dX7_wantsNext_69 : decode cX7_wantsNext 69 = .ok (.iconst 0, 1) := by decide +kernel
theorem dX7_wantsNext_70 : decode cX7_wantsNext 70 = .ok (.invokevirtual 62, 3) := by decide +kernel
theorem dX7_wantsNext_73 : decode cX7_wantsNext 73 = .ok (.iconst 3, 1) := by decide +kernel
theorem dX7_wantsNext_74 : decode cX7_wantsNext 74 = .ok (.if_icmp .ne 7, 3) := by decide +kernel
theorem dX7_wantsNext_77 : decode cX7_wantsNext 77 = .ok (.iconst 1, 1) := by decide +kernel
theorem dX7_wantsNext_78 : decode cX7_wantsNext 78 = .ok (.goto 4, 3) := by decide +kernel
theorem dX7_wantsNext_81 : decode cX7_wantsNext 81 = .ok (.iconst 0, 1) := by decide +kernel
theorem dX7_wantsNext_82 : decode cX7_wantsNext 82 = .ok (.ireturn, 1) := by decide +kernel
set_option maxRecDepth 20000 in
theorem ggX7_need_X7_wantsNext : GoodIn wsX7_need wsX7_wantsNext := goodIn_r _ [5, 6, 7, 8, 9, 4, 10, 11, 12, 13, 14, 15, 16, 17, 18, 34, 35, 36, 37, 38, 39, 40, 41, 42, 43, 44, 45, 46, 47, 48, 49, 50, 51, 52] (by decide +kernel) (by decide +kernel)
set_option maxRecDepth 20000 in
theorem gX7_need_X7_wantsNext : GoodIn wsX7_need (wsV RX7 79 RX7 yX7_wantsNext wsX7_wantsNext) := goodIn_app (goodIn_of _ (by decide +kernel)) ggX7_need_X7_wantsNext
set_option maxRecDepth 20000 in
theorem ggX7_need_X7_lines : GoodIn wsX7_need wsX7_lines := goodIn_r _ [22, 11, 12, 13, 4, 14, 6, 23, 24, 25, 34, 35, 36, 37, 38, 39, 40, 41, 42, 43, 44, 45, 46, 47, 48, 49, 50, 51, 52] (by decide +kernel) (by decide +kernel)
set_option maxRecDepth 20000 in
theorem gX7_need_X7_lines : GoodIn wsX7_need (wsV RX7 69 RX7 yX7_lines wsX7_lines) := goodIn_app (goodIn_of _ (by decide +kernel)) ggX7_need_X7_lines
set_option maxRecDepth 20000 in
theorem ggX7_need_X7_blanks : GoodIn wsX7_need wsX7_blanks := goodIn_r _ [29, 11, 12, 13, 4, 14, 6, 34, 35, 36, 37, 38, 39, 40, 41, 42, 43, 44, 45, 46, 47, 48, 49, 50, 51, 52] (by decide +kernel) (by decide +kernel)
set_option maxRecDepth 20000 in
theorem gX7_need_X7_blanks : GoodIn wsX7_need (wsV RX7 82 RX7 yX7_blanks wsX7_blanks) := goodIn_app (goodIn_of _ (by decide +kernel)) ggX7_need_X7_blanks
set_option maxRecDepth 20000 in
theorem ggX7_need_X7_least : GoodIn wsX7_need wsX7_least := goodIn_r _ [33, 19, 20, 21, 4, 22, 11, 12, 13, 14, 6, 23, 24, 25, 34, 35, 36, 37, 38, 39, 40, 41, 42, 43, 44, 45, 46, 47, 48, 49, 50, 51, 52] (by decide +kernel) (by decide +kernel)
set_option maxRecDepth 20000 in
theorem gX7_need_X7_least : GoodIn wsX7_need (wsV RX7 85 RX7 yX7_least wsX7_least) := goodIn_app (goodIn_of _ (by decide +kernel)) ggX7_need_X7_least
theorem dX7_need_0 : decode cX7_need 0 = .ok (.iload_n 1, 1) := by decide +kernel
theorem dX7_need_1 : decode cX7_need 1 = .ok (.istore_n 2, 1) := by decide +kernel
theorem dX7_need_2 : decode cX7_need 2 = .ok (.iconst 0, 1) := by decide +kernel
theorem dX7_need_3 : decode cX7_need 3 = .ok (.istore_n 3, 1) := by decide +kernel
theorem dX7_need_4 : decode cX7_need 4 = .ok (.aload_n 0, 1) := by decide +kernel
theorem dX7_need_5 : decode cX7_need 5 = .ok (.iload_n 2, 1) := by decide +kernel
theorem dX7_need_6 : decode cX7_need 6 = .ok (.invokevirtual 79, 3) := by decide +kernel
theorem dX7_need_9 : decode cX7_need 9 = .ok (.ifCond .eq 25, 3) := by decide +kernel
theorem dX7_need_12 : decode cX7_need 12 = .ok (.iload_n 3, 1) := by decide +kernel
theorem dX7_need_13 : decode cX7_need 13 = .ok (.aload_n 0, 1) := by decide +kernel
theorem dX7_need_14 : decode cX7_need 14 = .ok (.iload_n 2, 1) := by decide +kernel
theorem dX7_need_15 : decode cX7_need 15 = .ok (.invokevirtual 69, 3) := by decide +kernel
theorem dX7_need_18 : decode cX7_need 18 = .ok (.aload_n 0, 1) := by decide +kernel
theorem dX7_need_19 : decode cX7_need 19 = .ok (.iload_n 2, 1) := by decide +kernel
theorem dX7_need_20 : decode cX7_need 20 = .ok (.iconst 1, 1) := by decide +kernel
theorem dX7_need_21 : decode cX7_need 21 = .ok (.iadd, 1) := by decide +kernel
theorem dX7_need_22 : decode cX7_need 22 = .ok (.invokevirtual 82, 3) := by decide +kernel
theorem dX7_need_25 : decode cX7_need 25 = .ok (.iadd, 1) := by decide +kernel
theorem dX7_need_26 : decode cX7_need 26 = .ok (.iadd, 1) := by decide +kernel
theorem dX7_need_27 : decode cX7_need 27 = .ok (.istore_n 3, 1) := by decide +kernel
theorem dX7_need_28 : decode cX7_need 28 = .ok (.iinc 2 1, 3) := by decide +kernel
theorem dX7_need_31 : decode cX7_need 31 = .ok (.goto (-27), 3) := by decide +kernel
theorem dX7_need_34 : decode cX7_need 34 = .ok (.iload_n 3, 1) := by decide +kernel
theorem dX7_need_35 : decode cX7_need 35 = .ok (.aload_n 0, 1) := by decide +kernel
theorem dX7_need_36 : decode cX7_need 36 = .ok (.iload_n 2, 1) := by decide +kernel
theorem dX7_need_37 : decode cX7_need 37 = .ok (.invokevirtual 85, 3) := by decide +kernel
theorem dX7_need_40 : decode cX7_need 40 = .ok (.iadd, 1) := by decide +kernel
theorem dX7_need_41 : decode cX7_need 41 = .ok (.ireturn, 1) := by decide +kernel
set_option maxRecDepth 20000 in
theorem ggX7_sceneMany_X7_isHeading : GoodIn wsX7_sceneMany wsX7_isHeading := goodIn_r _ [6, 7, 8, 9, 5, 10, 1, 11, 12, 13, 14, 15, 16, 17, 18, 19, 20, 21, 22, 23, 24, 25, 26, 27, 28, 29] (by decide +kernel) (by decide +kernel)
set_option maxRecDepth 20000 in
theorem gX7_sceneMany_X7_isHeading : GoodIn wsX7_sceneMany (wsV RX7 76 RX7 yX7_isHeading wsX7_isHeading) := goodIn_app (goodIn_of _ (by decide +kernel)) ggX7_sceneMany_X7_isHeading
theorem dX7_sceneMany_0 : decode cX7_sceneMany 0 = .ok (.iconst 0, 1) := by decide +kernel
theorem dX7_sceneMany_1 : decode cX7_sceneMany 1 = .ok (.istore_n 1, 1) := by decide +kernel
theorem dX7_sceneMany_2 : decode cX7_sceneMany 2 = .ok (.iconst 0, 1) := by decide +kernel
theorem dX7_sceneMany_3 : decode cX7_sceneMany 3 = .ok (.istore_n 2, 1) := by decide +kernel
theorem dX7_sceneMany_4 : decode cX7_sceneMany 4 = .ok (.iload_n 2, 1) := by decide +kernel
theorem dX7_sceneMany_5 : decode cX7_sceneMany 5 = .ok (.aload_n 0, 1) := by decide +kernel
theorem dX7_sceneMany_6 : decode cX7_sceneMany 6 = .ok (.getfield 7, 3) := by decide +kernel
theorem dX7_sceneMany_9 : decode cX7_sceneMany 9 = .ok (.iconst 1, 1) := by decide +kernel
theorem dX7_sceneMany_10 : decode cX7_sceneMany 10 = .ok (.iaload, 1) := by decide +kernel
theorem dX7_sceneMany_11 : decode cX7_sceneMany 11 = .ok (.if_icmp .ge 25, 3) := by decide +kernel
theorem dX7_sceneMany_14 : decode cX7_sceneMany 14 = .ok (.iload_n 1, 1) := by decide +kernel
theorem dX7_sceneMany_15 : decode cX7_sceneMany 15 = .ok (.aload_n 0, 1) := by decide +kernel
theorem dX7_sceneMany_16 : decode cX7_sceneMany 16 = .ok (.iload_n 2, 1) := by decide +kernel
theorem dX7_sceneMany_17 : decode cX7_sceneMany 17 = .ok (.invokevirtual 76, 3) := by decide +kernel
theorem dX7_sceneMany_20 : decode cX7_sceneMany 20 = .ok (.ifCond .eq 7, 3) := by decide +kernel
theorem dX7_sceneMany_23 : decode cX7_sceneMany 23 = .ok (.iconst 1, 1) := by decide +kernel
theorem dX7_sceneMany_24 : decode cX7_sceneMany 24 = .ok (.goto 4, 3) := by decide +kernel
theorem dX7_sceneMany_27 : decode cX7_sceneMany 27 = .ok (.iconst 0, 1) := by decide +kernel
theorem dX7_sceneMany_28 : decode cX7_sceneMany 28 = .ok (.iadd, 1) := by decide +kernel
theorem dX7_sceneMany_29 : decode cX7_sceneMany 29 = .ok (.istore_n 1, 1) := by decide +kernel
theorem dX7_sceneMany_30 : decode cX7_sceneMany 30 = .ok (.iinc 2 1, 3) := by decide +kernel
theorem dX7_sceneMany_33 : decode cX7_sceneMany 33 = .ok (.goto (-29), 3) := by decide +kernel
theorem dX7_sceneMany_36 : decode cX7_sceneMany 36 = .ok (.iload_n 1, 1) := by decide +kernel
theorem dX7_sceneMany_37 : decode cX7_sceneMany 37 = .ok (.ireturn, 1) := by decide +kernel
set_option maxRecDepth 20000 in
theorem ggX7_headingOf_X7_isHeading : GoodIn wsX7_headingOf wsX7_isHeading := goodIn_r _ [6, 7, 8, 9, 5, 10, 1, 11, 12, 13, 14, 15, 16, 17, 18, 19, 20, 21, 22, 23, 24, 25, 26, 27, 28, 29] (by decide +kernel) (by decide +kernel)
set_option maxRecDepth 20000 in
theorem gX7_headingOf_X7_isHeading : GoodIn wsX7_headingOf (wsV RX7 76 RX7 yX7_isHeading wsX7_isHeading) := goodIn_app (goodIn_of _ (by decide +kernel)) ggX7_headingOf_X7_isHeading
theorem dX7_headingOf_0 : decode cX7_headingOf 0 = .ok (.iload_n 1, 1) := by decide +kernel
theorem dX7_headingOf_1 : decode cX7_headingOf 1 = .ok (.istore_n 2, 1) := by decide +kernel
theorem dX7_headingOf_2 : decode cX7_headingOf 2 = .ok (.iconst 0, 1) := by decide +kernel
theorem dX7_headingOf_3 : decode cX7_headingOf 3 = .ok (.istore_n 3, 1) := by decide +kernel
theorem dX7_headingOf_4 : decode cX7_headingOf 4 = .ok (.iload_n 3, 1) := by decide +kernel
theorem dX7_headingOf_5 : decode cX7_headingOf 5 = .ok (.aload_n 0, 1) := by decide +kernel
theorem dX7_headingOf_6 : decode cX7_headingOf 6 = .ok (.getfield 7, 3) := by decide +kernel
theorem dX7_headingOf_9 : decode cX7_headingOf 9 = .ok (.iconst 1, 1) := by decide +kernel
theorem dX7_headingOf_10 : decode cX7_headingOf 10 = .ok (.iaload, 1) := by decide +kernel
theorem dX7_headingOf_11 : decode cX7_headingOf 11 = .ok (.if_icmp .ge 26, 3) := by decide +kernel
theorem dX7_headingOf_14 : decode cX7_headingOf 14 = .ok (.aload_n 0, 1) := by decide +kernel
theorem dX7_headingOf_15 : decode cX7_headingOf 15 = .ok (.iload_n 3, 1) := by decide +kernel
theorem dX7_headingOf_16 : decode cX7_headingOf 16 = .ok (.invokevirtual 76, 3) := by decide +kernel
theorem dX7_headingOf_19 : decode cX7_headingOf 19 = .ok (.ifCond .eq 12, 3) := by decide +kernel
theorem dX7_headingOf_22 : decode cX7_headingOf 22 = .ok (.iload_n 2, 1) := by decide +kernel
theorem dX7_headingOf_23 : decode cX7_headingOf 23 = .ok (.ifCond .ne 5, 3) := by decide +kernel
theorem dX7_headingOf_26 : decode cX7_headingOf 26 = .ok (.iload_n 3, 1) := by decide +kernel
theorem dX7_headingOf_27 : decode cX7_headingOf 27 = .ok (.ireturn, 1) := by decide +kernel
theorem dX7_headingOf_28 : decode cX7_headingOf 28 = .ok (.iinc 2 (-1), 3) := by decide +kernel
theorem dX7_headingOf_31 : decode cX7_headingOf 31 = .ok (.iinc 3 1, 3) := by decide +kernel
theorem dX7_headingOf_34 : decode cX7_headingOf 34 = .ok (.goto (-30), 3) := by decide +kernel
theorem dX7_headingOf_37 : decode cX7_headingOf 37 = .ok (.aload_n 0, 1) := by decide +kernel
theorem dX7_headingOf_38 : decode cX7_headingOf 38 = .ok (.getfield 7, 3) := by decide +kernel
theorem dX7_headingOf_41 : decode cX7_headingOf 41 = .ok (.iconst 1, 1) := by decide +kernel
theorem dX7_headingOf_42 : decode cX7_headingOf 42 = .ok (.iaload, 1) := by decide +kernel
theorem dX7_headingOf_43 : decode cX7_headingOf 43 = .ok (.ireturn, 1) := by decide +kernel
set_option maxRecDepth 20000 in
theorem ggX7_sceneOf_X7_isHeading : GoodIn wsX7_sceneOf wsX7_isHeading := goodIn_r _ [5, 6, 7, 8, 4, 9, 10, 11, 12, 13, 14, 15, 16, 17, 18, 19, 20, 21, 22, 23, 24, 25, 26, 27, 28, 29] (by decide +kernel) (by decide +kernel)
set_option maxRecDepth 20000 in
theorem gX7_sceneOf_X7_isHeading : GoodIn wsX7_sceneOf (wsV RX7 76 RX7 yX7_isHeading wsX7_isHeading) := goodIn_app (goodIn_of _ (by decide +kernel)) ggX7_sceneOf_X7_isHeading
theorem dX7_sceneOf_0 : decode cX7_sceneOf 0 = .ok (.iconst (-1), 1) := by decide +kernel
theorem dX7_sceneOf_1 : decode cX7_sceneOf 1 = .ok (.istore_n 2, 1) := by decide +kernel
theorem dX7_sceneOf_2 : decode cX7_sceneOf 2 = .ok (.iconst 0, 1) := by decide +kernel
theorem dX7_sceneOf_3 : decode cX7_sceneOf 3 = .ok (.istore_n 3, 1) := by decide +kernel
theorem dX7_sceneOf_4 : decode cX7_sceneOf 4 = .ok (.iload_n 3, 1) := by decide +kernel
theorem dX7_sceneOf_5 : decode cX7_sceneOf 5 = .ok (.iload_n 1, 1) := by decide +kernel
theorem dX7_sceneOf_6 : decode cX7_sceneOf 6 = .ok (.if_icmp .gt 25, 3) := by decide +kernel
theorem dX7_sceneOf_9 : decode cX7_sceneOf 9 = .ok (.iload_n 2, 1) := by decide +kernel
theorem dX7_sceneOf_10 : decode cX7_sceneOf 10 = .ok (.aload_n 0, 1) := by decide +kernel
theorem dX7_sceneOf_11 : decode cX7_sceneOf 11 = .ok (.iload_n 3, 1) := by decide +kernel
theorem dX7_sceneOf_12 : decode cX7_sceneOf 12 = .ok (.invokevirtual 76, 3) := by decide +kernel
theorem dX7_sceneOf_15 : decode cX7_sceneOf 15 = .ok (.ifCond .eq 7, 3) := by decide +kernel
theorem dX7_sceneOf_18 : decode cX7_sceneOf 18 = .ok (.iconst 1, 1) := by decide +kernel
theorem dX7_sceneOf_19 : decode cX7_sceneOf 19 = .ok (.goto 4, 3) := by decide +kernel
theorem dX7_sceneOf_22 : decode cX7_sceneOf 22 = .ok (.iconst 0, 1) := by decide +kernel
theorem dX7_sceneOf_23 : decode cX7_sceneOf 23 = .ok (.iadd, 1) := by decide +kernel
theorem dX7_sceneOf_24 : decode cX7_sceneOf 24 = .ok (.istore_n 2, 1) := by decide +kernel
theorem dX7_sceneOf_25 : decode cX7_sceneOf 25 = .ok (.iinc 3 1, 3) := by decide +kernel
theorem dX7_sceneOf_28 : decode cX7_sceneOf 28 = .ok (.goto (-24), 3) := by decide +kernel
theorem dX7_sceneOf_31 : decode cX7_sceneOf 31 = .ok (.iload_n 2, 1) := by decide +kernel
theorem dX7_sceneOf_32 : decode cX7_sceneOf 32 = .ok (.ireturn, 1) := by decide +kernel
set_option maxRecDepth 20000 in
theorem ggX7_isLocked_X7_isHeading : GoodIn wsX7_isLocked wsX7_isHeading := goodIn_r _ [5, 6, 7, 8, 4, 9, 10, 11, 12, 13, 14, 15, 16, 17, 18, 19, 20, 21, 22, 23, 24, 25, 26, 27, 28, 29] (by decide +kernel) (by decide +kernel)
set_option maxRecDepth 20000 in
theorem gX7_isLocked_X7_isHeading : GoodIn wsX7_isLocked (wsV RX7 76 RX7 yX7_isHeading wsX7_isHeading) := goodIn_app (goodIn_of _ (by decide +kernel)) ggX7_isLocked_X7_isHeading
set_option maxRecDepth 20000 in
theorem ggX7_isLocked_X7_of : GoodIn wsX7_isLocked wsX7_of := goodIn_r _ [9, 10, 11, 12, 13, 14, 15, 16, 17, 18, 19, 20, 21, 22, 23, 24, 25, 26, 27, 28, 29] (by decide +kernel) (by decide +kernel)
set_option maxRecDepth 20000 in
theorem gX7_isLocked_X7_of : GoodIn wsX7_isLocked (wsV RX7 62 RX7 yX7_of wsX7_of) := goodIn_app (goodIn_of _ (by decide +kernel)) ggX7_isLocked_X7_of
theorem dX7_isLocked_0 : decode cX7_isLocked 0 = .ok (.aload_n 0, 1) := by decide +kernel
theorem dX7_isLocked_1 : decode cX7_isLocked 1 = .ok (.iload_n 1, 1) := by decide +kernel
theorem dX7_isLocked_2 : decode cX7_isLocked 2 = .ok (.invokevirtual 76, 3) := by decide +kernel
theorem dX7_isLocked_5 : decode cX7_isLocked 5 = .ok (.ifCond .eq 17, 3) := by decide +kernel
theorem dX7_isLocked_8 : decode cX7_isLocked 8 = .ok (.aload_n 0, 1) := by decide +kernel
theorem dX7_isLocked_9 : decode cX7_isLocked 9 = .ok (.iload_n 1, 1) := by decide +kernel
theorem dX7_isLocked_10 : decode cX7_isLocked 10 = .ok (.iconst 4, 1) := by decide +kernel
theorem dX7_isLocked_11 : decode cX7_isLocked 11 = .ok (.invokevirtual 62, 3) := by decide +kernel
theorem dX7_isLocked_14 : decode cX7_isLocked 14 = .ok (.iconst 1, 1) := by decide +kernel
theorem dX7_isLocked_15 : decode cX7_isLocked 15 = .ok (.if_icmp .ne 7, 3) := by decide +kernel
theorem dX7_isLocked_18 : decode cX7_isLocked 18 = .ok (.iconst 1, 1) := by decide +kernel
theorem dX7_isLocked_19 : decode cX7_isLocked 19 = .ok (.goto 4, 3) := by decide +kernel
theorem dX7_isLocked_22 : decode cX7_isLocked 22 = .ok (.iconst 0, 1) := by decide +kernel
theorem dX7_isLocked_23 : decode cX7_isLocked 23 = .ok (.ireturn, 1) := by decide +kernel
set_option maxRecDepth 20000 in
theorem ggX7_label_X7_isLocked : GoodIn wsX7_label wsX7_isLocked := goodIn_r _ [6, 7, 8, 9, 5, 10, 11, 12, 13, 14, 1, 15, 16, 17, 18, 19, 20, 21, 22, 23, 24, 25, 26, 27, 28, 29, 30, 31, 32, 33] (by decide +kernel) (by decide +kernel)
set_option maxRecDepth 20000 in
theorem gX7_label_X7_isLocked : GoodIn wsX7_label (wsV RX7 88 RX7 yX7_isLocked wsX7_isLocked) := goodIn_app (goodIn_of _ (by decide +kernel)) ggX7_label_X7_isLocked
set_option maxRecDepth 20000 in
theorem ggX7_label_X7_of : GoodIn wsX7_label wsX7_of := goodIn_r _ [14, 1, 15, 16, 17, 18, 19, 20, 21, 22, 23, 24, 25, 26, 27, 28, 29, 30, 31, 32, 33] (by decide +kernel) (by decide +kernel)
set_option maxRecDepth 20000 in
theorem gX7_label_X7_of : GoodIn wsX7_label (wsV RX7 62 RX7 yX7_of wsX7_of) := goodIn_app (goodIn_of _ (by decide +kernel)) ggX7_label_X7_of
set_option maxRecDepth 20000 in
theorem ggX7_label_X7_isHeading : GoodIn wsX7_label wsX7_isHeading := goodIn_r _ [10, 11, 12, 13, 5, 14, 1, 15, 16, 17, 18, 19, 20, 21, 22, 23, 24, 25, 26, 27, 28, 29, 30, 31, 32, 33] (by decide +kernel) (by decide +kernel)
set_option maxRecDepth 20000 in
theorem gX7_label_X7_isHeading : GoodIn wsX7_label (wsV RX7 76 RX7 yX7_isHeading wsX7_isHeading) := goodIn_app (goodIn_of _ (by decide +kernel)) ggX7_label_X7_isHeading
theorem dX7_label_0 : decode cX7_label 0 = .ok (.aload_n 0, 1) := by decide +kernel
theorem dX7_label_1 : decode cX7_label 1 = .ok (.iload_n 1, 1) := by decide +kernel
theorem dX7_label_2 : decode cX7_label 2 = .ok (.invokevirtual 88, 3) := by decide +kernel
theorem dX7_label_5 : decode cX7_label 5 = .ok (.ifCond .eq 12, 3) := by decide +kernel
theorem dX7_label_8 : decode cX7_label 8 = .ok (.aload_n 0, 1) := by decide +kernel
theorem dX7_label_9 : decode cX7_label 9 = .ok (.iload_n 1, 1) := by decide +kernel
theorem dX7_label_10 : decode cX7_label 10 = .ok (.iconst 5, 1) := by decide +kernel
theorem dX7_label_11 : decode cX7_label 11 = .ok (.iload_n 2, 1) := by decide +kernel
theorem dX7_label_12 : decode cX7_label 12 = .ok (.iadd, 1) := by decide +kernel
theorem dX7_label_13 : decode cX7_label 13 = .ok (.invokevirtual 62, 3) := by decide +kernel
theorem dX7_label_16 : decode cX7_label 16 = .ok (.ireturn, 1) := by decide +kernel
theorem dX7_label_17 : decode cX7_label 17 = .ok (.iconst 0, 1) := by decide +kernel
theorem dX7_label_18 : decode cX7_label 18 = .ok (.istore_n 3, 1) := by decide +kernel
theorem dX7_label_19 : decode cX7_label 19 = .ok (.iload_n 1, 1) := by decide +kernel
theorem dX7_label_20 : decode cX7_label 20 = .ok (.istore 4, 2) := by decide +kernel
theorem dX7_label_22 : decode cX7_label 22 = .ok (.iload 4, 2) := by decide +kernel
theorem dX7_label_24 : decode cX7_label 24 = .ok (.ifCond .lt 35, 3) := by decide +kernel
theorem dX7_label_27 : decode cX7_label 27 = .ok (.aload_n 0, 1) := by decide +kernel
theorem dX7_label_28 : decode cX7_label 28 = .ok (.iload 4, 2) := by decide +kernel
theorem dX7_label_30 : decode cX7_label 30 = .ok (.invokevirtual 88, 3) := by decide +kernel
theorem dX7_label_33 : decode cX7_label 33 = .ok (.ifCond .ne 26, 3) := by decide +kernel
theorem dX7_label_36 : decode cX7_label 36 = .ok (.iload_n 3, 1) := by decide +kernel
theorem dX7_label_37 : decode cX7_label 37 = .ok (.aload_n 0, 1) := by decide +kernel
theorem dX7_label_38 : decode cX7_label 38 = .ok (.iload 4, 2) := by decide +kernel
theorem dX7_label_40 : decode cX7_label 40 = .ok (.invokevirtual 76, 3) := by decide +kernel
theorem dX7_label_43 : decode cX7_label 43 = .ok (.ifCond .eq 7, 3) := by decide +kernel
theorem dX7_label_46 : decode cX7_label 46 = .ok (.iconst 1, 1) := by decide +kernel
theorem dX7_label_47 : decode cX7_label 47 = .ok (.goto 4, 3) := by decide +kernel
theorem dX7_label_50 : decode cX7_label 50 = .ok (.iconst 0, 1) := by decide +kernel
theorem dX7_label_51 : decode cX7_label 51 = .ok (.iadd, 1) := by decide +kernel
theorem dX7_label_52 : decode cX7_label 52 = .ok (.istore_n 3, 1) := by decide +kernel
theorem dX7_label_53 : decode cX7_label 53 = .ok (.iinc 4 (-1), 3) := by decide +kernel
theorem dX7_label_56 : decode cX7_label 56 = .ok (.goto (-34), 3) := by decide +kernel
theorem dX7_label_59 : decode cX7_label 59 = .ok (.iload_n 1, 1) := by decide +kernel
theorem dX7_label_60 : decode cX7_label 60 = .ok (.istore 5, 2) := by decide +kernel
theorem dX7_label_62 : decode cX7_label 62 = .ok (.iload 5, 2) := by decide +kernel
theorem dX7_label_64 : decode cX7_label 64 = .ok (.aload_n 0, 1) := by decide +kernel
theorem dX7_label_65 : decode cX7_label 65 = .ok (.getfield 7, 3) := by decide +kernel
theorem dX7_label_68 : decode cX7_label 68 = .ok (.iconst 1, 1) := by decide +kernel
theorem dX7_label_69 : decode cX7_label 69 = .ok (.iaload, 1) := by decide +kernel
theorem dX7_label_70 : decode cX7_label 70 = .ok (.if_icmp .ge 18, 3) := by decide +kernel
theorem dX7_label_73 : decode cX7_label 73 = .ok (.aload_n 0, 1) := by decide +kernel
theorem dX7_label_74 : decode cX7_label 74 = .ok (.iload 5, 2) := by decide +kernel
theorem dX7_label_76 : decode cX7_label 76 = .ok (.invokevirtual 88, 3) := by decide +kernel
theorem dX7_label_79 : decode cX7_label 79 = .ok (.ifCond .ne 9, 3) := by decide +kernel
theorem dX7_label_82 : decode cX7_label 82 = .ok (.iinc 5 1, 3) := by decide +kernel
theorem dX7_label_85 : decode cX7_label 85 = .ok (.goto (-23), 3) := by decide +kernel
theorem dX7_label_88 : decode cX7_label 88 = .ok (.iload 4, 2) := by decide +kernel
theorem dX7_label_90 : decode cX7_label 90 = .ok (.ifCond .lt 7, 3) := by decide +kernel
theorem dX7_label_93 : decode cX7_label 93 = .ok (.iconst 1, 1) := by decide +kernel
theorem dX7_label_94 : decode cX7_label 94 = .ok (.goto 4, 3) := by decide +kernel
theorem dX7_label_97 : decode cX7_label 97 = .ok (.iconst 0, 1) := by decide +kernel
theorem dX7_label_98 : decode cX7_label 98 = .ok (.istore 6, 2) := by decide +kernel
theorem dX7_label_100 : decode cX7_label 100 = .ok (.iload 5, 2) := by decide +kernel
theorem dX7_label_102 : decode cX7_label 102 = .ok (.aload_n 0, 1) := by decide +kernel
theorem dX7_label_103 : decode cX7_label 103 = .ok (.getfield 7, 3) := by decide +kernel
theorem dX7_label_106 : decode cX7_label 106 = .ok (.iconst 1, 1) := by decide +kernel
theorem dX7_label_107 : decode cX7_label 107 = .ok (.iaload, 1) := by decide +kernel
theorem dX7_label_108 : decode cX7_label 108 = .ok (.if_icmp .ne 7, 3) := by decide +kernel
theorem dX7_label_111 : decode cX7_label 111 = .ok (.iconst 1, 1) := by decide +kernel
theorem dX7_label_112 : decode cX7_label 112 = .ok (.goto 4, 3) := by decide +kernel
theorem dX7_label_115 : decode cX7_label 115 = .ok (.iconst 0, 1) := by decide +kernel
theorem dX7_label_116 : decode cX7_label 116 = .ok (.istore 7, 2) := by decide +kernel
theorem dX7_label_118 : decode cX7_label 118 = .ok (.iload 6, 2) := by decide +kernel
theorem dX7_label_120 : decode cX7_label 120 = .ok (.ifCond .ne 18, 3) := by decide +kernel
theorem dX7_label_123 : decode cX7_label 123 = .ok (.iload 7, 2) := by decide +kernel
theorem dX7_label_125 : decode cX7_label 125 = .ok (.ifCond .eq 13, 3) := by decide +kernel
theorem dX7_label_128 : decode cX7_label 128 = .ok (.iload_n 2, 1) := by decide +kernel
theorem dX7_label_129 : decode cX7_label 129 = .ok (.ifCond .ne 7, 3) := by decide +kernel
theorem dX7_label_132 : decode cX7_label 132 = .ok (.iload_n 3, 1) := by decide +kernel
theorem dX7_label_133 : decode cX7_label 133 = .ok (.goto 4, 3) := by decide +kernel
theorem dX7_label_136 : decode cX7_label 136 = .ok (.iconst 0, 1) := by decide +kernel
theorem dX7_label_137 : decode cX7_label 137 = .ok (.ireturn, 1) := by decide +kernel
theorem dX7_label_138 : decode cX7_label 138 = .ok (.iload 6, 2) := by decide +kernel
theorem dX7_label_140 : decode cX7_label 140 = .ok (.ifCond .eq 13, 3) := by decide +kernel
theorem dX7_label_143 : decode cX7_label 143 = .ok (.aload_n 0, 1) := by decide +kernel
theorem dX7_label_144 : decode cX7_label 144 = .ok (.iload 4, 2) := by decide +kernel
theorem dX7_label_146 : decode cX7_label 146 = .ok (.iconst 5, 1) := by decide +kernel
theorem dX7_label_147 : decode cX7_label 147 = .ok (.invokevirtual 62, 3) := by decide +kernel
theorem dX7_label_150 : decode cX7_label 150 = .ok (.goto 4, 3) := by decide +kernel
theorem dX7_label_153 : decode cX7_label 153 = .ok (.iconst 0, 1) := by decide +kernel
theorem dX7_label_154 : decode cX7_label 154 = .ok (.istore 8, 2) := by decide +kernel
theorem dX7_label_156 : decode cX7_label 156 = .ok (.iload 6, 2) := by decide +kernel
theorem dX7_label_158 : decode cX7_label 158 = .ok (.ifCond .eq 15, 3) := by decide +kernel
theorem dX7_label_161 : decode cX7_label 161 = .ok (.aload_n 0, 1) := by decide +kernel
theorem dX7_label_162 : decode cX7_label 162 = .ok (.iload 4, 2) := by decide +kernel
theorem dX7_label_164 : decode cX7_label 164 = .ok (.iconst 5, 1) := by decide +kernel
theorem dX7_label_165 : decode cX7_label 165 = .ok (.iload_n 2, 1) := by decide +kernel
theorem dX7_label_166 : decode cX7_label 166 = .ok (.iadd, 1) := by decide +kernel
theorem dX7_label_167 : decode cX7_label 167 = .ok (.invokevirtual 62, 3) := by decide +kernel
theorem dX7_label_170 : decode cX7_label 170 = .ok (.goto 4, 3) := by decide +kernel
theorem dX7_label_173 : decode cX7_label 173 = .ok (.iconst 0, 1) := by decide +kernel
theorem dX7_label_174 : decode cX7_label 174 = .ok (.istore 9, 2) := by decide +kernel
theorem dX7_label_176 : decode cX7_label 176 = .ok (.iload 7, 2) := by decide +kernel
theorem dX7_label_178 : decode cX7_label 178 = .ok (.ifCond .ne 19, 3) := by decide +kernel
theorem dX7_label_181 : decode cX7_label 181 = .ok (.aload_n 0, 1) := by decide +kernel
theorem dX7_label_182 : decode cX7_label 182 = .ok (.iload 5, 2) := by decide +kernel
theorem dX7_label_184 : decode cX7_label 184 = .ok (.iconst 5, 1) := by decide +kernel
theorem dX7_label_185 : decode cX7_label 185 = .ok (.invokevirtual 62, 3) := by decide +kernel
theorem dX7_label_188 : decode cX7_label 188 = .ok (.iload 8, 2) := by decide +kernel
theorem dX7_label_190 : decode cX7_label 190 = .ok (.if_icmp .ne 7, 3) := by decide +kernel
theorem dX7_label_193 : decode cX7_label 193 = .ok (.iconst 1, 1) := by decide +kernel
theorem dX7_label_194 : decode cX7_label 194 = .ok (.goto 4, 3) := by decide +kernel
theorem dX7_label_197 : decode cX7_label 197 = .ok (.iconst 0, 1) := by decide +kernel
theorem dX7_label_198 : decode cX7_label 198 = .ok (.istore 10, 2) := by decide +kernel
theorem dX7_label_200 : decode cX7_label 200 = .ok (.iload_n 2, 1) := by decide +kernel
theorem dX7_label_201 : decode cX7_label 201 = .ok (.ifCond .ne 6, 3) := by decide +kernel
theorem dX7_label_204 : decode cX7_label 204 = .ok (.iload 8, 2) := by decide +kernel
theorem dX7_label_206 : decode cX7_label 206 = .ok (.ireturn, 1) := by decide +kernel
theorem dX7_label_207 : decode cX7_label 207 = .ok (.iload 10, 2) := by decide +kernel
theorem dX7_label_209 : decode cX7_label 209 = .ok (.ifCond .eq 19, 3) := by decide +kernel
theorem dX7_label_212 : decode cX7_label 212 = .ok (.iload 9, 2) := by decide +kernel
theorem dX7_label_214 : decode cX7_label 214 = .ok (.iload_n 2, 1) := by decide +kernel
theorem dX7_label_215 : decode cX7_label 215 = .ok (.iconst 2, 1) := by decide +kernel
theorem dX7_label_216 : decode cX7_label 216 = .ok (.if_icmp .ne 7, 3) := by decide +kernel
theorem dX7_label_219 : decode cX7_label 219 = .ok (.iload_n 3, 1) := by decide +kernel
theorem dX7_label_220 : decode cX7_label 220 = .ok (.goto 4, 3) := by decide +kernel
theorem dX7_label_223 : decode cX7_label 223 = .ok (.iconst 0, 1) := by decide +kernel
theorem dX7_label_224 : decode cX7_label 224 = .ok (.iadd, 1) := by decide +kernel
theorem dX7_label_225 : decode cX7_label 225 = .ok (.goto 16, 3) := by decide +kernel
theorem dX7_label_228 : decode cX7_label 228 = .ok (.iload_n 2, 1) := by decide +kernel
theorem dX7_label_229 : decode cX7_label 229 = .ok (.iconst 1, 1) := by decide +kernel
theorem dX7_label_230 : decode cX7_label 230 = .ok (.if_icmp .ne 10, 3) := by decide +kernel
theorem dX7_label_233 : decode cX7_label 233 = .ok (.iload 9, 2) := by decide +kernel
theorem dX7_label_235 : decode cX7_label 235 = .ok (.iload_n 3, 1) := by decide +kernel
theorem dX7_label_236 : decode cX7_label 236 = .ok (.iadd, 1) := by decide +kernel
theorem dX7_label_237 : decode cX7_label 237 = .ok (.goto 4, 3) := by decide +kernel
theorem dX7_label_240 : decode cX7_label 240 = .ok (.iconst 0, 1) := by decide +kernel
theorem dX7_label_241 : decode cX7_label 241 = .ok (.ireturn, 1) := by decide +kernel
set_option maxRecDepth 20000 in
theorem ggX7_areTwo_X7_label : GoodIn wsX7_areTwo wsX7_label := goodIn_r _ [5, 6, 7, 8, 9, 4, 10, 11, 12, 13, 14, 15, 16, 17, 18, 19, 20, 21, 22, 23, 24, 25, 26, 27, 28, 29, 30, 31, 32, 33, 34, 35, 36, 37] (by decide +kernel) (by decide +kernel)
set_option maxRecDepth 20000 in
theorem gX7_areTwo_X7_label : GoodIn wsX7_areTwo (wsV RX7 91 RX7 yX7_label wsX7_label) := goodIn_app (goodIn_of _ (by decide +kernel)) ggX7_areTwo_X7_label
theorem dX7_areTwo_0 : decode cX7_areTwo 0 = .ok (.aload_n 0, 1) := by decide +kernel
theorem dX7_areTwo_1 : decode cX7_areTwo 1 = .ok (.iload_n 1, 1) := by decide +kernel
theorem dX7_areTwo_2 : decode cX7_areTwo 2 = .ok (.iconst 0, 1) := by decide +kernel
theorem dX7_areTwo_3 : decode cX7_areTwo 3 = .ok (.invokevirtual 91, 3) := by decide +kernel
theorem dX7_areTwo_6 : decode cX7_areTwo 6 = .ok (.aload_n 0, 1) := by decide +kernel
theorem dX7_areTwo_7 : decode cX7_areTwo 7 = .ok (.iload_n 2, 1) := by decide +kernel
theorem dX7_areTwo_8 : decode cX7_areTwo 8 = .ok (.iconst 0, 1) := by decide +kernel
theorem dX7_areTwo_9 : decode cX7_areTwo 9 = .ok (.invokevirtual 91, 3) := by decide +kernel
theorem dX7_areTwo_12 : decode cX7_areTwo 12 = .ok (.if_icmp .ne 37, 3) := by decide +kernel
theorem dX7_areTwo_15 : decode cX7_areTwo 15 = .ok (.aload_n 0, 1) := by decide +kernel
theorem dX7_areTwo_16 : decode cX7_areTwo 16 = .ok (.iload_n 1, 1) := by decide +kernel
theorem dX7_areTwo_17 : decode cX7_areTwo 17 = .ok (.iconst 1, 1) := by decide +kernel
theorem dX7_areTwo_18 : decode cX7_areTwo 18 = .ok (.invokevirtual 91, 3) := by decide +kernel
theorem dX7_areTwo_21 : decode cX7_areTwo 21 = .ok (.aload_n 0, 1) := by decide +kernel
theorem dX7_areTwo_22 : decode cX7_areTwo 22 = .ok (.iload_n 2, 1) := by decide +kernel
theorem dX7_areTwo_23 : decode cX7_areTwo 23 = .ok (.iconst 1, 1) := by decide +kernel
theorem dX7_areTwo_24 : decode cX7_areTwo 24 = .ok (.invokevirtual 91, 3) := by decide +kernel
theorem dX7_areTwo_27 : decode cX7_areTwo 27 = .ok (.if_icmp .ne 22, 3) := by decide +kernel
theorem dX7_areTwo_30 : decode cX7_areTwo 30 = .ok (.aload_n 0, 1) := by decide +kernel
theorem dX7_areTwo_31 : decode cX7_areTwo 31 = .ok (.iload_n 1, 1) := by decide +kernel
theorem dX7_areTwo_32 : decode cX7_areTwo 32 = .ok (.iconst 2, 1) := by decide +kernel
theorem dX7_areTwo_33 : decode cX7_areTwo 33 = .ok (.invokevirtual 91, 3) := by decide +kernel
theorem dX7_areTwo_36 : decode cX7_areTwo 36 = .ok (.aload_n 0, 1) := by decide +kernel
theorem dX7_areTwo_37 : decode cX7_areTwo 37 = .ok (.iload_n 2, 1) := by decide +kernel
theorem dX7_areTwo_38 : decode cX7_areTwo 38 = .ok (.iconst 2, 1) := by decide +kernel
theorem dX7_areTwo_39 : decode cX7_areTwo 39 = .ok (.invokevirtual 91, 3) := by decide +kernel
theorem dX7_areTwo_42 : decode cX7_areTwo 42 = .ok (.if_icmp .ne 7, 3) := by decide +kernel
theorem dX7_areTwo_45 : decode cX7_areTwo 45 = .ok (.iconst 1, 1) := by decide +kernel
theorem dX7_areTwo_46 : decode cX7_areTwo 46 = .ok (.goto 4, 3) := by decide +kernel
theorem dX7_areTwo_49 : decode cX7_areTwo 49 = .ok (.iconst 0, 1) := by decide +kernel
theorem dX7_areTwo_50 : decode cX7_areTwo 50 = .ok (.ireturn, 1) := by decide +kernel
set_option maxRecDepth 20000 in
theorem ggX7_hasTwo_X7_isHeading : GoodIn wsX7_hasTwo wsX7_isHeading := goodIn_r _ [6, 7, 8, 9, 5, 10, 1, 23, 24, 25, 26, 27, 28, 29, 30, 31, 32, 33, 34, 35, 36, 37, 38, 39, 40, 41] (by decide +kernel) (by decide +kernel)
set_option maxRecDepth 20000 in
theorem gX7_hasTwo_X7_isHeading : GoodIn wsX7_hasTwo (wsV RX7 76 RX7 yX7_isHeading wsX7_isHeading) := goodIn_app (goodIn_of _ (by decide +kernel)) ggX7_hasTwo_X7_isHeading
set_option maxRecDepth 20000 in
theorem ggX7_hasTwo_X7_areTwo : GoodIn wsX7_hasTwo wsX7_areTwo := goodIn_r _ [14, 15, 16, 17, 5, 18, 1, 19, 20, 21, 22, 2, 3, 4, 6, 7, 8, 9, 10, 23, 24, 25, 26, 27, 28, 29, 30, 31, 32, 33, 34, 35, 36, 37, 38, 39, 40, 41] (by decide +kernel) (by decide +kernel)
set_option maxRecDepth 20000 in
theorem gX7_hasTwo_X7_areTwo : GoodIn wsX7_hasTwo (wsV RX7 94 RX7 yX7_areTwo wsX7_areTwo) := goodIn_app (goodIn_of _ (by decide +kernel)) ggX7_hasTwo_X7_areTwo
theorem dX7_hasTwo_0 : decode cX7_hasTwo 0 = .ok (.iconst 0, 1) := by decide +kernel
theorem dX7_hasTwo_1 : decode cX7_hasTwo 1 = .ok (.istore_n 1, 1) := by decide +kernel
theorem dX7_hasTwo_2 : decode cX7_hasTwo 2 = .ok (.iconst 0, 1) := by decide +kernel
theorem dX7_hasTwo_3 : decode cX7_hasTwo 3 = .ok (.istore_n 2, 1) := by decide +kernel
theorem dX7_hasTwo_4 : decode cX7_hasTwo 4 = .ok (.iload_n 2, 1) := by decide +kernel
theorem dX7_hasTwo_5 : decode cX7_hasTwo 5 = .ok (.aload_n 0, 1) := by decide +kernel
theorem dX7_hasTwo_6 : decode cX7_hasTwo 6 = .ok (.getfield 7, 3) := by decide +kernel
theorem dX7_hasTwo_9 : decode cX7_hasTwo 9 = .ok (.iconst 1, 1) := by decide +kernel
theorem dX7_hasTwo_10 : decode cX7_hasTwo 10 = .ok (.iaload, 1) := by decide +kernel
theorem dX7_hasTwo_11 : decode cX7_hasTwo 11 = .ok (.if_icmp .ge 57, 3) := by decide +kernel
theorem dX7_hasTwo_14 : decode cX7_hasTwo 14 = .ok (.iconst 0, 1) := by decide +kernel
theorem dX7_hasTwo_15 : decode cX7_hasTwo 15 = .ok (.istore_n 3, 1) := by decide +kernel
theorem dX7_hasTwo_16 : decode cX7_hasTwo 16 = .ok (.iload_n 3, 1) := by decide +kernel
theorem dX7_hasTwo_17 : decode cX7_hasTwo 17 = .ok (.iload_n 2, 1) := by decide +kernel
theorem dX7_hasTwo_18 : decode cX7_hasTwo 18 = .ok (.if_icmp .ge 44, 3) := by decide +kernel
theorem dX7_hasTwo_21 : decode cX7_hasTwo 21 = .ok (.iload_n 1, 1) := by decide +kernel
theorem dX7_hasTwo_22 : decode cX7_hasTwo 22 = .ok (.ifCond .ne 28, 3) := by decide +kernel
theorem dX7_hasTwo_25 : decode cX7_hasTwo 25 = .ok (.aload_n 0, 1) := by decide +kernel
theorem dX7_hasTwo_26 : decode cX7_hasTwo 26 = .ok (.iload_n 2, 1) := by decide +kernel
theorem dX7_hasTwo_27 : decode cX7_hasTwo 27 = .ok (.invokevirtual 76, 3) := by decide +kernel
theorem dX7_hasTwo_30 : decode cX7_hasTwo 30 = .ok (.ifCond .eq 24, 3) := by decide +kernel
theorem dX7_hasTwo_33 : decode cX7_hasTwo 33 = .ok (.aload_n 0, 1) := by decide +kernel
theorem dX7_hasTwo_34 : decode cX7_hasTwo 34 = .ok (.iload_n 3, 1) := by decide +kernel
theorem dX7_hasTwo_35 : decode cX7_hasTwo 35 = .ok (.invokevirtual 76, 3) := by decide +kernel
theorem dX7_hasTwo_38 : decode cX7_hasTwo 38 = .ok (.ifCond .eq 16, 3) := by decide +kernel
theorem dX7_hasTwo_41 : decode cX7_hasTwo 41 = .ok (.aload_n 0, 1) := by decide +kernel
theorem dX7_hasTwo_42 : decode cX7_hasTwo 42 = .ok (.iload_n 3, 1) := by decide +kernel
theorem dX7_hasTwo_43 : decode cX7_hasTwo 43 = .ok (.iload_n 2, 1) := by decide +kernel
theorem dX7_hasTwo_44 : decode cX7_hasTwo 44 = .ok (.invokevirtual 94, 3) := by decide +kernel
theorem dX7_hasTwo_47 : decode cX7_hasTwo 47 = .ok (.ifCond .eq 7, 3) := by decide +kernel
theorem dX7_hasTwo_50 : decode cX7_hasTwo 50 = .ok (.iconst 1, 1) := by decide +kernel
theorem dX7_hasTwo_51 : decode cX7_hasTwo 51 = .ok (.goto 4, 3) := by decide +kernel
theorem dX7_hasTwo_54 : decode cX7_hasTwo 54 = .ok (.iconst 0, 1) := by decide +kernel
theorem dX7_hasTwo_55 : decode cX7_hasTwo 55 = .ok (.istore_n 1, 1) := by decide +kernel
theorem dX7_hasTwo_56 : decode cX7_hasTwo 56 = .ok (.iinc 3 1, 3) := by decide +kernel
theorem dX7_hasTwo_59 : decode cX7_hasTwo 59 = .ok (.goto (-43), 3) := by decide +kernel
theorem dX7_hasTwo_62 : decode cX7_hasTwo 62 = .ok (.iinc 2 1, 3) := by decide +kernel
theorem dX7_hasTwo_65 : decode cX7_hasTwo 65 = .ok (.goto (-61), 3) := by decide +kernel
theorem dX7_hasTwo_68 : decode cX7_hasTwo 68 = .ok (.iload_n 1, 1) := by decide +kernel
theorem dX7_hasTwo_69 : decode cX7_hasTwo 69 = .ok (.ireturn, 1) := by decide +kernel
set_option maxRecDepth 20000 in
theorem ggX7_isCarried_X7_of : GoodIn wsX7_isCarried wsX7_of := goodIn_r _ [5, 6, 15, 16, 17, 18, 19, 20, 21, 22, 23, 24, 25, 26, 27, 28, 29, 30, 31, 32, 33] (by decide +kernel) (by decide +kernel)
set_option maxRecDepth 20000 in
theorem gX7_isCarried_X7_of : GoodIn wsX7_isCarried (wsV RX7 62 RX7 yX7_of wsX7_of) := goodIn_app (goodIn_of _ (by decide +kernel)) ggX7_isCarried_X7_of
set_option maxRecDepth 20000 in
theorem ggX7_isCarried_X7_sceneOf : GoodIn wsX7_isCarried wsX7_sceneOf := goodIn_r _ [10, 11, 12, 13, 4, 14, 1, 2, 3, 5, 6, 15, 16, 17, 18, 19, 20, 21, 22, 23, 24, 25, 26, 27, 28, 29, 30, 31, 32, 33] (by decide +kernel) (by decide +kernel)
set_option maxRecDepth 20000 in
theorem gX7_isCarried_X7_sceneOf : GoodIn wsX7_isCarried (wsV RX7 98 RX7 yX7_sceneOf wsX7_sceneOf) := goodIn_app (goodIn_of _ (by decide +kernel)) ggX7_isCarried_X7_sceneOf
set_option maxRecDepth 20000 in
theorem ggX7_isCarried_X7_isHeading : GoodIn wsX7_isCarried wsX7_isHeading := goodIn_r _ [14, 1, 2, 3, 4, 5, 6, 15, 16, 17, 18, 19, 20, 21, 22, 23, 24, 25, 26, 27, 28, 29, 30, 31, 32, 33] (by decide +kernel) (by decide +kernel)
set_option maxRecDepth 20000 in
theorem gX7_isCarried_X7_isHeading : GoodIn wsX7_isCarried (wsV RX7 76 RX7 yX7_isHeading wsX7_isHeading) := goodIn_app (goodIn_of _ (by decide +kernel)) ggX7_isCarried_X7_isHeading
theorem dX7_isCarried_0 : decode cX7_isCarried 0 = .ok (.aload_n 0, 1) := by decide +kernel
theorem dX7_isCarried_1 : decode cX7_isCarried 1 = .ok (.iload_n 1, 1) := by decide +kernel
theorem dX7_isCarried_2 : decode cX7_isCarried 2 = .ok (.iconst 0, 1) := by decide +kernel
theorem dX7_isCarried_3 : decode cX7_isCarried 3 = .ok (.invokevirtual 62, 3) := by decide +kernel
theorem dX7_isCarried_6 : decode cX7_isCarried 6 = .ok (.iconst 2, 1) := by decide +kernel
theorem dX7_isCarried_7 : decode cX7_isCarried 7 = .ok (.if_icmp .ne 12, 3) := by decide +kernel
theorem dX7_isCarried_10 : decode cX7_isCarried 10 = .ok (.aload_n 0, 1) := by decide +kernel
theorem dX7_isCarried_11 : decode cX7_isCarried 11 = .ok (.iload_n 1, 1) := by decide +kernel
theorem dX7_isCarried_12 : decode cX7_isCarried 12 = .ok (.invokevirtual 98, 3) := by decide +kernel
theorem dX7_isCarried_15 : decode cX7_isCarried 15 = .ok (.iconst (-1), 1) := by decide +kernel
theorem dX7_isCarried_16 : decode cX7_isCarried 16 = .ok (.if_icmp .ne 5, 3) := by decide +kernel
theorem dX7_isCarried_19 : decode cX7_isCarried 19 = .ok (.iconst 0, 1) := by decide +kernel
theorem dX7_isCarried_20 : decode cX7_isCarried 20 = .ok (.ireturn, 1) := by decide +kernel
theorem dX7_isCarried_21 : decode cX7_isCarried 21 = .ok (.iload_n 1, 1) := by decide +kernel
theorem dX7_isCarried_22 : decode cX7_isCarried 22 = .ok (.iconst 1, 1) := by decide +kernel
theorem dX7_isCarried_23 : decode cX7_isCarried 23 = .ok (.isub, 1) := by decide +kernel
theorem dX7_isCarried_24 : decode cX7_isCarried 24 = .ok (.istore_n 2, 1) := by decide +kernel
theorem dX7_isCarried_25 : decode cX7_isCarried 25 = .ok (.aload_n 0, 1) := by decide +kernel
theorem dX7_isCarried_26 : decode cX7_isCarried 26 = .ok (.iload_n 2, 1) := by decide +kernel
theorem dX7_isCarried_27 : decode cX7_isCarried 27 = .ok (.invokevirtual 76, 3) := by decide +kernel
theorem dX7_isCarried_30 : decode cX7_isCarried 30 = .ok (.ifCond .ne 19, 3) := by decide +kernel
theorem dX7_isCarried_33 : decode cX7_isCarried 33 = .ok (.aload_n 0, 1) := by decide +kernel
theorem dX7_isCarried_34 : decode cX7_isCarried 34 = .ok (.iload_n 2, 1) := by decide +kernel
theorem dX7_isCarried_35 : decode cX7_isCarried 35 = .ok (.iconst 0, 1) := by decide +kernel
theorem dX7_isCarried_36 : decode cX7_isCarried 36 = .ok (.invokevirtual 62, 3) := by decide +kernel
theorem dX7_isCarried_39 : decode cX7_isCarried 39 = .ok (.iconst 2, 1) := by decide +kernel
theorem dX7_isCarried_40 : decode cX7_isCarried 40 = .ok (.if_icmp .eq 9, 3) := by decide +kernel
theorem dX7_isCarried_43 : decode cX7_isCarried 43 = .ok (.iinc 2 (-1), 3) := by decide +kernel
theorem dX7_isCarried_46 : decode cX7_isCarried 46 = .ok (.goto (-21), 3) := by decide +kernel
theorem dX7_isCarried_49 : decode cX7_isCarried 49 = .ok (.aload_n 0, 1) := by decide +kernel
theorem dX7_isCarried_50 : decode cX7_isCarried 50 = .ok (.iload_n 2, 1) := by decide +kernel
theorem dX7_isCarried_51 : decode cX7_isCarried 51 = .ok (.invokevirtual 76, 3) := by decide +kernel
theorem dX7_isCarried_54 : decode cX7_isCarried 54 = .ok (.ifCond .ne 22, 3) := by decide +kernel
theorem dX7_isCarried_57 : decode cX7_isCarried 57 = .ok (.aload_n 0, 1) := by decide +kernel
theorem dX7_isCarried_58 : decode cX7_isCarried 58 = .ok (.iload_n 2, 1) := by decide +kernel
theorem dX7_isCarried_59 : decode cX7_isCarried 59 = .ok (.iconst 2, 1) := by decide +kernel
theorem dX7_isCarried_60 : decode cX7_isCarried 60 = .ok (.invokevirtual 62, 3) := by decide +kernel
theorem dX7_isCarried_63 : decode cX7_isCarried 63 = .ok (.aload_n 0, 1) := by decide +kernel
theorem dX7_isCarried_64 : decode cX7_isCarried 64 = .ok (.iload_n 1, 1) := by decide +kernel
theorem dX7_isCarried_65 : decode cX7_isCarried 65 = .ok (.iconst 2, 1) := by decide +kernel
theorem dX7_isCarried_66 : decode cX7_isCarried 66 = .ok (.invokevirtual 62, 3) := by decide +kernel
theorem dX7_isCarried_69 : decode cX7_isCarried 69 = .ok (.if_icmp .ne 7, 3) := by decide +kernel
theorem dX7_isCarried_72 : decode cX7_isCarried 72 = .ok (.iconst 1, 1) := by decide +kernel
theorem dX7_isCarried_73 : decode cX7_isCarried 73 = .ok (.goto 4, 3) := by decide +kernel
theorem dX7_isCarried_76 : decode cX7_isCarried 76 = .ok (.iconst 0, 1) := by decide +kernel
theorem dX7_isCarried_77 : decode cX7_isCarried 77 = .ok (.ireturn, 1) := by decide +kernel
theorem dX7_newPage_0 : decode cX7_newPage 0 = .ok (.aload_n 0, 1) := by decide +kernel
theorem dX7_newPage_1 : decode cX7_newPage 1 = .ok (.getfield 31, 3) := by decide +kernel
theorem dX7_newPage_4 : decode cX7_newPage 4 = .ok (.aload_n 0, 1) := by decide +kernel
theorem dX7_newPage_5 : decode cX7_newPage 5 = .ok (.getfield 101, 3) := by decide +kernel
theorem dX7_newPage_8 : decode cX7_newPage 8 = .ok (.iconst 0, 1) := by decide +kernel
theorem dX7_newPage_9 : decode cX7_newPage 9 = .ok (.iastore, 1) := by decide +kernel
theorem dX7_newPage_10 : decode cX7_newPage 10 = .ok (.aload_n 0, 1) := by decide +kernel
theorem dX7_newPage_11 : decode cX7_newPage 11 = .ok (.getfield 34, 3) := by decide +kernel
theorem dX7_newPage_14 : decode cX7_newPage 14 = .ok (.aload_n 0, 1) := by decide +kernel
theorem dX7_newPage_15 : decode cX7_newPage 15 = .ok (.getfield 101, 3) := by decide +kernel
theorem dX7_newPage_18 : decode cX7_newPage 18 = .ok (.iconst (-1), 1) := by decide +kernel
theorem dX7_newPage_19 : decode cX7_newPage 19 = .ok (.iastore, 1) := by decide +kernel
theorem dX7_newPage_20 : decode cX7_newPage 20 = .ok (.aload_n 0, 1) := by decide +kernel
theorem dX7_newPage_21 : decode cX7_newPage 21 = .ok (.getfield 37, 3) := by decide +kernel
theorem dX7_newPage_24 : decode cX7_newPage 24 = .ok (.aload_n 0, 1) := by decide +kernel
theorem dX7_newPage_25 : decode cX7_newPage 25 = .ok (.getfield 101, 3) := by decide +kernel
theorem dX7_newPage_28 : decode cX7_newPage 28 = .ok (.iconst 0, 1) := by decide +kernel
theorem dX7_newPage_29 : decode cX7_newPage 29 = .ok (.iastore, 1) := by decide +kernel
theorem dX7_newPage_30 : decode cX7_newPage 30 = .ok (.aload_n 0, 1) := by decide +kernel
theorem dX7_newPage_31 : decode cX7_newPage 31 = .ok (.dup, 1) := by decide +kernel
theorem dX7_newPage_32 : decode cX7_newPage 32 = .ok (.getfield 101, 3) := by decide +kernel
theorem dX7_newPage_35 : decode cX7_newPage 35 = .ok (.iconst 1, 1) := by decide +kernel
theorem dX7_newPage_36 : decode cX7_newPage 36 = .ok (.iadd, 1) := by decide +kernel
theorem dX7_newPage_37 : decode cX7_newPage 37 = .ok (.putfield 101, 3) := by decide +kernel
theorem dX7_newPage_40 : decode cX7_newPage 40 = .ok (.return_, 1) := by decide +kernel
set_option maxRecDepth 20000 in
theorem ggX7_sets_X7_of : GoodIn wsX7_sets wsX7_of := goodIn_r _ [13, 14, 50, 51, 52, 53, 54, 55, 56, 57, 58, 59, 60, 61, 62, 63, 64, 65, 66, 67, 68] (by decide +kernel) (by decide +kernel)
set_option maxRecDepth 20000 in
theorem gX7_sets_X7_of : GoodIn wsX7_sets (wsV RX7 62 RX7 yX7_of wsX7_of) := goodIn_app (goodIn_of _ (by decide +kernel)) ggX7_sets_X7_of
set_option maxRecDepth 20000 in
theorem ggX7_sets_X7_blanks : GoodIn wsX7_sets wsX7_blanks := goodIn_r _ [18, 9, 10, 11, 12, 13, 14, 50, 51, 52, 53, 54, 55, 56, 57, 58, 59, 60, 61, 62, 63, 64, 65, 66, 67, 68] (by decide +kernel) (by decide +kernel)
set_option maxRecDepth 20000 in
theorem gX7_sets_X7_blanks : GoodIn wsX7_sets (wsV RX7 82 RX7 yX7_blanks wsX7_blanks) := goodIn_app (goodIn_of _ (by decide +kernel)) ggX7_sets_X7_blanks
set_option maxRecDepth 20000 in
theorem ggX7_sets_X7_need : GoodIn wsX7_sets wsX7_need := goodIn_r _ [22, 23, 24, 25, 12, 26, 14, 27, 28, 29, 30, 9, 10, 11, 13, 31, 32, 33, 34, 35, 36, 37, 38, 39, 40, 41, 15, 16, 17, 18, 42, 43, 44, 45, 50, 51, 52, 53, 54, 55, 56, 57, 58, 59, 60, 61, 62, 63, 64, 65, 66, 67, 68] (by decide +kernel) (by decide +kernel)
set_option maxRecDepth 20000 in
theorem gX7_sets_X7_need : GoodIn wsX7_sets (wsV RX7 104 RX7 yX7_need wsX7_need) := goodIn_app (goodIn_of _ (by decide +kernel)) ggX7_sets_X7_need
set_option maxRecDepth 20000 in
theorem ggX7_sets_X7_newPage : GoodIn wsX7_sets wsX7_newPage := goodIn_r _ [49, 2, 1, 6, 7, 50, 51, 52, 53, 54, 55, 56, 57, 58, 59, 60, 61, 62, 63, 64, 65, 66, 67, 68] (by decide +kernel) (by decide +kernel)
set_option maxRecDepth 20000 in
theorem gX7_sets_X7_newPage : GoodIn wsX7_sets (wsV RX7 107 RX7 yX7_newPage wsX7_newPage) := goodIn_app (goodIn_of _ (by decide +kernel)) ggX7_sets_X7_newPage
set_option maxRecDepth 20000 in
theorem ggX7_sets_X7_lines : GoodIn wsX7_sets wsX7_lines := goodIn_r _ [38, 9, 10, 11, 12, 13, 14, 39, 40, 41, 50, 51, 52, 53, 54, 55, 56, 57, 58, 59, 60, 61, 62, 63, 64, 65, 66, 67, 68] (by decide +kernel) (by decide +kernel)
set_option maxRecDepth 20000 in
theorem gX7_sets_X7_lines : GoodIn wsX7_sets (wsV RX7 69 RX7 yX7_lines wsX7_lines) := goodIn_app (goodIn_of _ (by decide +kernel)) ggX7_sets_X7_lines
theorem dX7_sets_0 : decode cX7_sets 0 = .ok (.aload_n 0, 1) := by decide +kernel
theorem dX7_sets_1 : decode cX7_sets 1 = .ok (.getfield 101, 3) := by decide +kernel
theorem dX7_sets_4 : decode cX7_sets 4 = .ok (.iconst 1, 1) := by decide +kernel
theorem dX7_sets_5 : decode cX7_sets 5 = .ok (.isub, 1) := by decide +kernel
theorem dX7_sets_6 : decode cX7_sets 6 = .ok (.istore_n 3, 1) := by decide +kernel
theorem dX7_sets_7 : decode cX7_sets 7 = .ok (.aload_n 0, 1) := by decide +kernel
theorem dX7_sets_8 : decode cX7_sets 8 = .ok (.iload_n 1, 1) := by decide +kernel
theorem dX7_sets_9 : decode cX7_sets 9 = .ok (.bipush 8, 2) := by decide +kernel
theorem dX7_sets_11 : decode cX7_sets 11 = .ok (.invokevirtual 62, 3) := by decide +kernel
theorem dX7_sets_14 : decode cX7_sets 14 = .ok (.iconst (-1), 1) := by decide +kernel
theorem dX7_sets_15 : decode cX7_sets 15 = .ok (.if_icmp .eq 16, 3) := by decide +kernel
theorem dX7_sets_18 : decode cX7_sets 18 = .ok (.aload_n 0, 1) := by decide +kernel
theorem dX7_sets_19 : decode cX7_sets 19 = .ok (.getfield 31, 3) := by decide +kernel
theorem dX7_sets_22 : decode cX7_sets 22 = .ok (.iload_n 3, 1) := by decide +kernel
theorem dX7_sets_23 : decode cX7_sets 23 = .ok (.iaload, 1) := by decide +kernel
theorem dX7_sets_24 : decode cX7_sets 24 = .ok (.ifCond .le 7, 3) := by decide +kernel
theorem dX7_sets_27 : decode cX7_sets 27 = .ok (.iconst 1, 1) := by decide +kernel
theorem dX7_sets_28 : decode cX7_sets 28 = .ok (.goto 4, 3) := by decide +kernel
theorem dX7_sets_31 : decode cX7_sets 31 = .ok (.iconst 0, 1) := by decide +kernel
theorem dX7_sets_32 : decode cX7_sets 32 = .ok (.istore 4, 2) := by decide +kernel
theorem dX7_sets_34 : decode cX7_sets 34 = .ok (.aload_n 0, 1) := by decide +kernel
theorem dX7_sets_35 : decode cX7_sets 35 = .ok (.getfield 31, 3) := by decide +kernel
theorem dX7_sets_38 : decode cX7_sets 38 = .ok (.iload_n 3, 1) := by decide +kernel
theorem dX7_sets_39 : decode cX7_sets 39 = .ok (.iaload, 1) := by decide +kernel
theorem dX7_sets_40 : decode cX7_sets 40 = .ok (.ifCond .le 29, 3) := by decide +kernel
theorem dX7_sets_43 : decode cX7_sets 43 = .ok (.aload_n 0, 1) := by decide +kernel
theorem dX7_sets_44 : decode cX7_sets 44 = .ok (.iload_n 1, 1) := by decide +kernel
theorem dX7_sets_45 : decode cX7_sets 45 = .ok (.invokevirtual 82, 3) := by decide +kernel
theorem dX7_sets_48 : decode cX7_sets 48 = .ok (.aload_n 0, 1) := by decide +kernel
theorem dX7_sets_49 : decode cX7_sets 49 = .ok (.iload_n 1, 1) := by decide +kernel
theorem dX7_sets_50 : decode cX7_sets 50 = .ok (.invokevirtual 104, 3) := by decide +kernel
theorem dX7_sets_53 : decode cX7_sets 53 = .ok (.iadd, 1) := by decide +kernel
theorem dX7_sets_54 : decode cX7_sets 54 = .ok (.iload_n 2, 1) := by decide +kernel
theorem dX7_sets_55 : decode cX7_sets 55 = .ok (.aload_n 0, 1) := by decide +kernel
theorem dX7_sets_56 : decode cX7_sets 56 = .ok (.getfield 31, 3) := by decide +kernel
theorem dX7_sets_59 : decode cX7_sets 59 = .ok (.iload_n 3, 1) := by decide +kernel
theorem dX7_sets_60 : decode cX7_sets 60 = .ok (.iaload, 1) := by decide +kernel
theorem dX7_sets_61 : decode cX7_sets 61 = .ok (.isub, 1) := by decide +kernel
theorem dX7_sets_62 : decode cX7_sets 62 = .ok (.if_icmp .le 7, 3) := by decide +kernel
theorem dX7_sets_65 : decode cX7_sets 65 = .ok (.iconst 1, 1) := by decide +kernel
theorem dX7_sets_66 : decode cX7_sets 66 = .ok (.goto 4, 3) := by decide +kernel
theorem dX7_sets_69 : decode cX7_sets 69 = .ok (.iconst 0, 1) := by decide +kernel
theorem dX7_sets_70 : decode cX7_sets 70 = .ok (.istore 5, 2) := by decide +kernel
theorem dX7_sets_72 : decode cX7_sets 72 = .ok (.iload 4, 2) := by decide +kernel
theorem dX7_sets_74 : decode cX7_sets 74 = .ok (.ifCond .ne 8, 3) := by decide +kernel
theorem dX7_sets_77 : decode cX7_sets 77 = .ok (.iload 5, 2) := by decide +kernel
theorem dX7_sets_79 : decode cX7_sets 79 = .ok (.ifCond .eq 10, 3) := by decide +kernel
theorem dX7_sets_82 : decode cX7_sets 82 = .ok (.aload_n 0, 1) := by decide +kernel
theorem dX7_sets_83 : decode cX7_sets 83 = .ok (.invokevirtual 107, 3) := by decide +kernel
theorem dX7_sets_86 : decode cX7_sets 86 = .ok (.iinc 3 1, 3) := by decide +kernel
theorem dX7_sets_89 : decode cX7_sets 89 = .ok (.aload_n 0, 1) := by decide +kernel
theorem dX7_sets_90 : decode cX7_sets 90 = .ok (.iload_n 1, 1) := by decide +kernel
theorem dX7_sets_91 : decode cX7_sets 91 = .ok (.invokevirtual 69, 3) := by decide +kernel
theorem dX7_sets_94 : decode cX7_sets 94 = .ok (.istore 6, 2) := by decide +kernel
theorem dX7_sets_96 : decode cX7_sets 96 = .ok (.aload_n 0, 1) := by decide +kernel
theorem dX7_sets_97 : decode cX7_sets 97 = .ok (.getfield 31, 3) := by decide +kernel
theorem dX7_sets_100 : decode cX7_sets 100 = .ok (.iload_n 3, 1) := by decide +kernel
theorem dX7_sets_101 : decode cX7_sets 101 = .ok (.iaload, 1) := by decide +kernel
theorem dX7_sets_102 : decode cX7_sets 102 = .ok (.ifCond .ne 7, 3) := by decide +kernel
theorem dX7_sets_105 : decode cX7_sets 105 = .ok (.iconst 0, 1) := by decide +kernel
theorem dX7_sets_106 : decode cX7_sets 106 = .ok (.goto 15, 3) := by decide +kernel
theorem dX7_sets_109 : decode cX7_sets 109 = .ok (.aload_n 0, 1) := by decide +kernel
theorem dX7_sets_110 : decode cX7_sets 110 = .ok (.getfield 31, 3) := by decide +kernel
theorem dX7_sets_113 : decode cX7_sets 113 = .ok (.iload_n 3, 1) := by decide +kernel
theorem dX7_sets_114 : decode cX7_sets 114 = .ok (.iaload, 1) := by decide +kernel
theorem dX7_sets_115 : decode cX7_sets 115 = .ok (.aload_n 0, 1) := by decide +kernel
theorem dX7_sets_116 : decode cX7_sets 116 = .ok (.iload_n 1, 1) := by decide +kernel
theorem dX7_sets_117 : decode cX7_sets 117 = .ok (.invokevirtual 82, 3) := by decide +kernel
theorem dX7_sets_120 : decode cX7_sets 120 = .ok (.iadd, 1) := by decide +kernel
theorem dX7_sets_121 : decode cX7_sets 121 = .ok (.istore 7, 2) := by decide +kernel
theorem dX7_sets_123 : decode cX7_sets 123 = .ok (.iload_n 2, 1) := by decide +kernel
theorem dX7_sets_124 : decode cX7_sets 124 = .ok (.iload 7, 2) := by decide +kernel
theorem dX7_sets_126 : decode cX7_sets 126 = .ok (.isub, 1) := by decide +kernel
theorem dX7_sets_127 : decode cX7_sets 127 = .ok (.istore 8, 2) := by decide +kernel
theorem dX7_sets_129 : decode cX7_sets 129 = .ok (.aload_n 0, 1) := by decide +kernel
theorem dX7_sets_130 : decode cX7_sets 130 = .ok (.iload_n 1, 1) := by decide +kernel
theorem dX7_sets_131 : decode cX7_sets 131 = .ok (.iconst 0, 1) := by decide +kernel
theorem dX7_sets_132 : decode cX7_sets 132 = .ok (.invokevirtual 62, 3) := by decide +kernel
theorem dX7_sets_135 : decode cX7_sets 135 = .ok (.iconst 3, 1) := by decide +kernel
theorem dX7_sets_136 : decode cX7_sets 136 = .ok (.if_icmp .ne 7, 3) := by decide +kernel
theorem dX7_sets_139 : decode cX7_sets 139 = .ok (.iconst 1, 1) := by decide +kernel
theorem dX7_sets_140 : decode cX7_sets 140 = .ok (.goto 4, 3) := by decide +kernel
theorem dX7_sets_143 : decode cX7_sets 143 = .ok (.iconst 0, 1) := by decide +kernel
theorem dX7_sets_144 : decode cX7_sets 144 = .ok (.istore 9, 2) := by decide +kernel
theorem dX7_sets_146 : decode cX7_sets 146 = .ok (.iload 6, 2) := by decide +kernel
theorem dX7_sets_148 : decode cX7_sets 148 = .ok (.iload 8, 2) := by decide +kernel
theorem dX7_sets_150 : decode cX7_sets 150 = .ok (.if_icmp .gt 8, 3) := by decide +kernel
theorem dX7_sets_153 : decode cX7_sets 153 = .ok (.iload 6, 2) := by decide +kernel
theorem dX7_sets_155 : decode cX7_sets 155 = .ok (.goto 27, 3) := by decide +kernel
theorem dX7_sets_158 : decode cX7_sets 158 = .ok (.iload 8, 2) := by decide +kernel
theorem dX7_sets_160 : decode cX7_sets 160 = .ok (.iload 9, 2) := by decide +kernel
theorem dX7_sets_162 : decode cX7_sets 162 = .ok (.isub, 1) := by decide +kernel
theorem dX7_sets_163 : decode cX7_sets 163 = .ok (.iload 6, 2) := by decide +kernel
theorem dX7_sets_165 : decode cX7_sets 165 = .ok (.iconst 2, 1) := by decide +kernel
theorem dX7_sets_166 : decode cX7_sets 166 = .ok (.isub, 1) := by decide +kernel
theorem dX7_sets_167 : decode cX7_sets 167 = .ok (.if_icmp .ge 11, 3) := by decide +kernel
theorem dX7_sets_170 : decode cX7_sets 170 = .ok (.iload 8, 2) := by decide +kernel
theorem dX7_sets_172 : decode cX7_sets 172 = .ok (.iload 9, 2) := by decide +kernel
theorem dX7_sets_174 : decode cX7_sets 174 = .ok (.isub, 1) := by decide +kernel
theorem dX7_sets_175 : decode cX7_sets 175 = .ok (.goto 7, 3) := by decide +kernel
theorem dX7_sets_178 : decode cX7_sets 178 = .ok (.iload 6, 2) := by decide +kernel
theorem dX7_sets_180 : decode cX7_sets 180 = .ok (.iconst 2, 1) := by decide +kernel
theorem dX7_sets_181 : decode cX7_sets 181 = .ok (.isub, 1) := by decide +kernel
theorem dX7_sets_182 : decode cX7_sets 182 = .ok (.istore 10, 2) := by decide +kernel
theorem dX7_sets_184 : decode cX7_sets 184 = .ok (.aload_n 0, 1) := by decide +kernel
theorem dX7_sets_185 : decode cX7_sets 185 = .ok (.getfield 22, 3) := by decide +kernel
theorem dX7_sets_188 : decode cX7_sets 188 = .ok (.iload_n 1, 1) := by decide +kernel
theorem dX7_sets_189 : decode cX7_sets 189 = .ok (.iload_n 3, 1) := by decide +kernel
theorem dX7_sets_190 : decode cX7_sets 190 = .ok (.iastore, 1) := by decide +kernel
theorem dX7_sets_191 : decode cX7_sets 191 = .ok (.aload_n 0, 1) := by decide +kernel
theorem dX7_sets_192 : decode cX7_sets 192 = .ok (.getfield 25, 3) := by decide +kernel
theorem dX7_sets_195 : decode cX7_sets 195 = .ok (.iload_n 1, 1) := by decide +kernel
theorem dX7_sets_196 : decode cX7_sets 196 = .ok (.iload 7, 2) := by decide +kernel
theorem dX7_sets_198 : decode cX7_sets 198 = .ok (.iastore, 1) := by decide +kernel
theorem dX7_sets_199 : decode cX7_sets 199 = .ok (.aload_n 0, 1) := by decide +kernel
theorem dX7_sets_200 : decode cX7_sets 200 = .ok (.getfield 28, 3) := by decide +kernel
theorem dX7_sets_203 : decode cX7_sets 203 = .ok (.iload_n 1, 1) := by decide +kernel
theorem dX7_sets_204 : decode cX7_sets 204 = .ok (.iload 10, 2) := by decide +kernel
theorem dX7_sets_206 : decode cX7_sets 206 = .ok (.iastore, 1) := by decide +kernel
theorem dX7_sets_207 : decode cX7_sets 207 = .ok (.aload_n 0, 1) := by decide +kernel
theorem dX7_sets_208 : decode cX7_sets 208 = .ok (.getfield 34, 3) := by decide +kernel
theorem dX7_sets_211 : decode cX7_sets 211 = .ok (.iload_n 3, 1) := by decide +kernel
theorem dX7_sets_212 : decode cX7_sets 212 = .ok (.aload_n 0, 1) := by decide +kernel
theorem dX7_sets_213 : decode cX7_sets 213 = .ok (.getfield 34, 3) := by decide +kernel
theorem dX7_sets_216 : decode cX7_sets 216 = .ok (.iload_n 3, 1) := by decide +kernel
theorem dX7_sets_217 : decode cX7_sets 217 = .ok (.iaload, 1) := by decide +kernel
theorem dX7_sets_218 : decode cX7_sets 218 = .ok (.iconst (-1), 1) := by decide +kernel
theorem dX7_sets_219 : decode cX7_sets 219 = .ok (.if_icmp .ne 7, 3) := by decide +kernel
theorem dX7_sets_222 : decode cX7_sets 222 = .ok (.iload_n 1, 1) := by decide +kernel
theorem dX7_sets_223 : decode cX7_sets 223 = .ok (.goto 9, 3) := by decide +kernel
theorem dX7_sets_226 : decode cX7_sets 226 = .ok (.aload_n 0, 1) := by decide +kernel
theorem dX7_sets_227 : decode cX7_sets 227 = .ok (.getfield 34, 3) := by decide +kernel
theorem dX7_sets_230 : decode cX7_sets 230 = .ok (.iload_n 3, 1) := by decide +kernel
theorem dX7_sets_231 : decode cX7_sets 231 = .ok (.iaload, 1) := by decide +kernel
theorem dX7_sets_232 : decode cX7_sets 232 = .ok (.iastore, 1) := by decide +kernel
theorem dX7_sets_233 : decode cX7_sets 233 = .ok (.aload_n 0, 1) := by decide +kernel
theorem dX7_sets_234 : decode cX7_sets 234 = .ok (.getfield 37, 3) := by decide +kernel
theorem dX7_sets_237 : decode cX7_sets 237 = .ok (.iload_n 3, 1) := by decide +kernel
theorem dX7_sets_238 : decode cX7_sets 238 = .ok (.dup2, 1) := by decide +kernel
theorem dX7_sets_239 : decode cX7_sets 239 = .ok (.iaload, 1) := by decide +kernel
theorem dX7_sets_240 : decode cX7_sets 240 = .ok (.iconst 1, 1) := by decide +kernel
theorem dX7_sets_241 : decode cX7_sets 241 = .ok (.iadd, 1) := by decide +kernel
theorem dX7_sets_242 : decode cX7_sets 242 = .ok (.iastore, 1) := by decide +kernel
theorem dX7_sets_243 : decode cX7_sets 243 = .ok (.aload_n 0, 1) := by decide +kernel
theorem dX7_sets_244 : decode cX7_sets 244 = .ok (.getfield 31, 3) := by decide +kernel
theorem dX7_sets_247 : decode cX7_sets 247 = .ok (.iload_n 3, 1) := by decide +kernel
theorem dX7_sets_248 : decode cX7_sets 248 = .ok (.iload 7, 2) := by decide +kernel
theorem dX7_sets_250 : decode cX7_sets 250 = .ok (.iload 10, 2) := by decide +kernel
theorem dX7_sets_252 : decode cX7_sets 252 = .ok (.iadd, 1) := by decide +kernel
theorem dX7_sets_253 : decode cX7_sets 253 = .ok (.iastore, 1) := by decide +kernel
theorem dX7_sets_254 : decode cX7_sets 254 = .ok (.iload 10, 2) := by decide +kernel
theorem dX7_sets_256 : decode cX7_sets 256 = .ok (.iload 6, 2) := by decide +kernel
theorem dX7_sets_258 : decode cX7_sets 258 = .ok (.if_icmp .ge 44, 3) := by decide +kernel
theorem dX7_sets_261 : decode cX7_sets 261 = .ok (.aload_n 0, 1) := by decide +kernel
theorem dX7_sets_262 : decode cX7_sets 262 = .ok (.getfield 31, 3) := by decide +kernel
theorem dX7_sets_265 : decode cX7_sets 265 = .ok (.iload_n 3, 1) := by decide +kernel
theorem dX7_sets_266 : decode cX7_sets 266 = .ok (.dup2, 1) := by decide +kernel
theorem dX7_sets_267 : decode cX7_sets 267 = .ok (.iaload, 1) := by decide +kernel
theorem dX7_sets_268 : decode cX7_sets 268 = .ok (.iload 9, 2) := by decide +kernel
theorem dX7_sets_270 : decode cX7_sets 270 = .ok (.iadd, 1) := by decide +kernel
theorem dX7_sets_271 : decode cX7_sets 271 = .ok (.iastore, 1) := by decide +kernel
theorem dX7_sets_272 : decode cX7_sets 272 = .ok (.aload_n 0, 1) := by decide +kernel
theorem dX7_sets_273 : decode cX7_sets 273 = .ok (.dup, 1) := by decide +kernel
theorem dX7_sets_274 : decode cX7_sets 274 = .ok (.getfield 110, 3) := by decide +kernel
theorem dX7_sets_277 : decode cX7_sets 277 = .ok (.iconst 1, 1) := by decide +kernel
theorem dX7_sets_278 : decode cX7_sets 278 = .ok (.iadd, 1) := by decide +kernel
theorem dX7_sets_279 : decode cX7_sets 279 = .ok (.putfield 110, 3) := by decide +kernel
theorem dX7_sets_282 : decode cX7_sets 282 = .ok (.aload_n 0, 1) := by decide +kernel
theorem dX7_sets_283 : decode cX7_sets 283 = .ok (.invokevirtual 107, 3) := by decide +kernel
theorem dX7_sets_286 : decode cX7_sets 286 = .ok (.aload_n 0, 1) := by decide +kernel
theorem dX7_sets_287 : decode cX7_sets 287 = .ok (.getfield 31, 3) := by decide +kernel
theorem dX7_sets_290 : decode cX7_sets 290 = .ok (.iload_n 3, 1) := by decide +kernel
theorem dX7_sets_291 : decode cX7_sets 291 = .ok (.iconst 1, 1) := by decide +kernel
theorem dX7_sets_292 : decode cX7_sets 292 = .ok (.iadd, 1) := by decide +kernel
theorem dX7_sets_293 : decode cX7_sets 293 = .ok (.iload 6, 2) := by decide +kernel
theorem dX7_sets_295 : decode cX7_sets 295 = .ok (.iload 10, 2) := by decide +kernel
theorem dX7_sets_297 : decode cX7_sets 297 = .ok (.isub, 1) := by decide +kernel
theorem dX7_sets_298 : decode cX7_sets 298 = .ok (.iload 9, 2) := by decide +kernel
theorem dX7_sets_300 : decode cX7_sets 300 = .ok (.iadd, 1) := by decide +kernel
theorem dX7_sets_301 : decode cX7_sets 301 = .ok (.iastore, 1) := by decide +kernel
theorem dX7_sets_302 : decode cX7_sets 302 = .ok (.return_, 1) := by decide +kernel
set_option maxRecDepth 20000 in
theorem ggX7_setsAll_X7_newPage : GoodIn wsX7_setsAll wsX7_newPage := goodIn_r _ [8, 9, 1, 10, 11, 54, 55, 56, 57, 58, 59, 60, 61, 62, 63, 64, 65, 66, 67, 68, 69, 70, 71, 72] (by decide +kernel) (by decide +kernel)
set_option maxRecDepth 20000 in
theorem gX7_setsAll_X7_newPage : GoodIn wsX7_setsAll (wsV RX7 107 RX7 yX7_newPage wsX7_newPage) := goodIn_app (goodIn_of _ (by decide +kernel)) ggX7_setsAll_X7_newPage
set_option maxRecDepth 20000 in
theorem ggX7_setsAll_X7_sets : GoodIn wsX7_setsAll wsX7_sets := goodIn_r _ [15, 1, 9, 16, 17, 18, 10, 11, 2, 19, 20, 21, 7, 22, 3, 23, 24, 25, 26, 27, 28, 29, 30, 31, 32, 33, 34, 35, 36, 37, 38, 39, 40, 41, 42, 43, 44, 45, 46, 47, 48, 49, 50, 51, 52, 53, 4, 5, 6, 8, 54, 55, 56, 57, 58, 59, 60, 61, 62, 63, 64, 65, 66, 67, 68, 69, 70, 71, 72] (by decide +kernel) (by decide +kernel)
set_option maxRecDepth 20000 in
theorem gX7_setsAll_X7_sets : GoodIn wsX7_setsAll (wsV RX7 113 RX7 yX7_sets wsX7_sets) := goodIn_app (goodIn_of _ (by decide +kernel)) ggX7_setsAll_X7_sets
theorem dX7_setsAll_0 : decode cX7_setsAll 0 = .ok (.aload_n 0, 1) := by decide +kernel
theorem dX7_setsAll_1 : decode cX7_setsAll 1 = .ok (.iconst 0, 1) := by decide +kernel
theorem dX7_setsAll_2 : decode cX7_setsAll 2 = .ok (.putfield 101, 3) := by decide +kernel
theorem dX7_setsAll_5 : decode cX7_setsAll 5 = .ok (.aload_n 0, 1) := by decide +kernel
theorem dX7_setsAll_6 : decode cX7_setsAll 6 = .ok (.iconst 0, 1) := by decide +kernel
theorem dX7_setsAll_7 : decode cX7_setsAll 7 = .ok (.putfield 110, 3) := by decide +kernel
theorem dX7_setsAll_10 : decode cX7_setsAll 10 = .ok (.iconst 0, 1) := by decide +kernel
theorem dX7_setsAll_11 : decode cX7_setsAll 11 = .ok (.istore_n 2, 1) := by decide +kernel
theorem dX7_setsAll_12 : decode cX7_setsAll 12 = .ok (.iload_n 2, 1) := by decide +kernel
theorem dX7_setsAll_13 : decode cX7_setsAll 13 = .ok (.aload_n 0, 1) := by decide +kernel
theorem dX7_setsAll_14 : decode cX7_setsAll 14 = .ok (.getfield 7, 3) := by decide +kernel
theorem dX7_setsAll_17 : decode cX7_setsAll 17 = .ok (.iconst 1, 1) := by decide +kernel
theorem dX7_setsAll_18 : decode cX7_setsAll 18 = .ok (.iaload, 1) := by decide +kernel
theorem dX7_setsAll_19 : decode cX7_setsAll 19 = .ok (.if_icmp .ge 23, 3) := by decide +kernel
theorem dX7_setsAll_22 : decode cX7_setsAll 22 = .ok (.iload_n 2, 1) := by decide +kernel
theorem dX7_setsAll_23 : decode cX7_setsAll 23 = .ok (.ifCond .ne 7, 3) := by decide +kernel
theorem dX7_setsAll_26 : decode cX7_setsAll 26 = .ok (.aload_n 0, 1) := by decide +kernel
theorem dX7_setsAll_27 : decode cX7_setsAll 27 = .ok (.invokevirtual 107, 3) := by decide +kernel
theorem dX7_setsAll_30 : decode cX7_setsAll 30 = .ok (.aload_n 0, 1) := by decide +kernel
theorem dX7_setsAll_31 : decode cX7_setsAll 31 = .ok (.iload_n 2, 1) := by decide +kernel
theorem dX7_setsAll_32 : decode cX7_setsAll 32 = .ok (.iload_n 1, 1) := by decide +kernel
theorem dX7_setsAll_33 : decode cX7_setsAll 33 = .ok (.invokevirtual 113, 3) := by decide +kernel
theorem dX7_setsAll_36 : decode cX7_setsAll 36 = .ok (.iinc 2 1, 3) := by decide +kernel
theorem dX7_setsAll_39 : decode cX7_setsAll 39 = .ok (.goto (-27), 3) := by decide +kernel
theorem dX7_setsAll_42 : decode cX7_setsAll 42 = .ok (.return_, 1) := by decide +kernel
set_option maxRecDepth 20000 in
theorem ggX7_pagesIf_X7_setsAll : GoodIn wsX7_pagesIf wsX7_setsAll := goodIn_r _ [6, 1, 7, 8, 9, 10, 11, 5, 12, 13, 14, 15, 16, 17, 18, 19, 20, 21, 22, 23, 24, 25, 26, 27, 28, 29, 30, 31, 32, 33, 34, 35, 36, 37, 38, 39, 40, 41, 42, 43, 44, 45, 46, 47, 48, 49, 50, 51, 52, 53, 54, 55, 56, 57, 58, 59, 60, 61, 62, 63, 64, 65, 66, 67, 68, 69, 70, 71, 72, 73, 74, 75, 76] (by decide +kernel) (by decide +kernel)
set_option maxRecDepth 20000 in
theorem gX7_pagesIf_X7_setsAll : GoodIn wsX7_pagesIf (wsV RX7 117 RX7 yX7_setsAll wsX7_setsAll) := goodIn_app (goodIn_of _ (by decide +kernel)) ggX7_pagesIf_X7_setsAll
theorem dX7_pagesIf_0 : decode cX7_pagesIf 0 = .ok (.aload_n 0, 1) := by decide +kernel
theorem dX7_pagesIf_1 : decode cX7_pagesIf 1 = .ok (.iload_n 1, 1) := by decide +kernel
theorem dX7_pagesIf_2 : decode cX7_pagesIf 2 = .ok (.invokevirtual 117, 3) := by decide +kernel
theorem dX7_pagesIf_5 : decode cX7_pagesIf 5 = .ok (.aload_n 0, 1) := by decide +kernel
theorem dX7_pagesIf_6 : decode cX7_pagesIf 6 = .ok (.getfield 101, 3) := by decide +kernel
theorem dX7_pagesIf_9 : decode cX7_pagesIf 9 = .ok (.ireturn, 1) := by decide +kernel
set_option maxRecDepth 20000 in
theorem ggX7_marks_X7_of : GoodIn wsX7_marks wsX7_of := goodIn_r _ [6, 1, 7, 8, 9, 10, 11, 12, 13, 14, 15, 16, 17, 18, 19, 20, 21, 22, 23, 24, 25] (by decide +kernel) (by decide +kernel)
set_option maxRecDepth 20000 in
theorem gX7_marks_X7_of : GoodIn wsX7_marks (wsV RX7 62 RX7 yX7_of wsX7_of) := goodIn_app (goodIn_of _ (by decide +kernel)) ggX7_marks_X7_of
theorem dX7_marks_0 : decode cX7_marks 0 = .ok (.iconst 0, 1) := by decide +kernel
theorem dX7_marks_1 : decode cX7_marks 1 = .ok (.istore_n 1, 1) := by decide +kernel
theorem dX7_marks_2 : decode cX7_marks 2 = .ok (.iconst 0, 1) := by decide +kernel
theorem dX7_marks_3 : decode cX7_marks 3 = .ok (.istore_n 2, 1) := by decide +kernel
theorem dX7_marks_4 : decode cX7_marks 4 = .ok (.iload_n 2, 1) := by decide +kernel
theorem dX7_marks_5 : decode cX7_marks 5 = .ok (.aload_n 0, 1) := by decide +kernel
theorem dX7_marks_6 : decode cX7_marks 6 = .ok (.getfield 7, 3) := by decide +kernel
theorem dX7_marks_9 : decode cX7_marks 9 = .ok (.iconst 1, 1) := by decide +kernel
theorem dX7_marks_10 : decode cX7_marks 10 = .ok (.iaload, 1) := by decide +kernel
theorem dX7_marks_11 : decode cX7_marks 11 = .ok (.if_icmp .ge 28, 3) := by decide +kernel
theorem dX7_marks_14 : decode cX7_marks 14 = .ok (.iload_n 1, 1) := by decide +kernel
theorem dX7_marks_15 : decode cX7_marks 15 = .ok (.aload_n 0, 1) := by decide +kernel
theorem dX7_marks_16 : decode cX7_marks 16 = .ok (.iload_n 2, 1) := by decide +kernel
theorem dX7_marks_17 : decode cX7_marks 17 = .ok (.bipush 8, 2) := by decide +kernel
theorem dX7_marks_19 : decode cX7_marks 19 = .ok (.invokevirtual 62, 3) := by decide +kernel
theorem dX7_marks_22 : decode cX7_marks 22 = .ok (.iconst (-1), 1) := by decide +kernel
theorem dX7_marks_23 : decode cX7_marks 23 = .ok (.if_icmp .ne 7, 3) := by decide +kernel
theorem dX7_marks_26 : decode cX7_marks 26 = .ok (.iconst 0, 1) := by decide +kernel
theorem dX7_marks_27 : decode cX7_marks 27 = .ok (.goto 4, 3) := by decide +kernel
theorem dX7_marks_30 : decode cX7_marks 30 = .ok (.iconst 1, 1) := by decide +kernel
theorem dX7_marks_31 : decode cX7_marks 31 = .ok (.iadd, 1) := by decide +kernel
theorem dX7_marks_32 : decode cX7_marks 32 = .ok (.istore_n 1, 1) := by decide +kernel
theorem dX7_marks_33 : decode cX7_marks 33 = .ok (.iinc 2 1, 3) := by decide +kernel
theorem dX7_marks_36 : decode cX7_marks 36 = .ok (.goto (-32), 3) := by decide +kernel
theorem dX7_marks_39 : decode cX7_marks 39 = .ok (.iload_n 1, 1) := by decide +kernel
theorem dX7_marks_40 : decode cX7_marks 40 = .ok (.ireturn, 1) := by decide +kernel
set_option maxRecDepth 20000 in
theorem ggX7_pageLabel_X7_marks : GoodIn wsX7_pageLabel wsX7_marks := goodIn_r _ [6, 7, 8, 9, 10, 5, 11, 12, 13, 14, 15, 16, 17, 18, 19, 20, 21, 22, 23, 24, 25, 26, 27, 28, 29, 30] (by decide +kernel) (by decide +kernel)
set_option maxRecDepth 20000 in
theorem gX7_pageLabel_X7_marks : GoodIn wsX7_pageLabel (wsV RX7 121 RX7 yX7_marks wsX7_marks) := goodIn_app (goodIn_of _ (by decide +kernel)) ggX7_pageLabel_X7_marks
set_option maxRecDepth 20000 in
theorem ggX7_pageLabel_X7_of : GoodIn wsX7_pageLabel wsX7_of := goodIn_r _ [11, 7, 12, 13, 14, 15, 16, 17, 18, 19, 20, 21, 22, 23, 24, 25, 26, 27, 28, 29, 30] (by decide +kernel) (by decide +kernel)
set_option maxRecDepth 20000 in
theorem gX7_pageLabel_X7_of : GoodIn wsX7_pageLabel (wsV RX7 62 RX7 yX7_of wsX7_of) := goodIn_app (goodIn_of _ (by decide +kernel)) ggX7_pageLabel_X7_of
theorem dX7_pageLabel_0 : decode cX7_pageLabel 0 = .ok (.aload_n 0, 1) := by decide +kernel
theorem dX7_pageLabel_1 : decode cX7_pageLabel 1 = .ok (.invokevirtual 121, 3) := by decide +kernel
theorem dX7_pageLabel_4 : decode cX7_pageLabel 4 = .ok (.ifCond .ne 15, 3) := by decide +kernel
theorem dX7_pageLabel_7 : decode cX7_pageLabel 7 = .ok (.iload_n 2, 1) := by decide +kernel
theorem dX7_pageLabel_8 : decode cX7_pageLabel 8 = .ok (.ifCond .ne 9, 3) := by decide +kernel
theorem dX7_pageLabel_11 : decode cX7_pageLabel 11 = .ok (.iload_n 1, 1) := by decide +kernel
theorem dX7_pageLabel_12 : decode cX7_pageLabel 12 = .ok (.iconst 1, 1) := by decide +kernel
theorem dX7_pageLabel_13 : decode cX7_pageLabel 13 = .ok (.iadd, 1) := by decide +kernel
theorem dX7_pageLabel_14 : decode cX7_pageLabel 14 = .ok (.goto 4, 3) := by decide +kernel
theorem dX7_pageLabel_17 : decode cX7_pageLabel 17 = .ok (.iconst 0, 1) := by decide +kernel
theorem dX7_pageLabel_18 : decode cX7_pageLabel 18 = .ok (.ireturn, 1) := by decide +kernel
theorem dX7_pageLabel_19 : decode cX7_pageLabel 19 = .ok (.iload_n 1, 1) := by decide +kernel
theorem dX7_pageLabel_20 : decode cX7_pageLabel 20 = .ok (.istore_n 3, 1) := by decide +kernel
theorem dX7_pageLabel_21 : decode cX7_pageLabel 21 = .ok (.iload_n 3, 1) := by decide +kernel
theorem dX7_pageLabel_22 : decode cX7_pageLabel 22 = .ok (.ifCond .lt 35, 3) := by decide +kernel
theorem dX7_pageLabel_25 : decode cX7_pageLabel 25 = .ok (.aload_n 0, 1) := by decide +kernel
theorem dX7_pageLabel_26 : decode cX7_pageLabel 26 = .ok (.getfield 34, 3) := by decide +kernel
theorem dX7_pageLabel_29 : decode cX7_pageLabel 29 = .ok (.iload_n 3, 1) := by decide +kernel
theorem dX7_pageLabel_30 : decode cX7_pageLabel 30 = .ok (.iaload, 1) := by decide +kernel
theorem dX7_pageLabel_31 : decode cX7_pageLabel 31 = .ok (.iconst (-1), 1) := by decide +kernel
theorem dX7_pageLabel_32 : decode cX7_pageLabel 32 = .ok (.if_icmp .eq 19, 3) := by decide +kernel
theorem dX7_pageLabel_35 : decode cX7_pageLabel 35 = .ok (.aload_n 0, 1) := by decide +kernel
theorem dX7_pageLabel_36 : decode cX7_pageLabel 36 = .ok (.aload_n 0, 1) := by decide +kernel
theorem dX7_pageLabel_37 : decode cX7_pageLabel 37 = .ok (.getfield 34, 3) := by decide +kernel
theorem dX7_pageLabel_40 : decode cX7_pageLabel 40 = .ok (.iload_n 3, 1) := by decide +kernel
theorem dX7_pageLabel_41 : decode cX7_pageLabel 41 = .ok (.iaload, 1) := by decide +kernel
theorem dX7_pageLabel_42 : decode cX7_pageLabel 42 = .ok (.bipush 8, 2) := by decide +kernel
theorem dX7_pageLabel_44 : decode cX7_pageLabel 44 = .ok (.invokevirtual 62, 3) := by decide +kernel
theorem dX7_pageLabel_47 : decode cX7_pageLabel 47 = .ok (.iconst (-1), 1) := by decide +kernel
theorem dX7_pageLabel_48 : decode cX7_pageLabel 48 = .ok (.if_icmp .ne 9, 3) := by decide +kernel
theorem dX7_pageLabel_51 : decode cX7_pageLabel 51 = .ok (.iinc 3 (-1), 3) := by decide +kernel
theorem dX7_pageLabel_54 : decode cX7_pageLabel 54 = .ok (.goto (-33), 3) := by decide +kernel
theorem dX7_pageLabel_57 : decode cX7_pageLabel 57 = .ok (.iload_n 3, 1) := by decide +kernel
theorem dX7_pageLabel_58 : decode cX7_pageLabel 58 = .ok (.ifCond .ge 13, 3) := by decide +kernel
theorem dX7_pageLabel_61 : decode cX7_pageLabel 61 = .ok (.iload_n 2, 1) := by decide +kernel
theorem dX7_pageLabel_62 : decode cX7_pageLabel 62 = .ok (.ifCond .ne 7, 3) := by decide +kernel
theorem dX7_pageLabel_65 : decode cX7_pageLabel 65 = .ok (.iconst 0, 1) := by decide +kernel
theorem dX7_pageLabel_66 : decode cX7_pageLabel 66 = .ok (.goto 4, 3) := by decide +kernel
theorem dX7_pageLabel_69 : decode cX7_pageLabel 69 = .ok (.iload_n 1, 1) := by decide +kernel
theorem dX7_pageLabel_70 : decode cX7_pageLabel 70 = .ok (.ireturn, 1) := by decide +kernel
theorem dX7_pageLabel_71 : decode cX7_pageLabel 71 = .ok (.iload_n 2, 1) := by decide +kernel
theorem dX7_pageLabel_72 : decode cX7_pageLabel 72 = .ok (.ifCond .ne 18, 3) := by decide +kernel
theorem dX7_pageLabel_75 : decode cX7_pageLabel 75 = .ok (.aload_n 0, 1) := by decide +kernel
theorem dX7_pageLabel_76 : decode cX7_pageLabel 76 = .ok (.aload_n 0, 1) := by decide +kernel
theorem dX7_pageLabel_77 : decode cX7_pageLabel 77 = .ok (.getfield 34, 3) := by decide +kernel
theorem dX7_pageLabel_80 : decode cX7_pageLabel 80 = .ok (.iload_n 3, 1) := by decide +kernel
theorem dX7_pageLabel_81 : decode cX7_pageLabel 81 = .ok (.iaload, 1) := by decide +kernel
theorem dX7_pageLabel_82 : decode cX7_pageLabel 82 = .ok (.bipush 8, 2) := by decide +kernel
theorem dX7_pageLabel_84 : decode cX7_pageLabel 84 = .ok (.invokevirtual 62, 3) := by decide +kernel
theorem dX7_pageLabel_87 : decode cX7_pageLabel 87 = .ok (.goto 6, 3) := by decide +kernel
theorem dX7_pageLabel_90 : decode cX7_pageLabel 90 = .ok (.iload_n 1, 1) := by decide +kernel
theorem dX7_pageLabel_91 : decode cX7_pageLabel 91 = .ok (.iload_n 3, 1) := by decide +kernel
theorem dX7_pageLabel_92 : decode cX7_pageLabel 92 = .ok (.isub, 1) := by decide +kernel
theorem dX7_pageLabel_93 : decode cX7_pageLabel 93 = .ok (.ireturn, 1) := by decide +kernel
set_option maxRecDepth 20000 in
theorem ggX7_comes_X7_puts : GoodIn wsX7_comes wsX7_puts := goodIn_r _ [6, 1, 7, 8, 9, 10, 11, 12, 13, 14, 15, 16, 17, 18, 19, 20, 21, 22, 23, 24, 25] (by decide +kernel) (by decide +kernel)
set_option maxRecDepth 20000 in
theorem gX7_comes_X7_puts : GoodIn wsX7_comes (wsV RX7 125 RX7 yX7_puts wsX7_puts) := goodIn_app (goodIn_of _ (by decide +kernel)) ggX7_comes_X7_puts
theorem dX7_comes_0 : decode cX7_comes 0 = .ok (.iconst 2, 1) := by decide +kernel
theorem dX7_comes_1 : decode cX7_comes 1 = .ok (.bipush 9, 2) := by decide +kernel
theorem dX7_comes_3 : decode cX7_comes 3 = .ok (.aload_n 0, 1) := by decide +kernel
theorem dX7_comes_4 : decode cX7_comes 4 = .ok (.getfield 7, 3) := by decide +kernel
theorem dX7_comes_7 : decode cX7_comes 7 = .ok (.iconst 1, 1) := by decide +kernel
theorem dX7_comes_8 : decode cX7_comes 8 = .ok (.iaload, 1) := by decide +kernel
theorem dX7_comes_9 : decode cX7_comes 9 = .ok (.imul, 1) := by decide +kernel
theorem dX7_comes_10 : decode cX7_comes 10 = .ok (.iadd, 1) := by decide +kernel
theorem dX7_comes_11 : decode cX7_comes 11 = .ok (.iconst 1, 1) := by decide +kernel
theorem dX7_comes_12 : decode cX7_comes 12 = .ok (.isub, 1) := by decide +kernel
theorem dX7_comes_13 : decode cX7_comes 13 = .ok (.istore 5, 2) := by decide +kernel
theorem dX7_comes_15 : decode cX7_comes 15 = .ok (.iload 5, 2) := by decide +kernel
theorem dX7_comes_17 : decode cX7_comes 17 = .ok (.iconst 2, 1) := by decide +kernel
theorem dX7_comes_18 : decode cX7_comes 18 = .ok (.bipush 9, 2) := by decide +kernel
theorem dX7_comes_20 : decode cX7_comes 20 = .ok (.iload_n 1, 1) := by decide +kernel
theorem dX7_comes_21 : decode cX7_comes 21 = .ok (.imul, 1) := by decide +kernel
theorem dX7_comes_22 : decode cX7_comes 22 = .ok (.iadd, 1) := by decide +kernel
theorem dX7_comes_23 : decode cX7_comes 23 = .ok (.if_icmp .lt 26, 3) := by decide +kernel
theorem dX7_comes_26 : decode cX7_comes 26 = .ok (.aload_n 0, 1) := by decide +kernel
theorem dX7_comes_27 : decode cX7_comes 27 = .ok (.getfield 7, 3) := by decide +kernel
theorem dX7_comes_30 : decode cX7_comes 30 = .ok (.iload 5, 2) := by decide +kernel
theorem dX7_comes_32 : decode cX7_comes 32 = .ok (.bipush 9, 2) := by decide +kernel
theorem dX7_comes_34 : decode cX7_comes 34 = .ok (.iadd, 1) := by decide +kernel
theorem dX7_comes_35 : decode cX7_comes 35 = .ok (.aload_n 0, 1) := by decide +kernel
theorem dX7_comes_36 : decode cX7_comes 36 = .ok (.getfield 7, 3) := by decide +kernel
theorem dX7_comes_39 : decode cX7_comes 39 = .ok (.iload 5, 2) := by decide +kernel
theorem dX7_comes_41 : decode cX7_comes 41 = .ok (.iaload, 1) := by decide +kernel
theorem dX7_comes_42 : decode cX7_comes 42 = .ok (.iastore, 1) := by decide +kernel
theorem dX7_comes_43 : decode cX7_comes 43 = .ok (.iinc 5 (-1), 3) := by decide +kernel
theorem dX7_comes_46 : decode cX7_comes 46 = .ok (.goto (-31), 3) := by decide +kernel
theorem dX7_comes_49 : decode cX7_comes 49 = .ok (.iconst 0, 1) := by decide +kernel
theorem dX7_comes_50 : decode cX7_comes 50 = .ok (.istore 5, 2) := by decide +kernel
theorem dX7_comes_52 : decode cX7_comes 52 = .ok (.iload 5, 2) := by decide +kernel
theorem dX7_comes_54 : decode cX7_comes 54 = .ok (.bipush 9, 2) := by decide +kernel
theorem dX7_comes_56 : decode cX7_comes 56 = .ok (.if_icmp .ge 17, 3) := by decide +kernel
theorem dX7_comes_59 : decode cX7_comes 59 = .ok (.aload_n 0, 1) := by decide +kernel
theorem dX7_comes_60 : decode cX7_comes 60 = .ok (.iload_n 1, 1) := by decide +kernel
theorem dX7_comes_61 : decode cX7_comes 61 = .ok (.iload 5, 2) := by decide +kernel
theorem dX7_comes_63 : decode cX7_comes 63 = .ok (.iconst 0, 1) := by decide +kernel
theorem dX7_comes_64 : decode cX7_comes 64 = .ok (.invokevirtual 125, 3) := by decide +kernel
theorem dX7_comes_67 : decode cX7_comes 67 = .ok (.iinc 5 1, 3) := by decide +kernel
theorem dX7_comes_70 : decode cX7_comes 70 = .ok (.goto (-18), 3) := by decide +kernel
theorem dX7_comes_73 : decode cX7_comes 73 = .ok (.aload_n 0, 1) := by decide +kernel
theorem dX7_comes_74 : decode cX7_comes 74 = .ok (.iload_n 1, 1) := by decide +kernel
theorem dX7_comes_75 : decode cX7_comes 75 = .ok (.iconst 0, 1) := by decide +kernel
theorem dX7_comes_76 : decode cX7_comes 76 = .ok (.iload_n 2, 1) := by decide +kernel
theorem dX7_comes_77 : decode cX7_comes 77 = .ok (.invokevirtual 125, 3) := by decide +kernel
theorem dX7_comes_80 : decode cX7_comes 80 = .ok (.aload_n 0, 1) := by decide +kernel
theorem dX7_comes_81 : decode cX7_comes 81 = .ok (.iload_n 1, 1) := by decide +kernel
theorem dX7_comes_82 : decode cX7_comes 82 = .ok (.iconst 1, 1) := by decide +kernel
theorem dX7_comes_83 : decode cX7_comes 83 = .ok (.iload_n 3, 1) := by decide +kernel
theorem dX7_comes_84 : decode cX7_comes 84 = .ok (.invokevirtual 125, 3) := by decide +kernel
theorem dX7_comes_87 : decode cX7_comes 87 = .ok (.aload_n 0, 1) := by decide +kernel
theorem dX7_comes_88 : decode cX7_comes 88 = .ok (.iload_n 1, 1) := by decide +kernel
theorem dX7_comes_89 : decode cX7_comes 89 = .ok (.iconst 2, 1) := by decide +kernel
theorem dX7_comes_90 : decode cX7_comes 90 = .ok (.iload 4, 2) := by decide +kernel
theorem dX7_comes_92 : decode cX7_comes 92 = .ok (.invokevirtual 125, 3) := by decide +kernel
theorem dX7_comes_95 : decode cX7_comes 95 = .ok (.aload_n 0, 1) := by decide +kernel
theorem dX7_comes_96 : decode cX7_comes 96 = .ok (.iload_n 1, 1) := by decide +kernel
theorem dX7_comes_97 : decode cX7_comes 97 = .ok (.bipush 8, 2) := by decide +kernel
theorem dX7_comes_99 : decode cX7_comes 99 = .ok (.iconst (-1), 1) := by decide +kernel
theorem dX7_comes_100 : decode cX7_comes 100 = .ok (.invokevirtual 125, 3) := by decide +kernel
theorem dX7_comes_103 : decode cX7_comes 103 = .ok (.aload_n 0, 1) := by decide +kernel
theorem dX7_comes_104 : decode cX7_comes 104 = .ok (.getfield 7, 3) := by decide +kernel
theorem dX7_comes_107 : decode cX7_comes 107 = .ok (.iconst 1, 1) := by decide +kernel
theorem dX7_comes_108 : decode cX7_comes 108 = .ok (.dup2, 1) := by decide +kernel
theorem dX7_comes_109 : decode cX7_comes 109 = .ok (.iaload, 1) := by decide +kernel
theorem dX7_comes_110 : decode cX7_comes 110 = .ok (.iconst 1, 1) := by decide +kernel
theorem dX7_comes_111 : decode cX7_comes 111 = .ok (.iadd, 1) := by decide +kernel
theorem dX7_comes_112 : decode cX7_comes 112 = .ok (.iastore, 1) := by decide +kernel
theorem dX7_comes_113 : decode cX7_comes 113 = .ok (.return_, 1) := by decide +kernel
set_option maxRecDepth 20000 in
theorem ggX7_goes_X7_of : GoodIn wsX7_goes wsX7_of := goodIn_r _ [6, 1, 11, 12, 13, 14, 15, 16, 17, 18, 19, 20, 21, 22, 23, 24, 25, 26, 27, 28, 29] (by decide +kernel) (by decide +kernel)
set_option maxRecDepth 20000 in
theorem gX7_goes_X7_of : GoodIn wsX7_goes (wsV RX7 62 RX7 yX7_of wsX7_of) := goodIn_app (goodIn_of _ (by decide +kernel)) ggX7_goes_X7_of
set_option maxRecDepth 20000 in
theorem ggX7_goes_X7_puts : GoodIn wsX7_goes wsX7_puts := goodIn_r _ [10, 1, 11, 12, 13, 14, 15, 16, 17, 18, 19, 20, 21, 22, 23, 24, 25, 26, 27, 28, 29] (by decide +kernel) (by decide +kernel)
set_option maxRecDepth 20000 in
theorem gX7_goes_X7_puts : GoodIn wsX7_goes (wsV RX7 125 RX7 yX7_puts wsX7_puts) := goodIn_app (goodIn_of _ (by decide +kernel)) ggX7_goes_X7_puts
theorem dX7_goes_0 : decode cX7_goes 0 = .ok (.aload_n 0, 1) := by decide +kernel
theorem dX7_goes_1 : decode cX7_goes 1 = .ok (.iload_n 1, 1) := by decide +kernel
theorem dX7_goes_2 : decode cX7_goes 2 = .ok (.bipush 8, 2) := by decide +kernel
theorem dX7_goes_4 : decode cX7_goes 4 = .ok (.invokevirtual 62, 3) := by decide +kernel
theorem dX7_goes_7 : decode cX7_goes 7 = .ok (.istore_n 2, 1) := by decide +kernel
theorem dX7_goes_8 : decode cX7_goes 8 = .ok (.aload_n 0, 1) := by decide +kernel
theorem dX7_goes_9 : decode cX7_goes 9 = .ok (.getfield 7, 3) := by decide +kernel
theorem dX7_goes_12 : decode cX7_goes 12 = .ok (.iconst 1, 1) := by decide +kernel
theorem dX7_goes_13 : decode cX7_goes 13 = .ok (.dup2, 1) := by decide +kernel
theorem dX7_goes_14 : decode cX7_goes 14 = .ok (.iaload, 1) := by decide +kernel
theorem dX7_goes_15 : decode cX7_goes 15 = .ok (.iconst 1, 1) := by decide +kernel
theorem dX7_goes_16 : decode cX7_goes 16 = .ok (.isub, 1) := by decide +kernel
theorem dX7_goes_17 : decode cX7_goes 17 = .ok (.iastore, 1) := by decide +kernel
theorem dX7_goes_18 : decode cX7_goes 18 = .ok (.iconst 2, 1) := by decide +kernel
theorem dX7_goes_19 : decode cX7_goes 19 = .ok (.bipush 9, 2) := by decide +kernel
theorem dX7_goes_21 : decode cX7_goes 21 = .ok (.iload_n 1, 1) := by decide +kernel
theorem dX7_goes_22 : decode cX7_goes 22 = .ok (.imul, 1) := by decide +kernel
theorem dX7_goes_23 : decode cX7_goes 23 = .ok (.iadd, 1) := by decide +kernel
theorem dX7_goes_24 : decode cX7_goes 24 = .ok (.istore_n 3, 1) := by decide +kernel
theorem dX7_goes_25 : decode cX7_goes 25 = .ok (.iload_n 3, 1) := by decide +kernel
theorem dX7_goes_26 : decode cX7_goes 26 = .ok (.iconst 2, 1) := by decide +kernel
theorem dX7_goes_27 : decode cX7_goes 27 = .ok (.bipush 9, 2) := by decide +kernel
theorem dX7_goes_29 : decode cX7_goes 29 = .ok (.aload_n 0, 1) := by decide +kernel
theorem dX7_goes_30 : decode cX7_goes 30 = .ok (.getfield 7, 3) := by decide +kernel
theorem dX7_goes_33 : decode cX7_goes 33 = .ok (.iconst 1, 1) := by decide +kernel
theorem dX7_goes_34 : decode cX7_goes 34 = .ok (.iaload, 1) := by decide +kernel
theorem dX7_goes_35 : decode cX7_goes 35 = .ok (.imul, 1) := by decide +kernel
theorem dX7_goes_36 : decode cX7_goes 36 = .ok (.iadd, 1) := by decide +kernel
theorem dX7_goes_37 : decode cX7_goes 37 = .ok (.if_icmp .ge 24, 3) := by decide +kernel
theorem dX7_goes_40 : decode cX7_goes 40 = .ok (.aload_n 0, 1) := by decide +kernel
theorem dX7_goes_41 : decode cX7_goes 41 = .ok (.getfield 7, 3) := by decide +kernel
theorem dX7_goes_44 : decode cX7_goes 44 = .ok (.iload_n 3, 1) := by decide +kernel
theorem dX7_goes_45 : decode cX7_goes 45 = .ok (.aload_n 0, 1) := by decide +kernel
theorem dX7_goes_46 : decode cX7_goes 46 = .ok (.getfield 7, 3) := by decide +kernel
theorem dX7_goes_49 : decode cX7_goes 49 = .ok (.iload_n 3, 1) := by decide +kernel
theorem dX7_goes_50 : decode cX7_goes 50 = .ok (.bipush 9, 2) := by decide +kernel
theorem dX7_goes_52 : decode cX7_goes 52 = .ok (.iadd, 1) := by decide +kernel
theorem dX7_goes_53 : decode cX7_goes 53 = .ok (.iaload, 1) := by decide +kernel
theorem dX7_goes_54 : decode cX7_goes 54 = .ok (.iastore, 1) := by decide +kernel
theorem dX7_goes_55 : decode cX7_goes 55 = .ok (.iinc 3 1, 3) := by decide +kernel
theorem dX7_goes_58 : decode cX7_goes 58 = .ok (.goto (-33), 3) := by decide +kernel
theorem dX7_goes_61 : decode cX7_goes 61 = .ok (.iload_n 2, 1) := by decide +kernel
theorem dX7_goes_62 : decode cX7_goes 62 = .ok (.iconst (-1), 1) := by decide +kernel
theorem dX7_goes_63 : decode cX7_goes 63 = .ok (.if_icmp .eq 32, 3) := by decide +kernel
theorem dX7_goes_66 : decode cX7_goes 66 = .ok (.iload_n 1, 1) := by decide +kernel
theorem dX7_goes_67 : decode cX7_goes 67 = .ok (.aload_n 0, 1) := by decide +kernel
theorem dX7_goes_68 : decode cX7_goes 68 = .ok (.getfield 7, 3) := by decide +kernel
theorem dX7_goes_71 : decode cX7_goes 71 = .ok (.iconst 1, 1) := by decide +kernel
theorem dX7_goes_72 : decode cX7_goes 72 = .ok (.iaload, 1) := by decide +kernel
theorem dX7_goes_73 : decode cX7_goes 73 = .ok (.if_icmp .ge 22, 3) := by decide +kernel
theorem dX7_goes_76 : decode cX7_goes 76 = .ok (.aload_n 0, 1) := by decide +kernel
theorem dX7_goes_77 : decode cX7_goes 77 = .ok (.iload_n 1, 1) := by decide +kernel
theorem dX7_goes_78 : decode cX7_goes 78 = .ok (.bipush 8, 2) := by decide +kernel
theorem dX7_goes_80 : decode cX7_goes 80 = .ok (.invokevirtual 62, 3) := by decide +kernel
theorem dX7_goes_83 : decode cX7_goes 83 = .ok (.iconst (-1), 1) := by decide +kernel
theorem dX7_goes_84 : decode cX7_goes 84 = .ok (.if_icmp .ne 11, 3) := by decide +kernel
theorem dX7_goes_87 : decode cX7_goes 87 = .ok (.aload_n 0, 1) := by decide +kernel
theorem dX7_goes_88 : decode cX7_goes 88 = .ok (.iload_n 1, 1) := by decide +kernel
theorem dX7_goes_89 : decode cX7_goes 89 = .ok (.bipush 8, 2) := by decide +kernel
theorem dX7_goes_91 : decode cX7_goes 91 = .ok (.iload_n 2, 1) := by decide +kernel
theorem dX7_goes_92 : decode cX7_goes 92 = .ok (.invokevirtual 125, 3) := by decide +kernel
theorem dX7_goes_95 : decode cX7_goes 95 = .ok (.return_, 1) := by decide +kernel
set_option maxRecDepth 20000 in
theorem ggX7_isLength_X7_in : GoodIn wsX7_isLength wsX7_in := goodIn_r _ [4] (by decide +kernel) (by decide +kernel)
set_option maxRecDepth 20000 in
theorem gX7_isLength_X7_in : GoodIn wsX7_isLength (va_wsS RX7 58 yX7_in wsX7_in) := goodIn_app (goodIn_of _ (by decide +kernel)) ggX7_isLength_X7_in
theorem dX7_isLength_0 : decode cX7_isLength 0 = .ok (.iload_n 0, 1) := by decide +kernel
theorem dX7_isLength_1 : decode cX7_isLength 1 = .ok (.iconst 1, 1) := by decide +kernel
theorem dX7_isLength_2 : decode cX7_isLength 2 = .ok (.sipush 400, 3) := by decide +kernel
theorem dX7_isLength_5 : decode cX7_isLength 5 = .ok (.invokestatic 58, 3) := by decide +kernel
theorem dX7_isLength_8 : decode cX7_isLength 8 = .ok (.ireturn, 1) := by decide +kernel
set_option maxRecDepth 20000 in
theorem ggX7_insert_X7_in : GoodIn wsX7_insert wsX7_in := goodIn_r _ [6] (by decide +kernel) (by decide +kernel)
set_option maxRecDepth 20000 in
theorem gX7_insert_X7_in : GoodIn wsX7_insert (va_wsS RX7 58 yX7_in wsX7_in) := goodIn_app (goodIn_of _ (by decide +kernel)) ggX7_insert_X7_in
set_option maxRecDepth 20000 in
theorem ggX7_insert_X7_fails : GoodIn wsX7_insert wsX7_fails := goodIn_r _ [10, 11, 64, 65, 66, 67, 68, 69, 70, 71, 72, 73, 74, 75, 76, 77, 78, 79, 80, 81, 82] (by decide +kernel) (by decide +kernel)
set_option maxRecDepth 20000 in
theorem gX7_insert_X7_fails : GoodIn wsX7_insert (wsV RX7 129 RX7 yX7_fails wsX7_fails) := goodIn_app (goodIn_of _ (by decide +kernel)) ggX7_insert_X7_fails
set_option maxRecDepth 20000 in
theorem ggX7_insert_X7_isLength : GoodIn wsX7_insert wsX7_isLength := goodIn_r _ [14, 3, 4, 5, 6] (by decide +kernel) (by decide +kernel)
set_option maxRecDepth 20000 in
theorem gX7_insert_X7_isLength : GoodIn wsX7_insert (va_wsS RX7 132 yX7_isLength wsX7_isLength) := goodIn_app (goodIn_of _ (by decide +kernel)) ggX7_insert_X7_isLength
set_option maxRecDepth 20000 in
theorem ggX7_insert_X7_hold : GoodIn wsX7_insert wsX7_hold := goodIn_r _ [18, 2, 1, 19, 20, 5, 21, 64, 65, 66, 67, 68, 69, 70, 71, 72, 73, 74, 75, 76, 77, 78, 79, 80, 81, 82] (by decide +kernel) (by decide +kernel)
set_option maxRecDepth 20000 in
theorem gX7_insert_X7_hold : GoodIn wsX7_insert (wsV RX7 135 RX7 yX7_hold wsX7_hold) := goodIn_app (goodIn_of _ (by decide +kernel)) ggX7_insert_X7_hold
set_option maxRecDepth 20000 in
theorem ggX7_insert_X7_comes : GoodIn wsX7_insert wsX7_comes := goodIn_r _ [25, 1, 26, 27, 28, 5, 29, 64, 65, 66, 67, 68, 69, 70, 71, 72, 73, 74, 75, 76, 77, 78, 79, 80, 81, 82] (by decide +kernel) (by decide +kernel)
set_option maxRecDepth 20000 in
theorem gX7_insert_X7_comes : GoodIn wsX7_insert (wsV RX7 138 RX7 yX7_comes wsX7_comes) := goodIn_app (goodIn_of _ (by decide +kernel)) ggX7_insert_X7_comes
set_option maxRecDepth 20000 in
theorem ggX7_insert_X7_hasTwo : GoodIn wsX7_insert wsX7_hasTwo := goodIn_r _ [33, 1, 34, 35, 36, 5, 37, 38, 39, 40, 41, 42, 43, 44, 45, 46, 47, 48, 49, 50, 51, 52, 53, 64, 65, 66, 67, 68, 69, 70, 71, 72, 73, 74, 75, 76, 77, 78, 79, 80, 81, 82] (by decide +kernel) (by decide +kernel)
set_option maxRecDepth 20000 in
theorem gX7_insert_X7_hasTwo : GoodIn wsX7_insert (wsV RX7 142 RX7 yX7_hasTwo wsX7_hasTwo) := goodIn_app (goodIn_of _ (by decide +kernel)) ggX7_insert_X7_hasTwo
set_option maxRecDepth 20000 in
theorem ggX7_insert_X7_copies : GoodIn wsX7_insert wsX7_copies := goodIn_r _ [21] (by decide +kernel) (by decide +kernel)
set_option maxRecDepth 20000 in
theorem gX7_insert_X7_copies : GoodIn wsX7_insert (va_wsS RX7 47 yX7_copies wsX7_copies) := goodIn_app (goodIn_of _ (by decide +kernel)) ggX7_insert_X7_copies
set_option maxRecDepth 20000 in
theorem ggX7_insert_X7_ends : GoodIn wsX7_insert wsX7_ends := goodIn_r _ [57, 58, 59, 2, 60, 61, 62, 5, 63, 11, 64, 65, 66, 67, 68, 69, 70, 71, 72, 73, 74, 75, 76, 77, 78, 79, 80, 81, 82] (by decide +kernel) (by decide +kernel)
set_option maxRecDepth 20000 in
theorem gX7_insert_X7_ends : GoodIn wsX7_insert (wsV RX7 146 RX7 yX7_ends wsX7_ends) := goodIn_app (goodIn_of _ (by decide +kernel)) ggX7_insert_X7_ends
theorem dX7_insert_0 : decode cX7_insert 0 = .ok (.iload_n 1, 1) := by decide +kernel
theorem dX7_insert_1 : decode cX7_insert 1 = .ok (.iconst 0, 1) := by decide +kernel
theorem dX7_insert_2 : decode cX7_insert 2 = .ok (.aload_n 0, 1) := by decide +kernel
theorem dX7_insert_3 : decode cX7_insert 3 = .ok (.getfield 7, 3) := by decide +kernel
theorem dX7_insert_6 : decode cX7_insert 6 = .ok (.iconst 1, 1) := by decide +kernel
theorem dX7_insert_7 : decode cX7_insert 7 = .ok (.iaload, 1) := by decide +kernel
theorem dX7_insert_8 : decode cX7_insert 8 = .ok (.invokestatic 58, 3) := by decide +kernel
theorem dX7_insert_11 : decode cX7_insert 11 = .ok (.ifCond .ne 9, 3) := by decide +kernel
theorem dX7_insert_14 : decode cX7_insert 14 = .ok (.aload_n 0, 1) := by decide +kernel
theorem dX7_insert_15 : decode cX7_insert 15 = .ok (.iconst 1, 1) := by decide +kernel
theorem dX7_insert_16 : decode cX7_insert 16 = .ok (.invokevirtual 129, 3) := by decide +kernel
theorem dX7_insert_19 : decode cX7_insert 19 = .ok (.ireturn, 1) := by decide +kernel
theorem dX7_insert_20 : decode cX7_insert 20 = .ok (.iload_n 2, 1) := by decide +kernel
theorem dX7_insert_21 : decode cX7_insert 21 = .ok (.iconst 0, 1) := by decide +kernel
theorem dX7_insert_22 : decode cX7_insert 22 = .ok (.iconst 4, 1) := by decide +kernel
theorem dX7_insert_23 : decode cX7_insert 23 = .ok (.invokestatic 58, 3) := by decide +kernel
theorem dX7_insert_26 : decode cX7_insert 26 = .ok (.ifCond .eq 35, 3) := by decide +kernel
theorem dX7_insert_29 : decode cX7_insert 29 = .ok (.iload_n 3, 1) := by decide +kernel
theorem dX7_insert_30 : decode cX7_insert 30 = .ok (.invokestatic 132, 3) := by decide +kernel
theorem dX7_insert_33 : decode cX7_insert 33 = .ok (.ifCond .eq 28, 3) := by decide +kernel
theorem dX7_insert_36 : decode cX7_insert 36 = .ok (.iload_n 2, 1) := by decide +kernel
theorem dX7_insert_37 : decode cX7_insert 37 = .ok (.iconst 2, 1) := by decide +kernel
theorem dX7_insert_38 : decode cX7_insert 38 = .ok (.if_icmp .ne 17, 3) := by decide +kernel
theorem dX7_insert_41 : decode cX7_insert 41 = .ok (.iload 4, 2) := by decide +kernel
theorem dX7_insert_43 : decode cX7_insert 43 = .ok (.iconst 0, 1) := by decide +kernel
theorem dX7_insert_44 : decode cX7_insert 44 = .ok (.bipush 9, 2) := by decide +kernel
theorem dX7_insert_46 : decode cX7_insert 46 = .ok (.invokestatic 58, 3) := by decide +kernel
theorem dX7_insert_49 : decode cX7_insert 49 = .ok (.ifCond .eq 12, 3) := by decide +kernel
theorem dX7_insert_52 : decode cX7_insert 52 = .ok (.goto 15, 3) := by decide +kernel
theorem dX7_insert_55 : decode cX7_insert 55 = .ok (.iload 4, 2) := by decide +kernel
theorem dX7_insert_57 : decode cX7_insert 57 = .ok (.iconst (-1), 1) := by decide +kernel
theorem dX7_insert_58 : decode cX7_insert 58 = .ok (.if_icmp .eq 9, 3) := by decide +kernel
theorem dX7_insert_61 : decode cX7_insert 61 = .ok (.aload_n 0, 1) := by decide +kernel
theorem dX7_insert_62 : decode cX7_insert 62 = .ok (.iconst 2, 1) := by decide +kernel
theorem dX7_insert_63 : decode cX7_insert 63 = .ok (.invokevirtual 129, 3) := by decide +kernel
theorem dX7_insert_66 : decode cX7_insert 66 = .ok (.ireturn, 1) := by decide +kernel
theorem dX7_insert_67 : decode cX7_insert 67 = .ok (.aload_n 0, 1) := by decide +kernel
theorem dX7_insert_68 : decode cX7_insert 68 = .ok (.getfield 7, 3) := by decide +kernel
theorem dX7_insert_71 : decode cX7_insert 71 = .ok (.iconst 1, 1) := by decide +kernel
theorem dX7_insert_72 : decode cX7_insert 72 = .ok (.iaload, 1) := by decide +kernel
theorem dX7_insert_73 : decode cX7_insert 73 = .ok (.bipush 60, 2) := by decide +kernel
theorem dX7_insert_75 : decode cX7_insert 75 = .ok (.if_icmp .ne 9, 3) := by decide +kernel
theorem dX7_insert_78 : decode cX7_insert 78 = .ok (.aload_n 0, 1) := by decide +kernel
theorem dX7_insert_79 : decode cX7_insert 79 = .ok (.iconst 3, 1) := by decide +kernel
theorem dX7_insert_80 : decode cX7_insert 80 = .ok (.invokevirtual 129, 3) := by decide +kernel
theorem dX7_insert_83 : decode cX7_insert 83 = .ok (.ireturn, 1) := by decide +kernel
theorem dX7_insert_84 : decode cX7_insert 84 = .ok (.aload_n 0, 1) := by decide +kernel
theorem dX7_insert_85 : decode cX7_insert 85 = .ok (.invokevirtual 135, 3) := by decide +kernel
theorem dX7_insert_88 : decode cX7_insert 88 = .ok (.aload_n 0, 1) := by decide +kernel
theorem dX7_insert_89 : decode cX7_insert 89 = .ok (.iload_n 1, 1) := by decide +kernel
theorem dX7_insert_90 : decode cX7_insert 90 = .ok (.iload_n 2, 1) := by decide +kernel
theorem dX7_insert_91 : decode cX7_insert 91 = .ok (.iload_n 3, 1) := by decide +kernel
theorem dX7_insert_92 : decode cX7_insert 92 = .ok (.iload 4, 2) := by decide +kernel
theorem dX7_insert_94 : decode cX7_insert 94 = .ok (.invokevirtual 138, 3) := by decide +kernel
theorem dX7_insert_97 : decode cX7_insert 97 = .ok (.iload_n 2, 1) := by decide +kernel
theorem dX7_insert_98 : decode cX7_insert 98 = .ok (.ifCond .ne 27, 3) := by decide +kernel
theorem dX7_insert_101 : decode cX7_insert 101 = .ok (.aload_n 0, 1) := by decide +kernel
theorem dX7_insert_102 : decode cX7_insert 102 = .ok (.invokevirtual 142, 3) := by decide +kernel
theorem dX7_insert_105 : decode cX7_insert 105 = .ok (.ifCond .eq 20, 3) := by decide +kernel
theorem dX7_insert_108 : decode cX7_insert 108 = .ok (.aload_n 0, 1) := by decide +kernel
theorem dX7_insert_109 : decode cX7_insert 109 = .ok (.getfield 7, 3) := by decide +kernel
theorem dX7_insert_112 : decode cX7_insert 112 = .ok (.aload_n 0, 1) := by decide +kernel
theorem dX7_insert_113 : decode cX7_insert 113 = .ok (.getfield 16, 3) := by decide +kernel
theorem dX7_insert_116 : decode cX7_insert 116 = .ok (.invokestatic 47, 3) := by decide +kernel
theorem dX7_insert_119 : decode cX7_insert 119 = .ok (.aload_n 0, 1) := by decide +kernel
theorem dX7_insert_120 : decode cX7_insert 120 = .ok (.iconst 3, 1) := by decide +kernel
theorem dX7_insert_121 : decode cX7_insert 121 = .ok (.invokevirtual 129, 3) := by decide +kernel
theorem dX7_insert_124 : decode cX7_insert 124 = .ok (.ireturn, 1) := by decide +kernel
theorem dX7_insert_125 : decode cX7_insert 125 = .ok (.aload_n 0, 1) := by decide +kernel
theorem dX7_insert_126 : decode cX7_insert 126 = .ok (.aload_n 0, 1) := by decide +kernel
theorem dX7_insert_127 : decode cX7_insert 127 = .ok (.getfield 7, 3) := by decide +kernel
theorem dX7_insert_130 : decode cX7_insert 130 = .ok (.iconst 1, 1) := by decide +kernel
theorem dX7_insert_131 : decode cX7_insert 131 = .ok (.iaload, 1) := by decide +kernel
theorem dX7_insert_132 : decode cX7_insert 132 = .ok (.invokevirtual 146, 3) := by decide +kernel
theorem dX7_insert_135 : decode cX7_insert 135 = .ok (.ireturn, 1) := by decide +kernel
set_option maxRecDepth 20000 in
theorem ggX7_remove_X7_isElement : GoodIn wsX7_remove wsX7_isElement := goodIn_r _ [6, 1, 7, 8, 5, 9, 53, 54, 55, 56, 57, 58, 59, 60, 61, 62, 63, 64, 65, 66, 67, 68, 69, 70, 71] (by decide +kernel) (by decide +kernel)
set_option maxRecDepth 20000 in
theorem gX7_remove_X7_isElement : GoodIn wsX7_remove (wsV RX7 149 RX7 yX7_isElement wsX7_isElement) := goodIn_app (goodIn_of _ (by decide +kernel)) ggX7_remove_X7_isElement
set_option maxRecDepth 20000 in
theorem ggX7_remove_X7_fails : GoodIn wsX7_remove wsX7_fails := goodIn_r _ [13, 14, 53, 54, 55, 56, 57, 58, 59, 60, 61, 62, 63, 64, 65, 66, 67, 68, 69, 70, 71] (by decide +kernel) (by decide +kernel)
set_option maxRecDepth 20000 in
theorem gX7_remove_X7_fails : GoodIn wsX7_remove (wsV RX7 129 RX7 yX7_fails wsX7_fails) := goodIn_app (goodIn_of _ (by decide +kernel)) ggX7_remove_X7_fails
set_option maxRecDepth 20000 in
theorem ggX7_remove_X7_isLocked : GoodIn wsX7_remove wsX7_isLocked := goodIn_r _ [18, 19, 20, 21, 5, 22, 23, 24, 25, 26, 1, 53, 54, 55, 56, 57, 58, 59, 60, 61, 62, 63, 64, 65, 66, 67, 68, 69, 70, 71] (by decide +kernel) (by decide +kernel)
set_option maxRecDepth 20000 in
theorem gX7_remove_X7_isLocked : GoodIn wsX7_remove (wsV RX7 88 RX7 yX7_isLocked wsX7_isLocked) := goodIn_app (goodIn_of _ (by decide +kernel)) ggX7_remove_X7_isLocked
set_option maxRecDepth 20000 in
theorem ggX7_remove_X7_hold : GoodIn wsX7_remove wsX7_hold := goodIn_r _ [30, 31, 1, 32, 33, 5, 34, 53, 54, 55, 56, 57, 58, 59, 60, 61, 62, 63, 64, 65, 66, 67, 68, 69, 70, 71] (by decide +kernel) (by decide +kernel)
set_option maxRecDepth 20000 in
theorem gX7_remove_X7_hold : GoodIn wsX7_remove (wsV RX7 135 RX7 yX7_hold wsX7_hold) := goodIn_app (goodIn_of _ (by decide +kernel)) ggX7_remove_X7_hold
set_option maxRecDepth 20000 in
theorem ggX7_remove_X7_goes : GoodIn wsX7_remove wsX7_goes := goodIn_r _ [38, 1, 23, 24, 25, 5, 26, 39, 40, 41, 42, 53, 54, 55, 56, 57, 58, 59, 60, 61, 62, 63, 64, 65, 66, 67, 68, 69, 70, 71] (by decide +kernel) (by decide +kernel)
set_option maxRecDepth 20000 in
theorem gX7_remove_X7_goes : GoodIn wsX7_remove (wsV RX7 152 RX7 yX7_goes wsX7_goes) := goodIn_app (goodIn_of _ (by decide +kernel)) ggX7_remove_X7_goes
set_option maxRecDepth 20000 in
theorem ggX7_remove_X7_ends : GoodIn wsX7_remove wsX7_ends := goodIn_r _ [46, 47, 48, 31, 49, 50, 51, 5, 52, 14, 53, 54, 55, 56, 57, 58, 59, 60, 61, 62, 63, 64, 65, 66, 67, 68, 69, 70, 71] (by decide +kernel) (by decide +kernel)
set_option maxRecDepth 20000 in
theorem gX7_remove_X7_ends : GoodIn wsX7_remove (wsV RX7 146 RX7 yX7_ends wsX7_ends) := goodIn_app (goodIn_of _ (by decide +kernel)) ggX7_remove_X7_ends
theorem dX7_remove_0 : decode cX7_remove 0 = .ok (.aload_n 0, 1) := by decide +kernel
theorem dX7_remove_1 : decode cX7_remove 1 = .ok (.iload_n 1, 1) := by decide +kernel
theorem dX7_remove_2 : decode cX7_remove 2 = .ok (.invokevirtual 149, 3) := by decide +kernel
theorem dX7_remove_5 : decode cX7_remove 5 = .ok (.ifCond .ne 9, 3) := by decide +kernel
theorem dX7_remove_8 : decode cX7_remove 8 = .ok (.aload_n 0, 1) := by decide +kernel
theorem dX7_remove_9 : decode cX7_remove 9 = .ok (.iconst 1, 1) := by decide +kernel
theorem dX7_remove_10 : decode cX7_remove 10 = .ok (.invokevirtual 129, 3) := by decide +kernel
theorem dX7_remove_13 : decode cX7_remove 13 = .ok (.ireturn, 1) := by decide +kernel
theorem dX7_remove_14 : decode cX7_remove 14 = .ok (.aload_n 0, 1) := by decide +kernel
theorem dX7_remove_15 : decode cX7_remove 15 = .ok (.iload_n 1, 1) := by decide +kernel
theorem dX7_remove_16 : decode cX7_remove 16 = .ok (.invokevirtual 88, 3) := by decide +kernel
theorem dX7_remove_19 : decode cX7_remove 19 = .ok (.ifCond .eq 9, 3) := by decide +kernel
theorem dX7_remove_22 : decode cX7_remove 22 = .ok (.aload_n 0, 1) := by decide +kernel
theorem dX7_remove_23 : decode cX7_remove 23 = .ok (.iconst 2, 1) := by decide +kernel
theorem dX7_remove_24 : decode cX7_remove 24 = .ok (.invokevirtual 129, 3) := by decide +kernel
theorem dX7_remove_27 : decode cX7_remove 27 = .ok (.ireturn, 1) := by decide +kernel
theorem dX7_remove_28 : decode cX7_remove 28 = .ok (.aload_n 0, 1) := by decide +kernel
theorem dX7_remove_29 : decode cX7_remove 29 = .ok (.invokevirtual 135, 3) := by decide +kernel
theorem dX7_remove_32 : decode cX7_remove 32 = .ok (.aload_n 0, 1) := by decide +kernel
theorem dX7_remove_33 : decode cX7_remove 33 = .ok (.iload_n 1, 1) := by decide +kernel
theorem dX7_remove_34 : decode cX7_remove 34 = .ok (.invokevirtual 152, 3) := by decide +kernel
theorem dX7_remove_37 : decode cX7_remove 37 = .ok (.aload_n 0, 1) := by decide +kernel
theorem dX7_remove_38 : decode cX7_remove 38 = .ok (.aload_n 0, 1) := by decide +kernel
theorem dX7_remove_39 : decode cX7_remove 39 = .ok (.getfield 7, 3) := by decide +kernel
theorem dX7_remove_42 : decode cX7_remove 42 = .ok (.iconst 1, 1) := by decide +kernel
theorem dX7_remove_43 : decode cX7_remove 43 = .ok (.iaload, 1) := by decide +kernel
theorem dX7_remove_44 : decode cX7_remove 44 = .ok (.invokevirtual 146, 3) := by decide +kernel
theorem dX7_remove_47 : decode cX7_remove 47 = .ok (.ireturn, 1) := by decide +kernel
set_option maxRecDepth 20000 in
theorem ggX7_setLength_X7_isElement : GoodIn wsX7_setLength wsX7_isElement := goodIn_r _ [5, 6, 7, 8, 4, 9, 51, 52, 53, 54, 55, 56, 57, 58, 59, 60, 61, 62, 63, 64, 65, 66, 67, 68, 69] (by decide +kernel) (by decide +kernel)
set_option maxRecDepth 20000 in
theorem gX7_setLength_X7_isElement : GoodIn wsX7_setLength (wsV RX7 149 RX7 yX7_isElement wsX7_isElement) := goodIn_app (goodIn_of _ (by decide +kernel)) ggX7_setLength_X7_isElement
set_option maxRecDepth 20000 in
theorem ggX7_setLength_X7_fails : GoodIn wsX7_setLength wsX7_fails := goodIn_r _ [13, 14, 51, 52, 53, 54, 55, 56, 57, 58, 59, 60, 61, 62, 63, 64, 65, 66, 67, 68, 69] (by decide +kernel) (by decide +kernel)
set_option maxRecDepth 20000 in
theorem gX7_setLength_X7_fails : GoodIn wsX7_setLength (wsV RX7 129 RX7 yX7_fails wsX7_fails) := goodIn_app (goodIn_of _ (by decide +kernel)) ggX7_setLength_X7_fails
set_option maxRecDepth 20000 in
theorem ggX7_setLength_X7_isLength : GoodIn wsX7_setLength wsX7_isLength := goodIn_r _ [17, 7, 8, 4, 9] (by decide +kernel) (by decide +kernel)
set_option maxRecDepth 20000 in
theorem gX7_setLength_X7_isLength : GoodIn wsX7_setLength (va_wsS RX7 132 yX7_isLength wsX7_isLength) := goodIn_app (goodIn_of _ (by decide +kernel)) ggX7_setLength_X7_isLength
set_option maxRecDepth 20000 in
theorem ggX7_setLength_X7_hold : GoodIn wsX7_setLength wsX7_hold := goodIn_r _ [21, 22, 6, 23, 24, 4, 25, 51, 52, 53, 54, 55, 56, 57, 58, 59, 60, 61, 62, 63, 64, 65, 66, 67, 68, 69] (by decide +kernel) (by decide +kernel)
set_option maxRecDepth 20000 in
theorem gX7_setLength_X7_hold : GoodIn wsX7_setLength (wsV RX7 135 RX7 yX7_hold wsX7_hold) := goodIn_app (goodIn_of _ (by decide +kernel)) ggX7_setLength_X7_hold
set_option maxRecDepth 20000 in
theorem ggX7_setLength_X7_puts : GoodIn wsX7_setLength wsX7_puts := goodIn_r _ [29, 6, 51, 52, 53, 54, 55, 56, 57, 58, 59, 60, 61, 62, 63, 64, 65, 66, 67, 68, 69] (by decide +kernel) (by decide +kernel)
set_option maxRecDepth 20000 in
theorem gX7_setLength_X7_puts : GoodIn wsX7_setLength (wsV RX7 125 RX7 yX7_puts wsX7_puts) := goodIn_app (goodIn_of _ (by decide +kernel)) ggX7_setLength_X7_puts
set_option maxRecDepth 20000 in
theorem ggX7_setLength_X7_lines : GoodIn wsX7_setLength wsX7_lines := goodIn_r _ [33, 34, 35, 36, 4, 37, 6, 38, 39, 40, 51, 52, 53, 54, 55, 56, 57, 58, 59, 60, 61, 62, 63, 64, 65, 66, 67, 68, 69] (by decide +kernel) (by decide +kernel)
set_option maxRecDepth 20000 in
theorem gX7_setLength_X7_lines : GoodIn wsX7_setLength (wsV RX7 69 RX7 yX7_lines wsX7_lines) := goodIn_app (goodIn_of _ (by decide +kernel)) ggX7_setLength_X7_lines
set_option maxRecDepth 20000 in
theorem ggX7_setLength_X7_ends : GoodIn wsX7_setLength wsX7_ends := goodIn_r _ [44, 45, 46, 22, 47, 48, 49, 4, 50, 14, 51, 52, 53, 54, 55, 56, 57, 58, 59, 60, 61, 62, 63, 64, 65, 66, 67, 68, 69] (by decide +kernel) (by decide +kernel)
set_option maxRecDepth 20000 in
theorem gX7_setLength_X7_ends : GoodIn wsX7_setLength (wsV RX7 146 RX7 yX7_ends wsX7_ends) := goodIn_app (goodIn_of _ (by decide +kernel)) ggX7_setLength_X7_ends
theorem dX7_setLength_0 : decode cX7_setLength 0 = .ok (.aload_n 0, 1) := by decide +kernel
theorem dX7_setLength_1 : decode cX7_setLength 1 = .ok (.iload_n 1, 1) := by decide +kernel
theorem dX7_setLength_2 : decode cX7_setLength 2 = .ok (.invokevirtual 149, 3) := by decide +kernel
theorem dX7_setLength_5 : decode cX7_setLength 5 = .ok (.ifCond .ne 9, 3) := by decide +kernel
theorem dX7_setLength_8 : decode cX7_setLength 8 = .ok (.aload_n 0, 1) := by decide +kernel
theorem dX7_setLength_9 : decode cX7_setLength 9 = .ok (.iconst 1, 1) := by decide +kernel
theorem dX7_setLength_10 : decode cX7_setLength 10 = .ok (.invokevirtual 129, 3) := by decide +kernel
theorem dX7_setLength_13 : decode cX7_setLength 13 = .ok (.ireturn, 1) := by decide +kernel
theorem dX7_setLength_14 : decode cX7_setLength 14 = .ok (.iload_n 2, 1) := by decide +kernel
theorem dX7_setLength_15 : decode cX7_setLength 15 = .ok (.invokestatic 132, 3) := by decide +kernel
theorem dX7_setLength_18 : decode cX7_setLength 18 = .ok (.ifCond .ne 9, 3) := by decide +kernel
theorem dX7_setLength_21 : decode cX7_setLength 21 = .ok (.aload_n 0, 1) := by decide +kernel
theorem dX7_setLength_22 : decode cX7_setLength 22 = .ok (.iconst 2, 1) := by decide +kernel
theorem dX7_setLength_23 : decode cX7_setLength 23 = .ok (.invokevirtual 129, 3) := by decide +kernel
theorem dX7_setLength_26 : decode cX7_setLength 26 = .ok (.ireturn, 1) := by decide +kernel
theorem dX7_setLength_27 : decode cX7_setLength 27 = .ok (.aload_n 0, 1) := by decide +kernel
theorem dX7_setLength_28 : decode cX7_setLength 28 = .ok (.invokevirtual 135, 3) := by decide +kernel
theorem dX7_setLength_31 : decode cX7_setLength 31 = .ok (.aload_n 0, 1) := by decide +kernel
theorem dX7_setLength_32 : decode cX7_setLength 32 = .ok (.iload_n 1, 1) := by decide +kernel
theorem dX7_setLength_33 : decode cX7_setLength 33 = .ok (.iconst 1, 1) := by decide +kernel
theorem dX7_setLength_34 : decode cX7_setLength 34 = .ok (.iload_n 2, 1) := by decide +kernel
theorem dX7_setLength_35 : decode cX7_setLength 35 = .ok (.invokevirtual 125, 3) := by decide +kernel
theorem dX7_setLength_38 : decode cX7_setLength 38 = .ok (.aload_n 0, 1) := by decide +kernel
theorem dX7_setLength_39 : decode cX7_setLength 39 = .ok (.aload_n 0, 1) := by decide +kernel
theorem dX7_setLength_40 : decode cX7_setLength 40 = .ok (.iload_n 1, 1) := by decide +kernel
theorem dX7_setLength_41 : decode cX7_setLength 41 = .ok (.invokevirtual 69, 3) := by decide +kernel
theorem dX7_setLength_44 : decode cX7_setLength 44 = .ok (.invokevirtual 146, 3) := by decide +kernel
theorem dX7_setLength_47 : decode cX7_setLength 47 = .ok (.ireturn, 1) := by decide +kernel
set_option maxRecDepth 20000 in
theorem ggX7_isPage_X7_in : GoodIn wsX7_isPage wsX7_in := goodIn_r _ [4] (by decide +kernel) (by decide +kernel)
set_option maxRecDepth 20000 in
theorem gX7_isPage_X7_in : GoodIn wsX7_isPage (va_wsS RX7 58 yX7_in wsX7_in) := goodIn_app (goodIn_of _ (by decide +kernel)) ggX7_isPage_X7_in
theorem dX7_isPage_0 : decode cX7_isPage 0 = .ok (.iload_n 0, 1) := by decide +kernel
theorem dX7_isPage_1 : decode cX7_isPage 1 = .ok (.bipush 20, 2) := by decide +kernel
theorem dX7_isPage_3 : decode cX7_isPage 3 = .ok (.bipush 60, 2) := by decide +kernel
theorem dX7_isPage_5 : decode cX7_isPage 5 = .ok (.invokestatic 58, 3) := by decide +kernel
theorem dX7_isPage_8 : decode cX7_isPage 8 = .ok (.ireturn, 1) := by decide +kernel
set_option maxRecDepth 20000 in
theorem ggX7_setPage_X7_isPage : GoodIn wsX7_setPage wsX7_isPage := goodIn_r _ [5, 6, 7, 4, 8] (by decide +kernel) (by decide +kernel)
set_option maxRecDepth 20000 in
theorem gX7_setPage_X7_isPage : GoodIn wsX7_setPage (va_wsS RX7 155 yX7_isPage wsX7_isPage) := goodIn_app (goodIn_of _ (by decide +kernel)) ggX7_setPage_X7_isPage
set_option maxRecDepth 20000 in
theorem ggX7_setPage_X7_fails : GoodIn wsX7_setPage wsX7_fails := goodIn_r _ [12, 13, 32, 33, 34, 35, 36, 37, 38, 39, 40, 41, 42, 43, 44, 45, 46, 47, 48, 49, 50] (by decide +kernel) (by decide +kernel)
set_option maxRecDepth 20000 in
theorem gX7_setPage_X7_fails : GoodIn wsX7_setPage (wsV RX7 129 RX7 yX7_fails wsX7_fails) := goodIn_app (goodIn_of _ (by decide +kernel)) ggX7_setPage_X7_fails
set_option maxRecDepth 20000 in
theorem ggX7_setPage_X7_hold : GoodIn wsX7_setPage wsX7_hold := goodIn_r _ [17, 18, 1, 19, 20, 4, 21, 32, 33, 34, 35, 36, 37, 38, 39, 40, 41, 42, 43, 44, 45, 46, 47, 48, 49, 50] (by decide +kernel) (by decide +kernel)
set_option maxRecDepth 20000 in
theorem gX7_setPage_X7_hold : GoodIn wsX7_setPage (wsV RX7 135 RX7 yX7_hold wsX7_hold) := goodIn_app (goodIn_of _ (by decide +kernel)) ggX7_setPage_X7_hold
set_option maxRecDepth 20000 in
theorem ggX7_setPage_X7_ends : GoodIn wsX7_setPage wsX7_ends := goodIn_r _ [25, 26, 27, 18, 28, 29, 30, 4, 31, 13, 32, 33, 34, 35, 36, 37, 38, 39, 40, 41, 42, 43, 44, 45, 46, 47, 48, 49, 50] (by decide +kernel) (by decide +kernel)
set_option maxRecDepth 20000 in
theorem gX7_setPage_X7_ends : GoodIn wsX7_setPage (wsV RX7 146 RX7 yX7_ends wsX7_ends) := goodIn_app (goodIn_of _ (by decide +kernel)) ggX7_setPage_X7_ends
theorem dX7_setPage_0 : decode cX7_setPage 0 = .ok (.iload_n 1, 1) := by decide +kernel
theorem dX7_setPage_1 : decode cX7_setPage 1 = .ok (.invokestatic 155, 3) := by decide +kernel
theorem dX7_setPage_4 : decode cX7_setPage 4 = .ok (.ifCond .ne 9, 3) := by decide +kernel
theorem dX7_setPage_7 : decode cX7_setPage 7 = .ok (.aload_n 0, 1) := by decide +kernel
theorem dX7_setPage_8 : decode cX7_setPage 8 = .ok (.iconst 1, 1) := by decide +kernel
theorem dX7_setPage_9 : decode cX7_setPage 9 = .ok (.invokevirtual 129, 3) := by decide +kernel
theorem dX7_setPage_12 : decode cX7_setPage 12 = .ok (.ireturn, 1) := by decide +kernel
theorem dX7_setPage_13 : decode cX7_setPage 13 = .ok (.aload_n 0, 1) := by decide +kernel
theorem dX7_setPage_14 : decode cX7_setPage 14 = .ok (.invokevirtual 135, 3) := by decide +kernel
theorem dX7_setPage_17 : decode cX7_setPage 17 = .ok (.aload_n 0, 1) := by decide +kernel
theorem dX7_setPage_18 : decode cX7_setPage 18 = .ok (.getfield 7, 3) := by decide +kernel
theorem dX7_setPage_21 : decode cX7_setPage 21 = .ok (.iconst 0, 1) := by decide +kernel
theorem dX7_setPage_22 : decode cX7_setPage 22 = .ok (.iaload, 1) := by decide +kernel
theorem dX7_setPage_23 : decode cX7_setPage 23 = .ok (.istore_n 2, 1) := by decide +kernel
theorem dX7_setPage_24 : decode cX7_setPage 24 = .ok (.aload_n 0, 1) := by decide +kernel
theorem dX7_setPage_25 : decode cX7_setPage 25 = .ok (.getfield 7, 3) := by decide +kernel
theorem dX7_setPage_28 : decode cX7_setPage 28 = .ok (.iconst 0, 1) := by decide +kernel
theorem dX7_setPage_29 : decode cX7_setPage 29 = .ok (.iload_n 1, 1) := by decide +kernel
theorem dX7_setPage_30 : decode cX7_setPage 30 = .ok (.iastore, 1) := by decide +kernel
theorem dX7_setPage_31 : decode cX7_setPage 31 = .ok (.aload_n 0, 1) := by decide +kernel
theorem dX7_setPage_32 : decode cX7_setPage 32 = .ok (.iload_n 2, 1) := by decide +kernel
theorem dX7_setPage_33 : decode cX7_setPage 33 = .ok (.invokevirtual 146, 3) := by decide +kernel
theorem dX7_setPage_36 : decode cX7_setPage 36 = .ok (.ireturn, 1) := by decide +kernel
set_option maxRecDepth 20000 in
theorem ggX7_lockScenes_X7_hold : GoodIn wsX7_lockScenes wsX7_hold := goodIn_r _ [7, 8, 1, 9, 10, 6, 11, 43, 44, 45, 46, 47, 48, 49, 50, 51, 52, 53, 54, 55, 56, 57, 58, 59, 60, 61] (by decide +kernel) (by decide +kernel)
set_option maxRecDepth 20000 in
theorem gX7_lockScenes_X7_hold : GoodIn wsX7_lockScenes (wsV RX7 135 RX7 yX7_hold wsX7_hold) := goodIn_app (goodIn_of _ (by decide +kernel)) ggX7_lockScenes_X7_hold
set_option maxRecDepth 20000 in
theorem ggX7_lockScenes_X7_isHeading : GoodIn wsX7_lockScenes wsX7_isHeading := goodIn_r _ [15, 16, 17, 18, 6, 19, 1, 43, 44, 45, 46, 47, 48, 49, 50, 51, 52, 53, 54, 55, 56, 57, 58, 59, 60, 61] (by decide +kernel) (by decide +kernel)
set_option maxRecDepth 20000 in
theorem gX7_lockScenes_X7_isHeading : GoodIn wsX7_lockScenes (wsV RX7 76 RX7 yX7_isHeading wsX7_isHeading) := goodIn_app (goodIn_of _ (by decide +kernel)) ggX7_lockScenes_X7_isHeading
set_option maxRecDepth 20000 in
theorem ggX7_lockScenes_X7_label : GoodIn wsX7_lockScenes wsX7_label := goodIn_r _ [23, 1, 24, 25, 26, 6, 27, 12, 13, 14, 15, 16, 17, 18, 19, 43, 44, 45, 46, 47, 48, 49, 50, 51, 52, 53, 54, 55, 56, 57, 58, 59, 60, 61] (by decide +kernel) (by decide +kernel)
set_option maxRecDepth 20000 in
theorem gX7_lockScenes_X7_label : GoodIn wsX7_lockScenes (wsV RX7 91 RX7 yX7_label wsX7_label) := goodIn_app (goodIn_of _ (by decide +kernel)) ggX7_lockScenes_X7_label
set_option maxRecDepth 20000 in
theorem ggX7_lockScenes_X7_of : GoodIn wsX7_lockScenes wsX7_of := goodIn_r _ [19, 1, 43, 44, 45, 46, 47, 48, 49, 50, 51, 52, 53, 54, 55, 56, 57, 58, 59, 60, 61] (by decide +kernel) (by decide +kernel)
set_option maxRecDepth 20000 in
theorem gX7_lockScenes_X7_of : GoodIn wsX7_lockScenes (wsV RX7 62 RX7 yX7_of wsX7_of) := goodIn_app (goodIn_of _ (by decide +kernel)) ggX7_lockScenes_X7_of
set_option maxRecDepth 20000 in
theorem ggX7_lockScenes_X7_puts : GoodIn wsX7_lockScenes wsX7_puts := goodIn_r _ [31, 1, 43, 44, 45, 46, 47, 48, 49, 50, 51, 52, 53, 54, 55, 56, 57, 58, 59, 60, 61] (by decide +kernel) (by decide +kernel)
set_option maxRecDepth 20000 in
theorem gX7_lockScenes_X7_puts : GoodIn wsX7_lockScenes (wsV RX7 125 RX7 yX7_puts wsX7_puts) := goodIn_app (goodIn_of _ (by decide +kernel)) ggX7_lockScenes_X7_puts
set_option maxRecDepth 20000 in
theorem ggX7_lockScenes_X7_ends : GoodIn wsX7_lockScenes wsX7_ends := goodIn_r _ [35, 36, 37, 8, 38, 39, 40, 6, 41, 42, 43, 44, 45, 46, 47, 48, 49, 50, 51, 52, 53, 54, 55, 56, 57, 58, 59, 60, 61] (by decide +kernel) (by decide +kernel)
set_option maxRecDepth 20000 in
theorem gX7_lockScenes_X7_ends : GoodIn wsX7_lockScenes (wsV RX7 146 RX7 yX7_ends wsX7_ends) := goodIn_app (goodIn_of _ (by decide +kernel)) ggX7_lockScenes_X7_ends
theorem dX7_lockScenes_0 : decode cX7_lockScenes 0 = .ok (.aload_n 0, 1) := by decide +kernel
theorem dX7_lockScenes_1 : decode cX7_lockScenes 1 = .ok (.invokevirtual 135, 3) := by decide +kernel
theorem dX7_lockScenes_4 : decode cX7_lockScenes 4 = .ok (.iconst 0, 1) := by decide +kernel
theorem dX7_lockScenes_5 : decode cX7_lockScenes 5 = .ok (.istore_n 1, 1) := by decide +kernel
theorem dX7_lockScenes_6 : decode cX7_lockScenes 6 = .ok (.iconst 0, 1) := by decide +kernel
theorem dX7_lockScenes_7 : decode cX7_lockScenes 7 = .ok (.istore_n 2, 1) := by decide +kernel
theorem dX7_lockScenes_8 : decode cX7_lockScenes 8 = .ok (.iload_n 2, 1) := by decide +kernel
theorem dX7_lockScenes_9 : decode cX7_lockScenes 9 = .ok (.iconst 3, 1) := by decide +kernel
theorem dX7_lockScenes_10 : decode cX7_lockScenes 10 = .ok (.aload_n 0, 1) := by decide +kernel
theorem dX7_lockScenes_11 : decode cX7_lockScenes 11 = .ok (.getfield 7, 3) := by decide +kernel
theorem dX7_lockScenes_14 : decode cX7_lockScenes 14 = .ok (.iconst 1, 1) := by decide +kernel
theorem dX7_lockScenes_15 : decode cX7_lockScenes 15 = .ok (.iaload, 1) := by decide +kernel
theorem dX7_lockScenes_16 : decode cX7_lockScenes 16 = .ok (.imul, 1) := by decide +kernel
theorem dX7_lockScenes_17 : decode cX7_lockScenes 17 = .ok (.if_icmp .ge 39, 3) := by decide +kernel
theorem dX7_lockScenes_20 : decode cX7_lockScenes 20 = .ok (.aload_n 0, 1) := by decide +kernel
theorem dX7_lockScenes_21 : decode cX7_lockScenes 21 = .ok (.getfield 40, 3) := by decide +kernel
theorem dX7_lockScenes_24 : decode cX7_lockScenes 24 = .ok (.iload_n 2, 1) := by decide +kernel
theorem dX7_lockScenes_25 : decode cX7_lockScenes 25 = .ok (.aload_n 0, 1) := by decide +kernel
theorem dX7_lockScenes_26 : decode cX7_lockScenes 26 = .ok (.iload_n 2, 1) := by decide +kernel
theorem dX7_lockScenes_27 : decode cX7_lockScenes 27 = .ok (.iconst 3, 1) := by decide +kernel
theorem dX7_lockScenes_28 : decode cX7_lockScenes 28 = .ok (.idiv, 1) := by decide +kernel
theorem dX7_lockScenes_29 : decode cX7_lockScenes 29 = .ok (.invokevirtual 76, 3) := by decide +kernel
theorem dX7_lockScenes_32 : decode cX7_lockScenes 32 = .ok (.ifCond .eq 16, 3) := by decide +kernel
theorem dX7_lockScenes_35 : decode cX7_lockScenes 35 = .ok (.aload_n 0, 1) := by decide +kernel
theorem dX7_lockScenes_36 : decode cX7_lockScenes 36 = .ok (.iload_n 2, 1) := by decide +kernel
theorem dX7_lockScenes_37 : decode cX7_lockScenes 37 = .ok (.iconst 3, 1) := by decide +kernel
theorem dX7_lockScenes_38 : decode cX7_lockScenes 38 = .ok (.idiv, 1) := by decide +kernel
theorem dX7_lockScenes_39 : decode cX7_lockScenes 39 = .ok (.iload_n 2, 1) := by decide +kernel
theorem dX7_lockScenes_40 : decode cX7_lockScenes 40 = .ok (.iconst 3, 1) := by decide +kernel
theorem dX7_lockScenes_41 : decode cX7_lockScenes 41 = .ok (.irem, 1) := by decide +kernel
theorem dX7_lockScenes_42 : decode cX7_lockScenes 42 = .ok (.invokevirtual 91, 3) := by decide +kernel
theorem dX7_lockScenes_45 : decode cX7_lockScenes 45 = .ok (.goto 4, 3) := by decide +kernel
theorem dX7_lockScenes_48 : decode cX7_lockScenes 48 = .ok (.iconst 0, 1) := by decide +kernel
theorem dX7_lockScenes_49 : decode cX7_lockScenes 49 = .ok (.iastore, 1) := by decide +kernel
theorem dX7_lockScenes_50 : decode cX7_lockScenes 50 = .ok (.iinc 2 1, 3) := by decide +kernel
theorem dX7_lockScenes_53 : decode cX7_lockScenes 53 = .ok (.goto (-45), 3) := by decide +kernel
theorem dX7_lockScenes_56 : decode cX7_lockScenes 56 = .ok (.iconst 0, 1) := by decide +kernel
theorem dX7_lockScenes_57 : decode cX7_lockScenes 57 = .ok (.istore_n 2, 1) := by decide +kernel
theorem dX7_lockScenes_58 : decode cX7_lockScenes 58 = .ok (.iload_n 2, 1) := by decide +kernel
theorem dX7_lockScenes_59 : decode cX7_lockScenes 59 = .ok (.aload_n 0, 1) := by decide +kernel
theorem dX7_lockScenes_60 : decode cX7_lockScenes 60 = .ok (.getfield 7, 3) := by decide +kernel
theorem dX7_lockScenes_63 : decode cX7_lockScenes 63 = .ok (.iconst 1, 1) := by decide +kernel
theorem dX7_lockScenes_64 : decode cX7_lockScenes 64 = .ok (.iaload, 1) := by decide +kernel
theorem dX7_lockScenes_65 : decode cX7_lockScenes 65 = .ok (.if_icmp .ge 73, 3) := by decide +kernel
theorem dX7_lockScenes_68 : decode cX7_lockScenes 68 = .ok (.aload_n 0, 1) := by decide +kernel
theorem dX7_lockScenes_69 : decode cX7_lockScenes 69 = .ok (.iload_n 2, 1) := by decide +kernel
theorem dX7_lockScenes_70 : decode cX7_lockScenes 70 = .ok (.invokevirtual 76, 3) := by decide +kernel
theorem dX7_lockScenes_73 : decode cX7_lockScenes 73 = .ok (.ifCond .eq 59, 3) := by decide +kernel
theorem dX7_lockScenes_76 : decode cX7_lockScenes 76 = .ok (.iload_n 1, 1) := by decide +kernel
theorem dX7_lockScenes_77 : decode cX7_lockScenes 77 = .ok (.aload_n 0, 1) := by decide +kernel
theorem dX7_lockScenes_78 : decode cX7_lockScenes 78 = .ok (.iload_n 2, 1) := by decide +kernel
theorem dX7_lockScenes_79 : decode cX7_lockScenes 79 = .ok (.iconst 4, 1) := by decide +kernel
theorem dX7_lockScenes_80 : decode cX7_lockScenes 80 = .ok (.invokevirtual 62, 3) := by decide +kernel
theorem dX7_lockScenes_83 : decode cX7_lockScenes 83 = .ok (.iconst 1, 1) := by decide +kernel
theorem dX7_lockScenes_84 : decode cX7_lockScenes 84 = .ok (.if_icmp .ne 7, 3) := by decide +kernel
theorem dX7_lockScenes_87 : decode cX7_lockScenes 87 = .ok (.iconst 0, 1) := by decide +kernel
theorem dX7_lockScenes_88 : decode cX7_lockScenes 88 = .ok (.goto 4, 3) := by decide +kernel
theorem dX7_lockScenes_91 : decode cX7_lockScenes 91 = .ok (.iconst 1, 1) := by decide +kernel
theorem dX7_lockScenes_92 : decode cX7_lockScenes 92 = .ok (.iadd, 1) := by decide +kernel
theorem dX7_lockScenes_93 : decode cX7_lockScenes 93 = .ok (.istore_n 1, 1) := by decide +kernel
theorem dX7_lockScenes_94 : decode cX7_lockScenes 94 = .ok (.aload_n 0, 1) := by decide +kernel
theorem dX7_lockScenes_95 : decode cX7_lockScenes 95 = .ok (.iload_n 2, 1) := by decide +kernel
theorem dX7_lockScenes_96 : decode cX7_lockScenes 96 = .ok (.iconst 4, 1) := by decide +kernel
theorem dX7_lockScenes_97 : decode cX7_lockScenes 97 = .ok (.iconst 1, 1) := by decide +kernel
theorem dX7_lockScenes_98 : decode cX7_lockScenes 98 = .ok (.invokevirtual 125, 3) := by decide +kernel
theorem dX7_lockScenes_101 : decode cX7_lockScenes 101 = .ok (.iconst 0, 1) := by decide +kernel
theorem dX7_lockScenes_102 : decode cX7_lockScenes 102 = .ok (.istore_n 3, 1) := by decide +kernel
theorem dX7_lockScenes_103 : decode cX7_lockScenes 103 = .ok (.iload_n 3, 1) := by decide +kernel
theorem dX7_lockScenes_104 : decode cX7_lockScenes 104 = .ok (.iconst 3, 1) := by decide +kernel
theorem dX7_lockScenes_105 : decode cX7_lockScenes 105 = .ok (.if_icmp .ge 27, 3) := by decide +kernel
theorem dX7_lockScenes_108 : decode cX7_lockScenes 108 = .ok (.aload_n 0, 1) := by decide +kernel
theorem dX7_lockScenes_109 : decode cX7_lockScenes 109 = .ok (.iload_n 2, 1) := by decide +kernel
theorem dX7_lockScenes_110 : decode cX7_lockScenes 110 = .ok (.iconst 5, 1) := by decide +kernel
theorem dX7_lockScenes_111 : decode cX7_lockScenes 111 = .ok (.iload_n 3, 1) := by decide +kernel
theorem dX7_lockScenes_112 : decode cX7_lockScenes 112 = .ok (.iadd, 1) := by decide +kernel
theorem dX7_lockScenes_113 : decode cX7_lockScenes 113 = .ok (.aload_n 0, 1) := by decide +kernel
theorem dX7_lockScenes_114 : decode cX7_lockScenes 114 = .ok (.getfield 40, 3) := by decide +kernel
theorem dX7_lockScenes_117 : decode cX7_lockScenes 117 = .ok (.iconst 3, 1) := by decide +kernel
theorem dX7_lockScenes_118 : decode cX7_lockScenes 118 = .ok (.iload_n 2, 1) := by decide +kernel
theorem dX7_lockScenes_119 : decode cX7_lockScenes 119 = .ok (.imul, 1) := by decide +kernel
theorem dX7_lockScenes_120 : decode cX7_lockScenes 120 = .ok (.iload_n 3, 1) := by decide +kernel
theorem dX7_lockScenes_121 : decode cX7_lockScenes 121 = .ok (.iadd, 1) := by decide +kernel
theorem dX7_lockScenes_122 : decode cX7_lockScenes 122 = .ok (.iaload, 1) := by decide +kernel
theorem dX7_lockScenes_123 : decode cX7_lockScenes 123 = .ok (.invokevirtual 125, 3) := by decide +kernel
theorem dX7_lockScenes_126 : decode cX7_lockScenes 126 = .ok (.iinc 3 1, 3) := by decide +kernel
theorem dX7_lockScenes_129 : decode cX7_lockScenes 129 = .ok (.goto (-26), 3) := by decide +kernel
theorem dX7_lockScenes_132 : decode cX7_lockScenes 132 = .ok (.iinc 2 1, 3) := by decide +kernel
theorem dX7_lockScenes_135 : decode cX7_lockScenes 135 = .ok (.goto (-77), 3) := by decide +kernel
theorem dX7_lockScenes_138 : decode cX7_lockScenes 138 = .ok (.aload_n 0, 1) := by decide +kernel
theorem dX7_lockScenes_139 : decode cX7_lockScenes 139 = .ok (.iload_n 1, 1) := by decide +kernel
theorem dX7_lockScenes_140 : decode cX7_lockScenes 140 = .ok (.invokevirtual 146, 3) := by decide +kernel
theorem dX7_lockScenes_143 : decode cX7_lockScenes 143 = .ok (.ireturn, 1) := by decide +kernel
set_option maxRecDepth 20000 in
theorem ggX7_omit_X7_sceneMany : GoodIn wsX7_omit wsX7_sceneMany := goodIn_r _ [6, 1, 7, 8, 9, 5, 10, 11, 12, 13, 14, 57, 58, 59, 60, 61, 62, 63, 64, 65, 66, 67, 68, 69, 70, 71, 72, 73, 74, 75] (by decide +kernel) (by decide +kernel)
set_option maxRecDepth 20000 in
theorem gX7_omit_X7_sceneMany : GoodIn wsX7_omit (wsV RX7 158 RX7 yX7_sceneMany wsX7_sceneMany) := goodIn_app (goodIn_of _ (by decide +kernel)) ggX7_omit_X7_sceneMany
set_option maxRecDepth 20000 in
theorem ggX7_omit_X7_in : GoodIn wsX7_omit wsX7_in := goodIn_r _ [17] (by decide +kernel) (by decide +kernel)
set_option maxRecDepth 20000 in
theorem gX7_omit_X7_in : GoodIn wsX7_omit (va_wsS RX7 58 yX7_in wsX7_in) := goodIn_app (goodIn_of _ (by decide +kernel)) ggX7_omit_X7_in
set_option maxRecDepth 20000 in
theorem ggX7_omit_X7_fails : GoodIn wsX7_omit wsX7_fails := goodIn_r _ [21, 22, 57, 58, 59, 60, 61, 62, 63, 64, 65, 66, 67, 68, 69, 70, 71, 72, 73, 74, 75] (by decide +kernel) (by decide +kernel)
set_option maxRecDepth 20000 in
theorem gX7_omit_X7_fails : GoodIn wsX7_omit (wsV RX7 129 RX7 yX7_fails wsX7_fails) := goodIn_app (goodIn_of _ (by decide +kernel)) ggX7_omit_X7_fails
set_option maxRecDepth 20000 in
theorem ggX7_omit_X7_headingOf : GoodIn wsX7_omit wsX7_headingOf := goodIn_r _ [26, 1, 7, 8, 9, 5, 10, 11, 12, 13, 14, 57, 58, 59, 60, 61, 62, 63, 64, 65, 66, 67, 68, 69, 70, 71, 72, 73, 74, 75] (by decide +kernel) (by decide +kernel)
set_option maxRecDepth 20000 in
theorem gX7_omit_X7_headingOf : GoodIn wsX7_omit (wsV RX7 161 RX7 yX7_headingOf wsX7_headingOf) := goodIn_app (goodIn_of _ (by decide +kernel)) ggX7_omit_X7_headingOf
set_option maxRecDepth 20000 in
theorem ggX7_omit_X7_isLocked : GoodIn wsX7_omit wsX7_isLocked := goodIn_r _ [30, 7, 8, 9, 5, 10, 11, 12, 13, 14, 1, 57, 58, 59, 60, 61, 62, 63, 64, 65, 66, 67, 68, 69, 70, 71, 72, 73, 74, 75] (by decide +kernel) (by decide +kernel)
set_option maxRecDepth 20000 in
theorem gX7_omit_X7_isLocked : GoodIn wsX7_omit (wsV RX7 88 RX7 yX7_isLocked wsX7_isLocked) := goodIn_app (goodIn_of _ (by decide +kernel)) ggX7_omit_X7_isLocked
set_option maxRecDepth 20000 in
theorem ggX7_omit_X7_of : GoodIn wsX7_omit wsX7_of := goodIn_r _ [14, 1, 57, 58, 59, 60, 61, 62, 63, 64, 65, 66, 67, 68, 69, 70, 71, 72, 73, 74, 75] (by decide +kernel) (by decide +kernel)
set_option maxRecDepth 20000 in
theorem gX7_omit_X7_of : GoodIn wsX7_omit (wsV RX7 62 RX7 yX7_of wsX7_of) := goodIn_app (goodIn_of _ (by decide +kernel)) ggX7_omit_X7_of
set_option maxRecDepth 20000 in
theorem ggX7_omit_X7_hold : GoodIn wsX7_omit wsX7_hold := goodIn_r _ [34, 35, 1, 36, 37, 5, 38, 57, 58, 59, 60, 61, 62, 63, 64, 65, 66, 67, 68, 69, 70, 71, 72, 73, 74, 75] (by decide +kernel) (by decide +kernel)
set_option maxRecDepth 20000 in
theorem gX7_omit_X7_hold : GoodIn wsX7_omit (wsV RX7 135 RX7 yX7_hold wsX7_hold) := goodIn_app (goodIn_of _ (by decide +kernel)) ggX7_omit_X7_hold
set_option maxRecDepth 20000 in
theorem ggX7_omit_X7_isHeading : GoodIn wsX7_omit wsX7_isHeading := goodIn_r _ [10, 11, 12, 13, 5, 14, 1, 57, 58, 59, 60, 61, 62, 63, 64, 65, 66, 67, 68, 69, 70, 71, 72, 73, 74, 75] (by decide +kernel) (by decide +kernel)
set_option maxRecDepth 20000 in
theorem gX7_omit_X7_isHeading : GoodIn wsX7_omit (wsV RX7 76 RX7 yX7_isHeading wsX7_isHeading) := goodIn_app (goodIn_of _ (by decide +kernel)) ggX7_omit_X7_isHeading
set_option maxRecDepth 20000 in
theorem ggX7_omit_X7_goes : GoodIn wsX7_omit wsX7_goes := goodIn_r _ [42, 1, 11, 12, 13, 5, 14, 43, 44, 45, 46, 57, 58, 59, 60, 61, 62, 63, 64, 65, 66, 67, 68, 69, 70, 71, 72, 73, 74, 75] (by decide +kernel) (by decide +kernel)
set_option maxRecDepth 20000 in
theorem gX7_omit_X7_goes : GoodIn wsX7_omit (wsV RX7 152 RX7 yX7_goes wsX7_goes) := goodIn_app (goodIn_of _ (by decide +kernel)) ggX7_omit_X7_goes
set_option maxRecDepth 20000 in
theorem ggX7_omit_X7_puts : GoodIn wsX7_omit wsX7_puts := goodIn_r _ [46, 1, 57, 58, 59, 60, 61, 62, 63, 64, 65, 66, 67, 68, 69, 70, 71, 72, 73, 74, 75] (by decide +kernel) (by decide +kernel)
set_option maxRecDepth 20000 in
theorem gX7_omit_X7_puts : GoodIn wsX7_omit (wsV RX7 125 RX7 yX7_puts wsX7_puts) := goodIn_app (goodIn_of _ (by decide +kernel)) ggX7_omit_X7_puts
set_option maxRecDepth 20000 in
theorem ggX7_omit_X7_ends : GoodIn wsX7_omit wsX7_ends := goodIn_r _ [50, 51, 52, 35, 53, 54, 55, 5, 56, 22, 57, 58, 59, 60, 61, 62, 63, 64, 65, 66, 67, 68, 69, 70, 71, 72, 73, 74, 75] (by decide +kernel) (by decide +kernel)
set_option maxRecDepth 20000 in
theorem gX7_omit_X7_ends : GoodIn wsX7_omit (wsV RX7 146 RX7 yX7_ends wsX7_ends) := goodIn_app (goodIn_of _ (by decide +kernel)) ggX7_omit_X7_ends
theorem dX7_omit_0 : decode cX7_omit 0 = .ok (.iload_n 1, 1) := by decide +kernel
theorem dX7_omit_1 : decode cX7_omit 1 = .ok (.iconst 0, 1) := by decide +kernel
theorem dX7_omit_2 : decode cX7_omit 2 = .ok (.aload_n 0, 1) := by decide +kernel
theorem dX7_omit_3 : decode cX7_omit 3 = .ok (.invokevirtual 158, 3) := by decide +kernel
theorem dX7_omit_6 : decode cX7_omit 6 = .ok (.iconst 1, 1) := by decide +kernel
theorem dX7_omit_7 : decode cX7_omit 7 = .ok (.isub, 1) := by decide +kernel
theorem dX7_omit_8 : decode cX7_omit 8 = .ok (.invokestatic 58, 3) := by decide +kernel
theorem dX7_omit_11 : decode cX7_omit 11 = .ok (.ifCond .ne 9, 3) := by decide +kernel
theorem dX7_omit_14 : decode cX7_omit 14 = .ok (.aload_n 0, 1) := by decide +kernel
theorem dX7_omit_15 : decode cX7_omit 15 = .ok (.iconst 1, 1) := by decide +kernel
theorem dX7_omit_16 : decode cX7_omit 16 = .ok (.invokevirtual 129, 3) := by decide +kernel
theorem dX7_omit_19 : decode cX7_omit 19 = .ok (.ireturn, 1) := by decide +kernel
theorem dX7_omit_20 : decode cX7_omit 20 = .ok (.aload_n 0, 1) := by decide +kernel
theorem dX7_omit_21 : decode cX7_omit 21 = .ok (.iload_n 1, 1) := by decide +kernel
theorem dX7_omit_22 : decode cX7_omit 22 = .ok (.invokevirtual 161, 3) := by decide +kernel
theorem dX7_omit_25 : decode cX7_omit 25 = .ok (.istore_n 2, 1) := by decide +kernel
theorem dX7_omit_26 : decode cX7_omit 26 = .ok (.aload_n 0, 1) := by decide +kernel
theorem dX7_omit_27 : decode cX7_omit 27 = .ok (.iload_n 2, 1) := by decide +kernel
theorem dX7_omit_28 : decode cX7_omit 28 = .ok (.invokevirtual 88, 3) := by decide +kernel
theorem dX7_omit_31 : decode cX7_omit 31 = .ok (.ifCond .eq 13, 3) := by decide +kernel
theorem dX7_omit_34 : decode cX7_omit 34 = .ok (.aload_n 0, 1) := by decide +kernel
theorem dX7_omit_35 : decode cX7_omit 35 = .ok (.iload_n 2, 1) := by decide +kernel
theorem dX7_omit_36 : decode cX7_omit 36 = .ok (.iconst 3, 1) := by decide +kernel
theorem dX7_omit_37 : decode cX7_omit 37 = .ok (.invokevirtual 62, 3) := by decide +kernel
theorem dX7_omit_40 : decode cX7_omit 40 = .ok (.iconst 1, 1) := by decide +kernel
theorem dX7_omit_41 : decode cX7_omit 41 = .ok (.if_icmp .ne 9, 3) := by decide +kernel
theorem dX7_omit_44 : decode cX7_omit 44 = .ok (.aload_n 0, 1) := by decide +kernel
theorem dX7_omit_45 : decode cX7_omit 45 = .ok (.iconst 2, 1) := by decide +kernel
theorem dX7_omit_46 : decode cX7_omit 46 = .ok (.invokevirtual 129, 3) := by decide +kernel
theorem dX7_omit_49 : decode cX7_omit 49 = .ok (.ireturn, 1) := by decide +kernel
theorem dX7_omit_50 : decode cX7_omit 50 = .ok (.aload_n 0, 1) := by decide +kernel
theorem dX7_omit_51 : decode cX7_omit 51 = .ok (.invokevirtual 135, 3) := by decide +kernel
theorem dX7_omit_54 : decode cX7_omit 54 = .ok (.iconst 0, 1) := by decide +kernel
theorem dX7_omit_55 : decode cX7_omit 55 = .ok (.istore_n 3, 1) := by decide +kernel
theorem dX7_omit_56 : decode cX7_omit 56 = .ok (.iload_n 2, 1) := by decide +kernel
theorem dX7_omit_57 : decode cX7_omit 57 = .ok (.iconst 1, 1) := by decide +kernel
theorem dX7_omit_58 : decode cX7_omit 58 = .ok (.iadd, 1) := by decide +kernel
theorem dX7_omit_59 : decode cX7_omit 59 = .ok (.aload_n 0, 1) := by decide +kernel
theorem dX7_omit_60 : decode cX7_omit 60 = .ok (.getfield 7, 3) := by decide +kernel
theorem dX7_omit_63 : decode cX7_omit 63 = .ok (.iconst 1, 1) := by decide +kernel
theorem dX7_omit_64 : decode cX7_omit 64 = .ok (.iaload, 1) := by decide +kernel
theorem dX7_omit_65 : decode cX7_omit 65 = .ok (.if_icmp .ge 26, 3) := by decide +kernel
theorem dX7_omit_68 : decode cX7_omit 68 = .ok (.aload_n 0, 1) := by decide +kernel
theorem dX7_omit_69 : decode cX7_omit 69 = .ok (.iload_n 2, 1) := by decide +kernel
theorem dX7_omit_70 : decode cX7_omit 70 = .ok (.iconst 1, 1) := by decide +kernel
theorem dX7_omit_71 : decode cX7_omit 71 = .ok (.iadd, 1) := by decide +kernel
theorem dX7_omit_72 : decode cX7_omit 72 = .ok (.invokevirtual 76, 3) := by decide +kernel
theorem dX7_omit_75 : decode cX7_omit 75 = .ok (.ifCond .ne 16, 3) := by decide +kernel
theorem dX7_omit_78 : decode cX7_omit 78 = .ok (.aload_n 0, 1) := by decide +kernel
theorem dX7_omit_79 : decode cX7_omit 79 = .ok (.iload_n 2, 1) := by decide +kernel
theorem dX7_omit_80 : decode cX7_omit 80 = .ok (.iconst 1, 1) := by decide +kernel
theorem dX7_omit_81 : decode cX7_omit 81 = .ok (.iadd, 1) := by decide +kernel
theorem dX7_omit_82 : decode cX7_omit 82 = .ok (.invokevirtual 152, 3) := by decide +kernel
theorem dX7_omit_85 : decode cX7_omit 85 = .ok (.iinc 3 1, 3) := by decide +kernel
theorem dX7_omit_88 : decode cX7_omit 88 = .ok (.goto (-32), 3) := by decide +kernel
theorem dX7_omit_91 : decode cX7_omit 91 = .ok (.aload_n 0, 1) := by decide +kernel
theorem dX7_omit_92 : decode cX7_omit 92 = .ok (.iload_n 2, 1) := by decide +kernel
theorem dX7_omit_93 : decode cX7_omit 93 = .ok (.iconst 3, 1) := by decide +kernel
theorem dX7_omit_94 : decode cX7_omit 94 = .ok (.iconst 1, 1) := by decide +kernel
theorem dX7_omit_95 : decode cX7_omit 95 = .ok (.invokevirtual 125, 3) := by decide +kernel
theorem dX7_omit_98 : decode cX7_omit 98 = .ok (.aload_n 0, 1) := by decide +kernel
theorem dX7_omit_99 : decode cX7_omit 99 = .ok (.iload_n 3, 1) := by decide +kernel
theorem dX7_omit_100 : decode cX7_omit 100 = .ok (.invokevirtual 146, 3) := by decide +kernel
theorem dX7_omit_103 : decode cX7_omit 103 = .ok (.ireturn, 1) := by decide +kernel
set_option maxRecDepth 20000 in
theorem ggX7_lockPages_X7_hold : GoodIn wsX7_lockPages wsX7_hold := goodIn_r _ [8, 9, 1, 10, 11, 7, 12, 81, 82, 83, 84, 85, 86, 87, 88, 89, 90, 91, 92, 93, 94, 95, 96, 97, 98, 99] (by decide +kernel) (by decide +kernel)
set_option maxRecDepth 20000 in
theorem gX7_lockPages_X7_hold : GoodIn wsX7_lockPages (wsV RX7 135 RX7 yX7_hold wsX7_hold) := goodIn_app (goodIn_of _ (by decide +kernel)) ggX7_lockPages_X7_hold
set_option maxRecDepth 20000 in
theorem ggX7_lockPages_X7_setsAll : GoodIn wsX7_lockPages wsX7_setsAll := goodIn_r _ [16, 2, 17, 1, 18, 19, 20, 7, 21, 22, 3, 23, 24, 25, 26, 27, 28, 29, 30, 31, 32, 33, 34, 35, 36, 37, 38, 39, 40, 41, 42, 43, 44, 45, 46, 47, 48, 49, 50, 51, 52, 53, 54, 55, 56, 57, 58, 59, 60, 61, 62, 63, 64, 65, 81, 82, 83, 84, 85, 86, 87, 88, 89, 90, 91, 92, 93, 94, 95, 96, 97, 98, 99] (by decide +kernel) (by decide +kernel)
set_option maxRecDepth 20000 in
theorem gX7_lockPages_X7_setsAll : GoodIn wsX7_lockPages (wsV RX7 117 RX7 yX7_setsAll wsX7_setsAll) := goodIn_app (goodIn_of _ (by decide +kernel)) ggX7_lockPages_X7_setsAll
set_option maxRecDepth 20000 in
theorem ggX7_lockPages_X7_puts : GoodIn wsX7_lockPages wsX7_puts := goodIn_r _ [69, 1, 81, 82, 83, 84, 85, 86, 87, 88, 89, 90, 91, 92, 93, 94, 95, 96, 97, 98, 99] (by decide +kernel) (by decide +kernel)
set_option maxRecDepth 20000 in
theorem gX7_lockPages_X7_puts : GoodIn wsX7_lockPages (wsV RX7 125 RX7 yX7_puts wsX7_puts) := goodIn_app (goodIn_of _ (by decide +kernel)) ggX7_lockPages_X7_puts
set_option maxRecDepth 20000 in
theorem ggX7_lockPages_X7_ends : GoodIn wsX7_lockPages wsX7_ends := goodIn_r _ [73, 74, 75, 9, 76, 77, 78, 7, 79, 80, 81, 82, 83, 84, 85, 86, 87, 88, 89, 90, 91, 92, 93, 94, 95, 96, 97, 98, 99] (by decide +kernel) (by decide +kernel)
set_option maxRecDepth 20000 in
theorem gX7_lockPages_X7_ends : GoodIn wsX7_lockPages (wsV RX7 146 RX7 yX7_ends wsX7_ends) := goodIn_app (goodIn_of _ (by decide +kernel)) ggX7_lockPages_X7_ends
theorem dX7_lockPages_0 : decode cX7_lockPages 0 = .ok (.aload_n 0, 1) := by decide +kernel
theorem dX7_lockPages_1 : decode cX7_lockPages 1 = .ok (.invokevirtual 135, 3) := by decide +kernel
theorem dX7_lockPages_4 : decode cX7_lockPages 4 = .ok (.aload_n 0, 1) := by decide +kernel
theorem dX7_lockPages_5 : decode cX7_lockPages 5 = .ok (.aload_n 0, 1) := by decide +kernel
theorem dX7_lockPages_6 : decode cX7_lockPages 6 = .ok (.getfield 7, 3) := by decide +kernel
theorem dX7_lockPages_9 : decode cX7_lockPages 9 = .ok (.iconst 0, 1) := by decide +kernel
theorem dX7_lockPages_10 : decode cX7_lockPages 10 = .ok (.iaload, 1) := by decide +kernel
theorem dX7_lockPages_11 : decode cX7_lockPages 11 = .ok (.invokevirtual 117, 3) := by decide +kernel
theorem dX7_lockPages_14 : decode cX7_lockPages 14 = .ok (.iconst 0, 1) := by decide +kernel
theorem dX7_lockPages_15 : decode cX7_lockPages 15 = .ok (.istore_n 1, 1) := by decide +kernel
theorem dX7_lockPages_16 : decode cX7_lockPages 16 = .ok (.iload_n 1, 1) := by decide +kernel
theorem dX7_lockPages_17 : decode cX7_lockPages 17 = .ok (.aload_n 0, 1) := by decide +kernel
theorem dX7_lockPages_18 : decode cX7_lockPages 18 = .ok (.getfield 7, 3) := by decide +kernel
theorem dX7_lockPages_21 : decode cX7_lockPages 21 = .ok (.iconst 1, 1) := by decide +kernel
theorem dX7_lockPages_22 : decode cX7_lockPages 22 = .ok (.iaload, 1) := by decide +kernel
theorem dX7_lockPages_23 : decode cX7_lockPages 23 = .ok (.if_icmp .ge 17, 3) := by decide +kernel
theorem dX7_lockPages_26 : decode cX7_lockPages 26 = .ok (.aload_n 0, 1) := by decide +kernel
theorem dX7_lockPages_27 : decode cX7_lockPages 27 = .ok (.iload_n 1, 1) := by decide +kernel
theorem dX7_lockPages_28 : decode cX7_lockPages 28 = .ok (.bipush 8, 2) := by decide +kernel
theorem dX7_lockPages_30 : decode cX7_lockPages 30 = .ok (.iconst (-1), 1) := by decide +kernel
theorem dX7_lockPages_31 : decode cX7_lockPages 31 = .ok (.invokevirtual 125, 3) := by decide +kernel
theorem dX7_lockPages_34 : decode cX7_lockPages 34 = .ok (.iinc 1 1, 3) := by decide +kernel
theorem dX7_lockPages_37 : decode cX7_lockPages 37 = .ok (.goto (-21), 3) := by decide +kernel
theorem dX7_lockPages_40 : decode cX7_lockPages 40 = .ok (.iconst 0, 1) := by decide +kernel
theorem dX7_lockPages_41 : decode cX7_lockPages 41 = .ok (.istore_n 1, 1) := by decide +kernel
theorem dX7_lockPages_42 : decode cX7_lockPages 42 = .ok (.iconst 0, 1) := by decide +kernel
theorem dX7_lockPages_43 : decode cX7_lockPages 43 = .ok (.istore_n 2, 1) := by decide +kernel
theorem dX7_lockPages_44 : decode cX7_lockPages 44 = .ok (.iload_n 2, 1) := by decide +kernel
theorem dX7_lockPages_45 : decode cX7_lockPages 45 = .ok (.aload_n 0, 1) := by decide +kernel
theorem dX7_lockPages_46 : decode cX7_lockPages 46 = .ok (.getfield 101, 3) := by decide +kernel
theorem dX7_lockPages_49 : decode cX7_lockPages 49 = .ok (.if_icmp .ge 35, 3) := by decide +kernel
theorem dX7_lockPages_52 : decode cX7_lockPages 52 = .ok (.aload_n 0, 1) := by decide +kernel
theorem dX7_lockPages_53 : decode cX7_lockPages 53 = .ok (.getfield 34, 3) := by decide +kernel
theorem dX7_lockPages_56 : decode cX7_lockPages 56 = .ok (.iload_n 2, 1) := by decide +kernel
theorem dX7_lockPages_57 : decode cX7_lockPages 57 = .ok (.iaload, 1) := by decide +kernel
theorem dX7_lockPages_58 : decode cX7_lockPages 58 = .ok (.iconst (-1), 1) := by decide +kernel
theorem dX7_lockPages_59 : decode cX7_lockPages 59 = .ok (.if_icmp .eq 19, 3) := by decide +kernel
theorem dX7_lockPages_62 : decode cX7_lockPages 62 = .ok (.iinc 1 1, 3) := by decide +kernel
theorem dX7_lockPages_65 : decode cX7_lockPages 65 = .ok (.aload_n 0, 1) := by decide +kernel
theorem dX7_lockPages_66 : decode cX7_lockPages 66 = .ok (.aload_n 0, 1) := by decide +kernel
theorem dX7_lockPages_67 : decode cX7_lockPages 67 = .ok (.getfield 34, 3) := by decide +kernel
theorem dX7_lockPages_70 : decode cX7_lockPages 70 = .ok (.iload_n 2, 1) := by decide +kernel
theorem dX7_lockPages_71 : decode cX7_lockPages 71 = .ok (.iaload, 1) := by decide +kernel
theorem dX7_lockPages_72 : decode cX7_lockPages 72 = .ok (.bipush 8, 2) := by decide +kernel
theorem dX7_lockPages_74 : decode cX7_lockPages 74 = .ok (.iload_n 1, 1) := by decide +kernel
theorem dX7_lockPages_75 : decode cX7_lockPages 75 = .ok (.invokevirtual 125, 3) := by decide +kernel
theorem dX7_lockPages_78 : decode cX7_lockPages 78 = .ok (.iinc 2 1, 3) := by decide +kernel
theorem dX7_lockPages_81 : decode cX7_lockPages 81 = .ok (.goto (-37), 3) := by decide +kernel
theorem dX7_lockPages_84 : decode cX7_lockPages 84 = .ok (.aload_n 0, 1) := by decide +kernel
theorem dX7_lockPages_85 : decode cX7_lockPages 85 = .ok (.iload_n 1, 1) := by decide +kernel
theorem dX7_lockPages_86 : decode cX7_lockPages 86 = .ok (.invokevirtual 146, 3) := by decide +kernel
theorem dX7_lockPages_89 : decode cX7_lockPages 89 = .ok (.ireturn, 1) := by decide +kernel
set_option maxRecDepth 20000 in
theorem ggX7_lockedMany_X7_isLocked : GoodIn wsX7_lockedMany wsX7_isLocked := goodIn_r _ [6, 7, 8, 9, 5, 10, 11, 12, 13, 14, 1, 15, 16, 17, 18, 19, 20, 21, 22, 23, 24, 25, 26, 27, 28, 29, 30, 31, 32, 33] (by decide +kernel) (by decide +kernel)
set_option maxRecDepth 20000 in
theorem gX7_lockedMany_X7_isLocked : GoodIn wsX7_lockedMany (wsV RX7 88 RX7 yX7_isLocked wsX7_isLocked) := goodIn_app (goodIn_of _ (by decide +kernel)) ggX7_lockedMany_X7_isLocked
theorem dX7_lockedMany_0 : decode cX7_lockedMany 0 = .ok (.iconst 0, 1) := by decide +kernel
theorem dX7_lockedMany_1 : decode cX7_lockedMany 1 = .ok (.istore_n 1, 1) := by decide +kernel
theorem dX7_lockedMany_2 : decode cX7_lockedMany 2 = .ok (.iconst 0, 1) := by decide +kernel
theorem dX7_lockedMany_3 : decode cX7_lockedMany 3 = .ok (.istore_n 2, 1) := by decide +kernel
theorem dX7_lockedMany_4 : decode cX7_lockedMany 4 = .ok (.iload_n 2, 1) := by decide +kernel
theorem dX7_lockedMany_5 : decode cX7_lockedMany 5 = .ok (.aload_n 0, 1) := by decide +kernel
theorem dX7_lockedMany_6 : decode cX7_lockedMany 6 = .ok (.getfield 7, 3) := by decide +kernel
theorem dX7_lockedMany_9 : decode cX7_lockedMany 9 = .ok (.iconst 1, 1) := by decide +kernel
theorem dX7_lockedMany_10 : decode cX7_lockedMany 10 = .ok (.iaload, 1) := by decide +kernel
theorem dX7_lockedMany_11 : decode cX7_lockedMany 11 = .ok (.if_icmp .ge 25, 3) := by decide +kernel
theorem dX7_lockedMany_14 : decode cX7_lockedMany 14 = .ok (.iload_n 1, 1) := by decide +kernel
theorem dX7_lockedMany_15 : decode cX7_lockedMany 15 = .ok (.aload_n 0, 1) := by decide +kernel
theorem dX7_lockedMany_16 : decode cX7_lockedMany 16 = .ok (.iload_n 2, 1) := by decide +kernel
theorem dX7_lockedMany_17 : decode cX7_lockedMany 17 = .ok (.invokevirtual 88, 3) := by decide +kernel
theorem dX7_lockedMany_20 : decode cX7_lockedMany 20 = .ok (.ifCond .eq 7, 3) := by decide +kernel
theorem dX7_lockedMany_23 : decode cX7_lockedMany 23 = .ok (.iconst 1, 1) := by decide +kernel
theorem dX7_lockedMany_24 : decode cX7_lockedMany 24 = .ok (.goto 4, 3) := by decide +kernel
theorem dX7_lockedMany_27 : decode cX7_lockedMany 27 = .ok (.iconst 0, 1) := by decide +kernel
theorem dX7_lockedMany_28 : decode cX7_lockedMany 28 = .ok (.iadd, 1) := by decide +kernel
theorem dX7_lockedMany_29 : decode cX7_lockedMany 29 = .ok (.istore_n 1, 1) := by decide +kernel
theorem dX7_lockedMany_30 : decode cX7_lockedMany 30 = .ok (.iinc 2 1, 3) := by decide +kernel
theorem dX7_lockedMany_33 : decode cX7_lockedMany 33 = .ok (.goto (-29), 3) := by decide +kernel
theorem dX7_lockedMany_36 : decode cX7_lockedMany 36 = .ok (.iload_n 1, 1) := by decide +kernel
theorem dX7_lockedMany_37 : decode cX7_lockedMany 37 = .ok (.ireturn, 1) := by decide +kernel
set_option maxRecDepth 20000 in
theorem ggX7_namesOf_X7_of : GoodIn wsX7_namesOf wsX7_of := goodIn_r _ [6, 1, 19, 20, 21, 22, 23, 24, 25, 26, 27, 28, 29, 30, 31, 32, 33, 34, 35, 36, 37] (by decide +kernel) (by decide +kernel)
set_option maxRecDepth 20000 in
theorem gX7_namesOf_X7_of : GoodIn wsX7_namesOf (wsV RX7 62 RX7 yX7_of wsX7_of) := goodIn_app (goodIn_of _ (by decide +kernel)) ggX7_namesOf_X7_of
set_option maxRecDepth 20000 in
theorem ggX7_namesOf_X7_isCarried : GoodIn wsX7_namesOf wsX7_isCarried := goodIn_r _ [10, 2, 3, 4, 5, 6, 1, 11, 12, 13, 14, 15, 16, 17, 18, 19, 20, 21, 22, 23, 24, 25, 26, 27, 28, 29, 30, 31, 32, 33, 34, 35, 36, 37] (by decide +kernel) (by decide +kernel)
set_option maxRecDepth 20000 in
theorem gX7_namesOf_X7_isCarried : GoodIn wsX7_namesOf (wsV RX7 164 RX7 yX7_isCarried wsX7_isCarried) := goodIn_app (goodIn_of _ (by decide +kernel)) ggX7_namesOf_X7_isCarried
theorem dX7_namesOf_0 : decode cX7_namesOf 0 = .ok (.iconst 0, 1) := by decide +kernel
theorem dX7_namesOf_1 : decode cX7_namesOf 1 = .ok (.istore_n 3, 1) := by decide +kernel
theorem dX7_namesOf_2 : decode cX7_namesOf 2 = .ok (.iconst 0, 1) := by decide +kernel
theorem dX7_namesOf_3 : decode cX7_namesOf 3 = .ok (.istore 4, 2) := by decide +kernel
theorem dX7_namesOf_5 : decode cX7_namesOf 5 = .ok (.iload 4, 2) := by decide +kernel
theorem dX7_namesOf_7 : decode cX7_namesOf 7 = .ok (.aload_n 0, 1) := by decide +kernel
theorem dX7_namesOf_8 : decode cX7_namesOf 8 = .ok (.getfield 7, 3) := by decide +kernel
theorem dX7_namesOf_11 : decode cX7_namesOf 11 = .ok (.iconst 1, 1) := by decide +kernel
theorem dX7_namesOf_12 : decode cX7_namesOf 12 = .ok (.iaload, 1) := by decide +kernel
theorem dX7_namesOf_13 : decode cX7_namesOf 13 = .ok (.if_icmp .ge 69, 3) := by decide +kernel
theorem dX7_namesOf_16 : decode cX7_namesOf 16 = .ok (.aload_n 0, 1) := by decide +kernel
theorem dX7_namesOf_17 : decode cX7_namesOf 17 = .ok (.iload 4, 2) := by decide +kernel
theorem dX7_namesOf_19 : decode cX7_namesOf 19 = .ok (.iconst 0, 1) := by decide +kernel
theorem dX7_namesOf_20 : decode cX7_namesOf 20 = .ok (.invokevirtual 62, 3) := by decide +kernel
theorem dX7_namesOf_23 : decode cX7_namesOf 23 = .ok (.iconst 2, 1) := by decide +kernel
theorem dX7_namesOf_24 : decode cX7_namesOf 24 = .ok (.if_icmp .ne 23, 3) := by decide +kernel
theorem dX7_namesOf_27 : decode cX7_namesOf 27 = .ok (.iload_n 1, 1) := by decide +kernel
theorem dX7_namesOf_28 : decode cX7_namesOf 28 = .ok (.iconst (-1), 1) := by decide +kernel
theorem dX7_namesOf_29 : decode cX7_namesOf 29 = .ok (.if_icmp .eq 14, 3) := by decide +kernel
theorem dX7_namesOf_32 : decode cX7_namesOf 32 = .ok (.aload_n 0, 1) := by decide +kernel
theorem dX7_namesOf_33 : decode cX7_namesOf 33 = .ok (.iload 4, 2) := by decide +kernel
theorem dX7_namesOf_35 : decode cX7_namesOf 35 = .ok (.iconst 2, 1) := by decide +kernel
theorem dX7_namesOf_36 : decode cX7_namesOf 36 = .ok (.invokevirtual 62, 3) := by decide +kernel
theorem dX7_namesOf_39 : decode cX7_namesOf 39 = .ok (.iload_n 1, 1) := by decide +kernel
theorem dX7_namesOf_40 : decode cX7_namesOf 40 = .ok (.if_icmp .ne 7, 3) := by decide +kernel
theorem dX7_namesOf_43 : decode cX7_namesOf 43 = .ok (.iconst 1, 1) := by decide +kernel
theorem dX7_namesOf_44 : decode cX7_namesOf 44 = .ok (.goto 4, 3) := by decide +kernel
theorem dX7_namesOf_47 : decode cX7_namesOf 47 = .ok (.iconst 0, 1) := by decide +kernel
theorem dX7_namesOf_48 : decode cX7_namesOf 48 = .ok (.istore 5, 2) := by decide +kernel
theorem dX7_namesOf_50 : decode cX7_namesOf 50 = .ok (.iload_n 3, 1) := by decide +kernel
theorem dX7_namesOf_51 : decode cX7_namesOf 51 = .ok (.iload 5, 2) := by decide +kernel
theorem dX7_namesOf_53 : decode cX7_namesOf 53 = .ok (.ifCond .eq 20, 3) := by decide +kernel
theorem dX7_namesOf_56 : decode cX7_namesOf 56 = .ok (.iload_n 2, 1) := by decide +kernel
theorem dX7_namesOf_57 : decode cX7_namesOf 57 = .ok (.ifCond .eq 12, 3) := by decide +kernel
theorem dX7_namesOf_60 : decode cX7_namesOf 60 = .ok (.aload_n 0, 1) := by decide +kernel
theorem dX7_namesOf_61 : decode cX7_namesOf 61 = .ok (.iload 4, 2) := by decide +kernel
theorem dX7_namesOf_63 : decode cX7_namesOf 63 = .ok (.invokevirtual 164, 3) := by decide +kernel
theorem dX7_namesOf_66 : decode cX7_namesOf 66 = .ok (.ifCond .eq 7, 3) := by decide +kernel
theorem dX7_namesOf_69 : decode cX7_namesOf 69 = .ok (.iconst 1, 1) := by decide +kernel
theorem dX7_namesOf_70 : decode cX7_namesOf 70 = .ok (.goto 4, 3) := by decide +kernel
theorem dX7_namesOf_73 : decode cX7_namesOf 73 = .ok (.iconst 0, 1) := by decide +kernel
theorem dX7_namesOf_74 : decode cX7_namesOf 74 = .ok (.iadd, 1) := by decide +kernel
theorem dX7_namesOf_75 : decode cX7_namesOf 75 = .ok (.istore_n 3, 1) := by decide +kernel
theorem dX7_namesOf_76 : decode cX7_namesOf 76 = .ok (.iinc 4 1, 3) := by decide +kernel
theorem dX7_namesOf_79 : decode cX7_namesOf 79 = .ok (.goto (-74), 3) := by decide +kernel
theorem dX7_namesOf_82 : decode cX7_namesOf 82 = .ok (.iload_n 3, 1) := by decide +kernel
theorem dX7_namesOf_83 : decode cX7_namesOf 83 = .ok (.ireturn, 1) := by decide +kernel
set_option maxRecDepth 20000 in
theorem ggX7_valueOf_X7_sceneMany : GoodIn wsX7_valueOf wsX7_sceneMany := goodIn_r _ [8, 1, 9, 10, 11, 7, 12, 13, 14, 15, 16, 41, 42, 43, 44, 45, 46, 47, 48, 49, 50, 51, 52, 53, 54, 55, 56, 57, 58, 59] (by decide +kernel) (by decide +kernel)
set_option maxRecDepth 20000 in
theorem gX7_valueOf_X7_sceneMany : GoodIn wsX7_valueOf (wsV RX7 158 RX7 yX7_sceneMany wsX7_sceneMany) := goodIn_app (goodIn_of _ (by decide +kernel)) ggX7_valueOf_X7_sceneMany
set_option maxRecDepth 20000 in
theorem ggX7_valueOf_X7_lockedMany : GoodIn wsX7_valueOf wsX7_lockedMany := goodIn_r _ [20, 1, 21, 22, 23, 7, 24, 9, 10, 11, 12, 13, 14, 15, 16, 41, 42, 43, 44, 45, 46, 47, 48, 49, 50, 51, 52, 53, 54, 55, 56, 57, 58, 59] (by decide +kernel) (by decide +kernel)
set_option maxRecDepth 20000 in
theorem gX7_valueOf_X7_lockedMany : GoodIn wsX7_valueOf (wsV RX7 167 RX7 yX7_lockedMany wsX7_lockedMany) := goodIn_app (goodIn_of _ (by decide +kernel)) ggX7_valueOf_X7_lockedMany
set_option maxRecDepth 20000 in
theorem ggX7_valueOf_X7_marks : GoodIn wsX7_valueOf wsX7_marks := goodIn_r _ [28, 1, 13, 14, 15, 7, 16, 41, 42, 43, 44, 45, 46, 47, 48, 49, 50, 51, 52, 53, 54, 55, 56, 57, 58, 59] (by decide +kernel) (by decide +kernel)
set_option maxRecDepth 20000 in
theorem gX7_valueOf_X7_marks : GoodIn wsX7_valueOf (wsV RX7 121 RX7 yX7_marks wsX7_marks) := goodIn_app (goodIn_of _ (by decide +kernel)) ggX7_valueOf_X7_marks
set_option maxRecDepth 20000 in
theorem ggX7_valueOf_X7_namesOf : GoodIn wsX7_valueOf wsX7_namesOf := goodIn_r _ [32, 1, 13, 14, 15, 7, 16, 33, 34, 35, 36, 37, 38, 39, 40, 9, 10, 11, 12, 41, 42, 43, 44, 45, 46, 47, 48, 49, 50, 51, 52, 53, 54, 55, 56, 57, 58, 59] (by decide +kernel) (by decide +kernel)
set_option maxRecDepth 20000 in
theorem gX7_valueOf_X7_namesOf : GoodIn wsX7_valueOf (wsV RX7 170 RX7 yX7_namesOf wsX7_namesOf) := goodIn_app (goodIn_of _ (by decide +kernel)) ggX7_valueOf_X7_namesOf
theorem dX7_valueOf_0 : decode cX7_valueOf 0 = .ok (.iload_n 1, 1) := by decide +kernel
theorem dX7_valueOf_1 : decode cX7_valueOf 1 = .ok (.tableswitch 84 0 6 #[43, 50, 55, 60, 67, 72, 77], 43) := by decide +kernel
theorem dX7_valueOf_44 : decode cX7_valueOf 44 = .ok (.aload_n 0, 1) := by decide +kernel
theorem dX7_valueOf_45 : decode cX7_valueOf 45 = .ok (.getfield 7, 3) := by decide +kernel
theorem dX7_valueOf_48 : decode cX7_valueOf 48 = .ok (.iconst 1, 1) := by decide +kernel
theorem dX7_valueOf_49 : decode cX7_valueOf 49 = .ok (.iaload, 1) := by decide +kernel
theorem dX7_valueOf_50 : decode cX7_valueOf 50 = .ok (.ireturn, 1) := by decide +kernel
theorem dX7_valueOf_51 : decode cX7_valueOf 51 = .ok (.aload_n 0, 1) := by decide +kernel
theorem dX7_valueOf_52 : decode cX7_valueOf 52 = .ok (.invokevirtual 158, 3) := by decide +kernel
theorem dX7_valueOf_55 : decode cX7_valueOf 55 = .ok (.ireturn, 1) := by decide +kernel
theorem dX7_valueOf_56 : decode cX7_valueOf 56 = .ok (.aload_n 0, 1) := by decide +kernel
theorem dX7_valueOf_57 : decode cX7_valueOf 57 = .ok (.getfield 101, 3) := by decide +kernel
theorem dX7_valueOf_60 : decode cX7_valueOf 60 = .ok (.ireturn, 1) := by decide +kernel
theorem dX7_valueOf_61 : decode cX7_valueOf 61 = .ok (.aload_n 0, 1) := by decide +kernel
theorem dX7_valueOf_62 : decode cX7_valueOf 62 = .ok (.getfield 7, 3) := by decide +kernel
theorem dX7_valueOf_65 : decode cX7_valueOf 65 = .ok (.iconst 0, 1) := by decide +kernel
theorem dX7_valueOf_66 : decode cX7_valueOf 66 = .ok (.iaload, 1) := by decide +kernel
theorem dX7_valueOf_67 : decode cX7_valueOf 67 = .ok (.ireturn, 1) := by decide +kernel
theorem dX7_valueOf_68 : decode cX7_valueOf 68 = .ok (.aload_n 0, 1) := by decide +kernel
theorem dX7_valueOf_69 : decode cX7_valueOf 69 = .ok (.invokevirtual 167, 3) := by decide +kernel
theorem dX7_valueOf_72 : decode cX7_valueOf 72 = .ok (.ireturn, 1) := by decide +kernel
theorem dX7_valueOf_73 : decode cX7_valueOf 73 = .ok (.aload_n 0, 1) := by decide +kernel
theorem dX7_valueOf_74 : decode cX7_valueOf 74 = .ok (.invokevirtual 121, 3) := by decide +kernel
theorem dX7_valueOf_77 : decode cX7_valueOf 77 = .ok (.ireturn, 1) := by decide +kernel
theorem dX7_valueOf_78 : decode cX7_valueOf 78 = .ok (.aload_n 0, 1) := by decide +kernel
theorem dX7_valueOf_79 : decode cX7_valueOf 79 = .ok (.iconst (-1), 1) := by decide +kernel
theorem dX7_valueOf_80 : decode cX7_valueOf 80 = .ok (.iconst 1, 1) := by decide +kernel
theorem dX7_valueOf_81 : decode cX7_valueOf 81 = .ok (.invokevirtual 170, 3) := by decide +kernel
theorem dX7_valueOf_84 : decode cX7_valueOf 84 = .ok (.ireturn, 1) := by decide +kernel
theorem dX7_valueOf_85 : decode cX7_valueOf 85 = .ok (.aload_n 0, 1) := by decide +kernel
theorem dX7_valueOf_86 : decode cX7_valueOf 86 = .ok (.getfield 110, 3) := by decide +kernel
theorem dX7_valueOf_89 : decode cX7_valueOf 89 = .ok (.ireturn, 1) := by decide +kernel
set_option maxRecDepth 20000 in
theorem ggX7_value_X7_setsAll : GoodIn wsX7_value wsX7_setsAll := goodIn_r _ [6, 7, 8, 1, 9, 10, 11, 5, 12, 13, 14, 15, 16, 17, 18, 19, 20, 21, 22, 23, 24, 25, 26, 27, 28, 29, 30, 31, 32, 33, 34, 35, 36, 37, 38, 39, 40, 41, 42, 43, 44, 45, 46, 47, 48, 49, 50, 51, 52, 53, 54, 55, 56, 57, 102, 103, 104, 105, 106, 107, 108, 109, 110, 111, 112, 113, 114, 115, 116, 117, 118, 119, 120] (by decide +kernel) (by decide +kernel)
set_option maxRecDepth 20000 in
theorem gX7_value_X7_setsAll : GoodIn wsX7_value (wsV RX7 117 RX7 yX7_setsAll wsX7_setsAll) := goodIn_app (goodIn_of _ (by decide +kernel)) ggX7_value_X7_setsAll
set_option maxRecDepth 20000 in
theorem ggX7_value_X7_in : GoodIn wsX7_value wsX7_in := goodIn_r _ [60] (by decide +kernel) (by decide +kernel)
set_option maxRecDepth 20000 in
theorem gX7_value_X7_in : GoodIn wsX7_value (va_wsS RX7 58 yX7_in wsX7_in) := goodIn_app (goodIn_of _ (by decide +kernel)) ggX7_value_X7_in
set_option maxRecDepth 20000 in
theorem ggX7_value_X7_valueOf : GoodIn wsX7_value wsX7_valueOf := goodIn_r _ [64, 1, 7, 8, 65, 66, 67, 5, 68, 43, 44, 45, 46, 23, 24, 25, 26, 69, 70, 71, 72, 73, 74, 75, 76, 77, 78, 79, 80, 81, 82, 83, 84, 85, 86, 87, 88, 89, 90, 91, 92, 102, 103, 104, 105, 106, 107, 108, 109, 110, 111, 112, 113, 114, 115, 116, 117, 118, 119, 120] (by decide +kernel) (by decide +kernel)
set_option maxRecDepth 20000 in
theorem gX7_value_X7_valueOf : GoodIn wsX7_value (wsV RX7 174 RX7 yX7_valueOf wsX7_valueOf) := goodIn_app (goodIn_of _ (by decide +kernel)) ggX7_value_X7_valueOf
set_option maxRecDepth 20000 in
theorem ggX7_value_X7_tells : GoodIn wsX7_value wsX7_tells := goodIn_r _ [96, 97, 102, 103, 104, 105, 106, 107, 108, 109, 110, 111, 112, 113, 114, 115, 116, 117, 118, 119, 120] (by decide +kernel) (by decide +kernel)
set_option maxRecDepth 20000 in
theorem gX7_value_X7_tells : GoodIn wsX7_value (wsV RX7 54 RX7 yX7_tells wsX7_tells) := goodIn_app (goodIn_of _ (by decide +kernel)) ggX7_value_X7_tells
set_option maxRecDepth 20000 in
theorem ggX7_value_X7_fails : GoodIn wsX7_value wsX7_fails := goodIn_r _ [101, 97, 102, 103, 104, 105, 106, 107, 108, 109, 110, 111, 112, 113, 114, 115, 116, 117, 118, 119, 120] (by decide +kernel) (by decide +kernel)
set_option maxRecDepth 20000 in
theorem gX7_value_X7_fails : GoodIn wsX7_value (wsV RX7 129 RX7 yX7_fails wsX7_fails) := goodIn_app (goodIn_of _ (by decide +kernel)) ggX7_value_X7_fails
theorem dX7_value_0 : decode cX7_value 0 = .ok (.aload_n 0, 1) := by decide +kernel
theorem dX7_value_1 : decode cX7_value 1 = .ok (.aload_n 0, 1) := by decide +kernel
theorem dX7_value_2 : decode cX7_value 2 = .ok (.getfield 7, 3) := by decide +kernel
theorem dX7_value_5 : decode cX7_value 5 = .ok (.iconst 0, 1) := by decide +kernel
theorem dX7_value_6 : decode cX7_value 6 = .ok (.iaload, 1) := by decide +kernel
theorem dX7_value_7 : decode cX7_value 7 = .ok (.invokevirtual 117, 3) := by decide +kernel
theorem dX7_value_10 : decode cX7_value 10 = .ok (.iload_n 1, 1) := by decide +kernel
theorem dX7_value_11 : decode cX7_value 11 = .ok (.iconst 0, 1) := by decide +kernel
theorem dX7_value_12 : decode cX7_value 12 = .ok (.bipush 7, 2) := by decide +kernel
theorem dX7_value_14 : decode cX7_value 14 = .ok (.invokestatic 58, 3) := by decide +kernel
theorem dX7_value_17 : decode cX7_value 17 = .ok (.ifCond .eq 15, 3) := by decide +kernel
theorem dX7_value_20 : decode cX7_value 20 = .ok (.aload_n 0, 1) := by decide +kernel
theorem dX7_value_21 : decode cX7_value 21 = .ok (.aload_n 0, 1) := by decide +kernel
theorem dX7_value_22 : decode cX7_value 22 = .ok (.iload_n 1, 1) := by decide +kernel
theorem dX7_value_23 : decode cX7_value 23 = .ok (.invokevirtual 174, 3) := by decide +kernel
theorem dX7_value_26 : decode cX7_value 26 = .ok (.invokevirtual 54, 3) := by decide +kernel
theorem dX7_value_29 : decode cX7_value 29 = .ok (.goto 8, 3) := by decide +kernel
theorem dX7_value_32 : decode cX7_value 32 = .ok (.aload_n 0, 1) := by decide +kernel
theorem dX7_value_33 : decode cX7_value 33 = .ok (.iconst 1, 1) := by decide +kernel
theorem dX7_value_34 : decode cX7_value 34 = .ok (.invokevirtual 129, 3) := by decide +kernel
theorem dX7_value_37 : decode cX7_value 37 = .ok (.ireturn, 1) := by decide +kernel
set_option maxRecDepth 20000 in
theorem ggX7_elementOf_X7_lines : GoodIn wsX7_elementOf wsX7_lines := goodIn_r _ [8, 9, 10, 11, 7, 12, 13, 14, 15, 16, 29, 30, 31, 32, 33, 34, 35, 36, 37, 38, 39, 40, 41, 42, 43, 44, 45, 46, 47] (by decide +kernel) (by decide +kernel)
set_option maxRecDepth 20000 in
theorem gX7_elementOf_X7_lines : GoodIn wsX7_elementOf (wsV RX7 69 RX7 yX7_lines wsX7_lines) := goodIn_app (goodIn_of _ (by decide +kernel)) ggX7_elementOf_X7_lines
set_option maxRecDepth 20000 in
theorem ggX7_elementOf_X7_sceneOf : GoodIn wsX7_elementOf wsX7_sceneOf := goodIn_r _ [20, 21, 22, 23, 7, 24, 9, 10, 11, 12, 13, 29, 30, 31, 32, 33, 34, 35, 36, 37, 38, 39, 40, 41, 42, 43, 44, 45, 46, 47] (by decide +kernel) (by decide +kernel)
set_option maxRecDepth 20000 in
theorem gX7_elementOf_X7_sceneOf : GoodIn wsX7_elementOf (wsV RX7 98 RX7 yX7_sceneOf wsX7_sceneOf) := goodIn_app (goodIn_of _ (by decide +kernel)) ggX7_elementOf_X7_sceneOf
set_option maxRecDepth 20000 in
theorem ggX7_elementOf_X7_of : GoodIn wsX7_elementOf wsX7_of := goodIn_r _ [12, 13, 29, 30, 31, 32, 33, 34, 35, 36, 37, 38, 39, 40, 41, 42, 43, 44, 45, 46, 47] (by decide +kernel) (by decide +kernel)
set_option maxRecDepth 20000 in
theorem gX7_elementOf_X7_of : GoodIn wsX7_elementOf (wsV RX7 62 RX7 yX7_of wsX7_of) := goodIn_app (goodIn_of _ (by decide +kernel)) ggX7_elementOf_X7_of
set_option maxRecDepth 20000 in
theorem ggX7_elementOf_X7_isCarried : GoodIn wsX7_elementOf wsX7_isCarried := goodIn_r _ [28, 9, 10, 11, 7, 12, 13, 17, 18, 19, 20, 21, 22, 23, 24, 29, 30, 31, 32, 33, 34, 35, 36, 37, 38, 39, 40, 41, 42, 43, 44, 45, 46, 47] (by decide +kernel) (by decide +kernel)
set_option maxRecDepth 20000 in
theorem gX7_elementOf_X7_isCarried : GoodIn wsX7_elementOf (wsV RX7 164 RX7 yX7_isCarried wsX7_isCarried) := goodIn_app (goodIn_of _ (by decide +kernel)) ggX7_elementOf_X7_isCarried
theorem dX7_elementOf_0 : decode cX7_elementOf 0 = .ok (.iload_n 2, 1) := by decide +kernel
theorem dX7_elementOf_1 : decode cX7_elementOf 1 = .ok (.tableswitch 98 3 9 #[43, 49, 55, 63, 70, 77, 84], 43) := by decide +kernel
theorem dX7_elementOf_44 : decode cX7_elementOf 44 = .ok (.aload_n 0, 1) := by decide +kernel
theorem dX7_elementOf_45 : decode cX7_elementOf 45 = .ok (.iload_n 1, 1) := by decide +kernel
theorem dX7_elementOf_46 : decode cX7_elementOf 46 = .ok (.invokevirtual 69, 3) := by decide +kernel
theorem dX7_elementOf_49 : decode cX7_elementOf 49 = .ok (.ireturn, 1) := by decide +kernel
theorem dX7_elementOf_50 : decode cX7_elementOf 50 = .ok (.aload_n 0, 1) := by decide +kernel
theorem dX7_elementOf_51 : decode cX7_elementOf 51 = .ok (.iload_n 1, 1) := by decide +kernel
theorem dX7_elementOf_52 : decode cX7_elementOf 52 = .ok (.invokevirtual 98, 3) := by decide +kernel
theorem dX7_elementOf_55 : decode cX7_elementOf 55 = .ok (.ireturn, 1) := by decide +kernel
theorem dX7_elementOf_56 : decode cX7_elementOf 56 = .ok (.aload_n 0, 1) := by decide +kernel
theorem dX7_elementOf_57 : decode cX7_elementOf 57 = .ok (.iload_n 1, 1) := by decide +kernel
theorem dX7_elementOf_58 : decode cX7_elementOf 58 = .ok (.bipush 8, 2) := by decide +kernel
theorem dX7_elementOf_60 : decode cX7_elementOf 60 = .ok (.invokevirtual 62, 3) := by decide +kernel
theorem dX7_elementOf_63 : decode cX7_elementOf 63 = .ok (.ireturn, 1) := by decide +kernel
theorem dX7_elementOf_64 : decode cX7_elementOf 64 = .ok (.aload_n 0, 1) := by decide +kernel
theorem dX7_elementOf_65 : decode cX7_elementOf 65 = .ok (.getfield 22, 3) := by decide +kernel
theorem dX7_elementOf_68 : decode cX7_elementOf 68 = .ok (.iload_n 1, 1) := by decide +kernel
theorem dX7_elementOf_69 : decode cX7_elementOf 69 = .ok (.iaload, 1) := by decide +kernel
theorem dX7_elementOf_70 : decode cX7_elementOf 70 = .ok (.ireturn, 1) := by decide +kernel
theorem dX7_elementOf_71 : decode cX7_elementOf 71 = .ok (.aload_n 0, 1) := by decide +kernel
theorem dX7_elementOf_72 : decode cX7_elementOf 72 = .ok (.getfield 25, 3) := by decide +kernel
theorem dX7_elementOf_75 : decode cX7_elementOf 75 = .ok (.iload_n 1, 1) := by decide +kernel
theorem dX7_elementOf_76 : decode cX7_elementOf 76 = .ok (.iaload, 1) := by decide +kernel
theorem dX7_elementOf_77 : decode cX7_elementOf 77 = .ok (.ireturn, 1) := by decide +kernel
theorem dX7_elementOf_78 : decode cX7_elementOf 78 = .ok (.aload_n 0, 1) := by decide +kernel
theorem dX7_elementOf_79 : decode cX7_elementOf 79 = .ok (.getfield 28, 3) := by decide +kernel
theorem dX7_elementOf_82 : decode cX7_elementOf 82 = .ok (.iload_n 1, 1) := by decide +kernel
theorem dX7_elementOf_83 : decode cX7_elementOf 83 = .ok (.iaload, 1) := by decide +kernel
theorem dX7_elementOf_84 : decode cX7_elementOf 84 = .ok (.ireturn, 1) := by decide +kernel
theorem dX7_elementOf_85 : decode cX7_elementOf 85 = .ok (.aload_n 0, 1) := by decide +kernel
theorem dX7_elementOf_86 : decode cX7_elementOf 86 = .ok (.iload_n 1, 1) := by decide +kernel
theorem dX7_elementOf_87 : decode cX7_elementOf 87 = .ok (.invokevirtual 164, 3) := by decide +kernel
theorem dX7_elementOf_90 : decode cX7_elementOf 90 = .ok (.ifCond .eq 7, 3) := by decide +kernel
theorem dX7_elementOf_93 : decode cX7_elementOf 93 = .ok (.iconst 1, 1) := by decide +kernel
theorem dX7_elementOf_94 : decode cX7_elementOf 94 = .ok (.goto 4, 3) := by decide +kernel
theorem dX7_elementOf_97 : decode cX7_elementOf 97 = .ok (.iconst 0, 1) := by decide +kernel
theorem dX7_elementOf_98 : decode cX7_elementOf 98 = .ok (.ireturn, 1) := by decide +kernel
theorem dX7_elementOf_99 : decode cX7_elementOf 99 = .ok (.aload_n 0, 1) := by decide +kernel
theorem dX7_elementOf_100 : decode cX7_elementOf 100 = .ok (.iload_n 1, 1) := by decide +kernel
theorem dX7_elementOf_101 : decode cX7_elementOf 101 = .ok (.iload_n 2, 1) := by decide +kernel
theorem dX7_elementOf_102 : decode cX7_elementOf 102 = .ok (.invokevirtual 62, 3) := by decide +kernel
theorem dX7_elementOf_105 : decode cX7_elementOf 105 = .ok (.ireturn, 1) := by decide +kernel
set_option maxRecDepth 20000 in
theorem ggX7_element_X7_isElement : GoodIn wsX7_element wsX7_isElement := goodIn_r _ [6, 1, 7, 8, 5, 9, 86, 87, 88, 89, 90, 91, 92, 93, 94, 95, 96, 97, 98, 99, 100, 101, 102, 103, 104] (by decide +kernel) (by decide +kernel)
set_option maxRecDepth 20000 in
theorem gX7_element_X7_isElement : GoodIn wsX7_element (wsV RX7 149 RX7 yX7_isElement wsX7_isElement) := goodIn_app (goodIn_of _ (by decide +kernel)) ggX7_element_X7_isElement
set_option maxRecDepth 20000 in
theorem ggX7_element_X7_fails : GoodIn wsX7_element wsX7_fails := goodIn_r _ [13, 14, 86, 87, 88, 89, 90, 91, 92, 93, 94, 95, 96, 97, 98, 99, 100, 101, 102, 103, 104] (by decide +kernel) (by decide +kernel)
set_option maxRecDepth 20000 in
theorem gX7_element_X7_fails : GoodIn wsX7_element (wsV RX7 129 RX7 yX7_fails wsX7_fails) := goodIn_app (goodIn_of _ (by decide +kernel)) ggX7_element_X7_fails
set_option maxRecDepth 20000 in
theorem ggX7_element_X7_setsAll : GoodIn wsX7_element wsX7_setsAll := goodIn_r _ [18, 19, 20, 1, 21, 22, 23, 5, 24, 25, 26, 27, 28, 29, 30, 31, 32, 33, 34, 35, 36, 37, 38, 39, 40, 41, 42, 43, 44, 45, 46, 47, 48, 49, 50, 51, 52, 53, 54, 55, 56, 57, 58, 59, 60, 61, 62, 63, 64, 65, 66, 67, 68, 69, 86, 87, 88, 89, 90, 91, 92, 93, 94, 95, 96, 97, 98, 99, 100, 101, 102, 103, 104] (by decide +kernel) (by decide +kernel)
set_option maxRecDepth 20000 in
theorem gX7_element_X7_setsAll : GoodIn wsX7_element (wsV RX7 117 RX7 yX7_setsAll wsX7_setsAll) := goodIn_app (goodIn_of _ (by decide +kernel)) ggX7_element_X7_setsAll
set_option maxRecDepth 20000 in
theorem ggX7_element_X7_in : GoodIn wsX7_element wsX7_in := goodIn_r _ [9] (by decide +kernel) (by decide +kernel)
set_option maxRecDepth 20000 in
theorem gX7_element_X7_in : GoodIn wsX7_element (va_wsS RX7 58 yX7_in wsX7_in) := goodIn_app (goodIn_of _ (by decide +kernel)) ggX7_element_X7_in
set_option maxRecDepth 20000 in
theorem ggX7_element_X7_elementOf : GoodIn wsX7_element wsX7_elementOf := goodIn_r _ [73, 32, 33, 34, 59, 60, 61, 5, 62, 35, 36, 37, 38, 1, 63, 64, 65, 74, 75, 76, 77, 55, 56, 57, 58, 78, 79, 80, 81, 86, 87, 88, 89, 90, 91, 92, 93, 94, 95, 96, 97, 98, 99, 100, 101, 102, 103, 104] (by decide +kernel) (by decide +kernel)
set_option maxRecDepth 20000 in
theorem gX7_element_X7_elementOf : GoodIn wsX7_element (wsV RX7 177 RX7 yX7_elementOf wsX7_elementOf) := goodIn_app (goodIn_of _ (by decide +kernel)) ggX7_element_X7_elementOf
set_option maxRecDepth 20000 in
theorem ggX7_element_X7_tells : GoodIn wsX7_element wsX7_tells := goodIn_r _ [85, 14, 86, 87, 88, 89, 90, 91, 92, 93, 94, 95, 96, 97, 98, 99, 100, 101, 102, 103, 104] (by decide +kernel) (by decide +kernel)
set_option maxRecDepth 20000 in
theorem gX7_element_X7_tells : GoodIn wsX7_element (wsV RX7 54 RX7 yX7_tells wsX7_tells) := goodIn_app (goodIn_of _ (by decide +kernel)) ggX7_element_X7_tells
theorem dX7_element_0 : decode cX7_element 0 = .ok (.aload_n 0, 1) := by decide +kernel
theorem dX7_element_1 : decode cX7_element 1 = .ok (.iload_n 1, 1) := by decide +kernel
theorem dX7_element_2 : decode cX7_element 2 = .ok (.invokevirtual 149, 3) := by decide +kernel
theorem dX7_element_5 : decode cX7_element 5 = .ok (.ifCond .ne 9, 3) := by decide +kernel
theorem dX7_element_8 : decode cX7_element 8 = .ok (.aload_n 0, 1) := by decide +kernel
theorem dX7_element_9 : decode cX7_element 9 = .ok (.iconst 1, 1) := by decide +kernel
theorem dX7_element_10 : decode cX7_element 10 = .ok (.invokevirtual 129, 3) := by decide +kernel
theorem dX7_element_13 : decode cX7_element 13 = .ok (.ireturn, 1) := by decide +kernel
theorem dX7_element_14 : decode cX7_element 14 = .ok (.aload_n 0, 1) := by decide +kernel
theorem dX7_element_15 : decode cX7_element 15 = .ok (.aload_n 0, 1) := by decide +kernel
theorem dX7_element_16 : decode cX7_element 16 = .ok (.getfield 7, 3) := by decide +kernel
theorem dX7_element_19 : decode cX7_element 19 = .ok (.iconst 0, 1) := by decide +kernel
theorem dX7_element_20 : decode cX7_element 20 = .ok (.iaload, 1) := by decide +kernel
theorem dX7_element_21 : decode cX7_element 21 = .ok (.invokevirtual 117, 3) := by decide +kernel
theorem dX7_element_24 : decode cX7_element 24 = .ok (.iload_n 2, 1) := by decide +kernel
theorem dX7_element_25 : decode cX7_element 25 = .ok (.iconst 0, 1) := by decide +kernel
theorem dX7_element_26 : decode cX7_element 26 = .ok (.bipush 9, 2) := by decide +kernel
theorem dX7_element_28 : decode cX7_element 28 = .ok (.invokestatic 58, 3) := by decide +kernel
theorem dX7_element_31 : decode cX7_element 31 = .ok (.ifCond .eq 16, 3) := by decide +kernel
theorem dX7_element_34 : decode cX7_element 34 = .ok (.aload_n 0, 1) := by decide +kernel
theorem dX7_element_35 : decode cX7_element 35 = .ok (.aload_n 0, 1) := by decide +kernel
theorem dX7_element_36 : decode cX7_element 36 = .ok (.iload_n 1, 1) := by decide +kernel
theorem dX7_element_37 : decode cX7_element 37 = .ok (.iload_n 2, 1) := by decide +kernel
theorem dX7_element_38 : decode cX7_element 38 = .ok (.invokevirtual 177, 3) := by decide +kernel
theorem dX7_element_41 : decode cX7_element 41 = .ok (.invokevirtual 54, 3) := by decide +kernel
theorem dX7_element_44 : decode cX7_element 44 = .ok (.goto 8, 3) := by decide +kernel
theorem dX7_element_47 : decode cX7_element 47 = .ok (.aload_n 0, 1) := by decide +kernel
theorem dX7_element_48 : decode cX7_element 48 = .ok (.iconst 2, 1) := by decide +kernel
theorem dX7_element_49 : decode cX7_element 49 = .ok (.invokevirtual 129, 3) := by decide +kernel
theorem dX7_element_52 : decode cX7_element 52 = .ok (.ireturn, 1) := by decide +kernel
set_option maxRecDepth 20000 in
theorem ggX7_sceneTold_X7_headingOf : GoodIn wsX7_sceneTold wsX7_headingOf := goodIn_r _ [7, 1, 8, 9, 10, 6, 11, 12, 13, 14, 15, 31, 32, 33, 34, 35, 36, 37, 38, 39, 40, 41, 42, 43, 44, 45, 46, 47, 48, 49] (by decide +kernel) (by decide +kernel)
set_option maxRecDepth 20000 in
theorem gX7_sceneTold_X7_headingOf : GoodIn wsX7_sceneTold (wsV RX7 161 RX7 yX7_headingOf wsX7_headingOf) := goodIn_app (goodIn_of _ (by decide +kernel)) ggX7_sceneTold_X7_headingOf
set_option maxRecDepth 20000 in
theorem ggX7_sceneTold_X7_lines : GoodIn wsX7_sceneTold wsX7_lines := goodIn_r _ [19, 12, 13, 14, 6, 15, 1, 20, 21, 22, 31, 32, 33, 34, 35, 36, 37, 38, 39, 40, 41, 42, 43, 44, 45, 46, 47, 48, 49] (by decide +kernel) (by decide +kernel)
set_option maxRecDepth 20000 in
theorem gX7_sceneTold_X7_lines : GoodIn wsX7_sceneTold (wsV RX7 69 RX7 yX7_lines wsX7_lines) := goodIn_app (goodIn_of _ (by decide +kernel)) ggX7_sceneTold_X7_lines
set_option maxRecDepth 20000 in
theorem ggX7_sceneTold_X7_of : GoodIn wsX7_sceneTold wsX7_of := goodIn_r _ [15, 1, 31, 32, 33, 34, 35, 36, 37, 38, 39, 40, 41, 42, 43, 44, 45, 46, 47, 48, 49] (by decide +kernel) (by decide +kernel)
set_option maxRecDepth 20000 in
theorem gX7_sceneTold_X7_of : GoodIn wsX7_sceneTold (wsV RX7 62 RX7 yX7_of wsX7_of) := goodIn_app (goodIn_of _ (by decide +kernel)) ggX7_sceneTold_X7_of
set_option maxRecDepth 20000 in
theorem ggX7_sceneTold_X7_label : GoodIn wsX7_sceneTold wsX7_label := goodIn_r _ [26, 1, 27, 28, 29, 6, 30, 8, 9, 10, 11, 12, 13, 14, 15, 31, 32, 33, 34, 35, 36, 37, 38, 39, 40, 41, 42, 43, 44, 45, 46, 47, 48, 49] (by decide +kernel) (by decide +kernel)
set_option maxRecDepth 20000 in
theorem gX7_sceneTold_X7_label : GoodIn wsX7_sceneTold (wsV RX7 91 RX7 yX7_label wsX7_label) := goodIn_app (goodIn_of _ (by decide +kernel)) ggX7_sceneTold_X7_label
theorem dX7_sceneTold_0 : decode cX7_sceneTold 0 = .ok (.aload_n 0, 1) := by decide +kernel
theorem dX7_sceneTold_1 : decode cX7_sceneTold 1 = .ok (.iload_n 1, 1) := by decide +kernel
theorem dX7_sceneTold_2 : decode cX7_sceneTold 2 = .ok (.invokevirtual 161, 3) := by decide +kernel
theorem dX7_sceneTold_5 : decode cX7_sceneTold 5 = .ok (.istore_n 3, 1) := by decide +kernel
theorem dX7_sceneTold_6 : decode cX7_sceneTold 6 = .ok (.aload_n 0, 1) := by decide +kernel
theorem dX7_sceneTold_7 : decode cX7_sceneTold 7 = .ok (.iload_n 1, 1) := by decide +kernel
theorem dX7_sceneTold_8 : decode cX7_sceneTold 8 = .ok (.iconst 1, 1) := by decide +kernel
theorem dX7_sceneTold_9 : decode cX7_sceneTold 9 = .ok (.iadd, 1) := by decide +kernel
theorem dX7_sceneTold_10 : decode cX7_sceneTold 10 = .ok (.invokevirtual 161, 3) := by decide +kernel
theorem dX7_sceneTold_13 : decode cX7_sceneTold 13 = .ok (.istore 4, 2) := by decide +kernel
theorem dX7_sceneTold_15 : decode cX7_sceneTold 15 = .ok (.iconst 0, 1) := by decide +kernel
theorem dX7_sceneTold_16 : decode cX7_sceneTold 16 = .ok (.istore 5, 2) := by decide +kernel
theorem dX7_sceneTold_18 : decode cX7_sceneTold 18 = .ok (.iload_n 3, 1) := by decide +kernel
theorem dX7_sceneTold_19 : decode cX7_sceneTold 19 = .ok (.istore 6, 2) := by decide +kernel
theorem dX7_sceneTold_21 : decode cX7_sceneTold 21 = .ok (.iload 6, 2) := by decide +kernel
theorem dX7_sceneTold_23 : decode cX7_sceneTold 23 = .ok (.iload 4, 2) := by decide +kernel
theorem dX7_sceneTold_25 : decode cX7_sceneTold 25 = .ok (.if_icmp .ge 20, 3) := by decide +kernel
theorem dX7_sceneTold_28 : decode cX7_sceneTold 28 = .ok (.iload 5, 2) := by decide +kernel
theorem dX7_sceneTold_30 : decode cX7_sceneTold 30 = .ok (.aload_n 0, 1) := by decide +kernel
theorem dX7_sceneTold_31 : decode cX7_sceneTold 31 = .ok (.iload 6, 2) := by decide +kernel
theorem dX7_sceneTold_33 : decode cX7_sceneTold 33 = .ok (.invokevirtual 69, 3) := by decide +kernel
theorem dX7_sceneTold_36 : decode cX7_sceneTold 36 = .ok (.iadd, 1) := by decide +kernel
theorem dX7_sceneTold_37 : decode cX7_sceneTold 37 = .ok (.istore 5, 2) := by decide +kernel
theorem dX7_sceneTold_39 : decode cX7_sceneTold 39 = .ok (.iinc 6 1, 3) := by decide +kernel
theorem dX7_sceneTold_42 : decode cX7_sceneTold 42 = .ok (.goto (-21), 3) := by decide +kernel
theorem dX7_sceneTold_45 : decode cX7_sceneTold 45 = .ok (.iload_n 2, 1) := by decide +kernel
theorem dX7_sceneTold_46 : decode cX7_sceneTold 46 = .ok (.tableswitch 95 3 9 #[42, 49, 56, 58, 63, 66, 88], 42) := by decide +kernel
theorem dX7_sceneTold_88 : decode cX7_sceneTold 88 = .ok (.aload_n 0, 1) := by decide +kernel
theorem dX7_sceneTold_89 : decode cX7_sceneTold 89 = .ok (.iload_n 3, 1) := by decide +kernel
theorem dX7_sceneTold_90 : decode cX7_sceneTold 90 = .ok (.iconst 4, 1) := by decide +kernel
theorem dX7_sceneTold_91 : decode cX7_sceneTold 91 = .ok (.invokevirtual 62, 3) := by decide +kernel
theorem dX7_sceneTold_94 : decode cX7_sceneTold 94 = .ok (.ireturn, 1) := by decide +kernel
theorem dX7_sceneTold_95 : decode cX7_sceneTold 95 = .ok (.aload_n 0, 1) := by decide +kernel
theorem dX7_sceneTold_96 : decode cX7_sceneTold 96 = .ok (.iload_n 3, 1) := by decide +kernel
theorem dX7_sceneTold_97 : decode cX7_sceneTold 97 = .ok (.iconst 3, 1) := by decide +kernel
theorem dX7_sceneTold_98 : decode cX7_sceneTold 98 = .ok (.invokevirtual 62, 3) := by decide +kernel
theorem dX7_sceneTold_101 : decode cX7_sceneTold 101 = .ok (.ireturn, 1) := by decide +kernel
theorem dX7_sceneTold_102 : decode cX7_sceneTold 102 = .ok (.iload_n 3, 1) := by decide +kernel
theorem dX7_sceneTold_103 : decode cX7_sceneTold 103 = .ok (.ireturn, 1) := by decide +kernel
theorem dX7_sceneTold_104 : decode cX7_sceneTold 104 = .ok (.iload 4, 2) := by decide +kernel
theorem dX7_sceneTold_106 : decode cX7_sceneTold 106 = .ok (.iload_n 3, 1) := by decide +kernel
theorem dX7_sceneTold_107 : decode cX7_sceneTold 107 = .ok (.isub, 1) := by decide +kernel
theorem dX7_sceneTold_108 : decode cX7_sceneTold 108 = .ok (.ireturn, 1) := by decide +kernel
theorem dX7_sceneTold_109 : decode cX7_sceneTold 109 = .ok (.iload 5, 2) := by decide +kernel
theorem dX7_sceneTold_111 : decode cX7_sceneTold 111 = .ok (.ireturn, 1) := by decide +kernel
theorem dX7_sceneTold_112 : decode cX7_sceneTold 112 = .ok (.iload 5, 2) := by decide +kernel
theorem dX7_sceneTold_114 : decode cX7_sceneTold 114 = .ok (.bipush 8, 2) := by decide +kernel
theorem dX7_sceneTold_116 : decode cX7_sceneTold 116 = .ok (.imul, 1) := by decide +kernel
theorem dX7_sceneTold_117 : decode cX7_sceneTold 117 = .ok (.aload_n 0, 1) := by decide +kernel
theorem dX7_sceneTold_118 : decode cX7_sceneTold 118 = .ok (.getfield 7, 3) := by decide +kernel
theorem dX7_sceneTold_121 : decode cX7_sceneTold 121 = .ok (.iconst 0, 1) := by decide +kernel
theorem dX7_sceneTold_122 : decode cX7_sceneTold 122 = .ok (.iaload, 1) := by decide +kernel
theorem dX7_sceneTold_123 : decode cX7_sceneTold 123 = .ok (.iadd, 1) := by decide +kernel
theorem dX7_sceneTold_124 : decode cX7_sceneTold 124 = .ok (.iconst 1, 1) := by decide +kernel
theorem dX7_sceneTold_125 : decode cX7_sceneTold 125 = .ok (.isub, 1) := by decide +kernel
theorem dX7_sceneTold_126 : decode cX7_sceneTold 126 = .ok (.aload_n 0, 1) := by decide +kernel
theorem dX7_sceneTold_127 : decode cX7_sceneTold 127 = .ok (.getfield 7, 3) := by decide +kernel
theorem dX7_sceneTold_130 : decode cX7_sceneTold 130 = .ok (.iconst 0, 1) := by decide +kernel
theorem dX7_sceneTold_131 : decode cX7_sceneTold 131 = .ok (.iaload, 1) := by decide +kernel
theorem dX7_sceneTold_132 : decode cX7_sceneTold 132 = .ok (.idiv, 1) := by decide +kernel
theorem dX7_sceneTold_133 : decode cX7_sceneTold 133 = .ok (.ireturn, 1) := by decide +kernel
theorem dX7_sceneTold_134 : decode cX7_sceneTold 134 = .ok (.aload_n 0, 1) := by decide +kernel
theorem dX7_sceneTold_135 : decode cX7_sceneTold 135 = .ok (.getfield 22, 3) := by decide +kernel
theorem dX7_sceneTold_138 : decode cX7_sceneTold 138 = .ok (.iload_n 3, 1) := by decide +kernel
theorem dX7_sceneTold_139 : decode cX7_sceneTold 139 = .ok (.iaload, 1) := by decide +kernel
theorem dX7_sceneTold_140 : decode cX7_sceneTold 140 = .ok (.ireturn, 1) := by decide +kernel
theorem dX7_sceneTold_141 : decode cX7_sceneTold 141 = .ok (.aload_n 0, 1) := by decide +kernel
theorem dX7_sceneTold_142 : decode cX7_sceneTold 142 = .ok (.iload_n 3, 1) := by decide +kernel
theorem dX7_sceneTold_143 : decode cX7_sceneTold 143 = .ok (.iload_n 2, 1) := by decide +kernel
theorem dX7_sceneTold_144 : decode cX7_sceneTold 144 = .ok (.invokevirtual 91, 3) := by decide +kernel
theorem dX7_sceneTold_147 : decode cX7_sceneTold 147 = .ok (.ireturn, 1) := by decide +kernel
set_option maxRecDepth 20000 in
theorem ggX7_scene_X7_sceneMany : GoodIn wsX7_scene wsX7_sceneMany := goodIn_r _ [6, 1, 7, 8, 9, 5, 10, 11, 12, 13, 14, 90, 91, 92, 93, 94, 95, 96, 97, 98, 99, 100, 101, 102, 103, 104, 105, 106, 107, 108] (by decide +kernel) (by decide +kernel)
set_option maxRecDepth 20000 in
theorem gX7_scene_X7_sceneMany : GoodIn wsX7_scene (wsV RX7 158 RX7 yX7_sceneMany wsX7_sceneMany) := goodIn_app (goodIn_of _ (by decide +kernel)) ggX7_scene_X7_sceneMany
set_option maxRecDepth 20000 in
theorem ggX7_scene_X7_in : GoodIn wsX7_scene wsX7_in := goodIn_r _ [17] (by decide +kernel) (by decide +kernel)
set_option maxRecDepth 20000 in
theorem gX7_scene_X7_in : GoodIn wsX7_scene (va_wsS RX7 58 yX7_in wsX7_in) := goodIn_app (goodIn_of _ (by decide +kernel)) ggX7_scene_X7_in
set_option maxRecDepth 20000 in
theorem ggX7_scene_X7_fails : GoodIn wsX7_scene wsX7_fails := goodIn_r _ [21, 22, 90, 91, 92, 93, 94, 95, 96, 97, 98, 99, 100, 101, 102, 103, 104, 105, 106, 107, 108] (by decide +kernel) (by decide +kernel)
set_option maxRecDepth 20000 in
theorem gX7_scene_X7_fails : GoodIn wsX7_scene (wsV RX7 129 RX7 yX7_fails wsX7_fails) := goodIn_app (goodIn_of _ (by decide +kernel)) ggX7_scene_X7_fails
set_option maxRecDepth 20000 in
theorem ggX7_scene_X7_setsAll : GoodIn wsX7_scene wsX7_setsAll := goodIn_r _ [26, 27, 28, 1, 29, 30, 31, 5, 32, 33, 34, 35, 36, 37, 38, 39, 40, 41, 42, 11, 12, 13, 14, 43, 44, 45, 46, 47, 48, 49, 50, 51, 52, 53, 54, 55, 56, 57, 58, 7, 8, 9, 10, 59, 60, 61, 62, 63, 64, 65, 66, 67, 68, 69, 90, 91, 92, 93, 94, 95, 96, 97, 98, 99, 100, 101, 102, 103, 104, 105, 106, 107, 108] (by decide +kernel) (by decide +kernel)
set_option maxRecDepth 20000 in
theorem gX7_scene_X7_setsAll : GoodIn wsX7_scene (wsV RX7 117 RX7 yX7_setsAll wsX7_setsAll) := goodIn_app (goodIn_of _ (by decide +kernel)) ggX7_scene_X7_setsAll
set_option maxRecDepth 20000 in
theorem ggX7_scene_X7_sceneTold : GoodIn wsX7_scene wsX7_sceneTold := goodIn_r _ [73, 1, 40, 74, 75, 76, 5, 77, 7, 8, 9, 10, 11, 12, 13, 14, 59, 60, 61, 62, 63, 64, 65, 78, 79, 80, 81, 82, 83, 84, 85, 90, 91, 92, 93, 94, 95, 96, 97, 98, 99, 100, 101, 102, 103, 104, 105, 106, 107, 108] (by decide +kernel) (by decide +kernel)
set_option maxRecDepth 20000 in
theorem gX7_scene_X7_sceneTold : GoodIn wsX7_scene (wsV RX7 180 RX7 yX7_sceneTold wsX7_sceneTold) := goodIn_app (goodIn_of _ (by decide +kernel)) ggX7_scene_X7_sceneTold
set_option maxRecDepth 20000 in
theorem ggX7_scene_X7_tells : GoodIn wsX7_scene wsX7_tells := goodIn_r _ [89, 22, 90, 91, 92, 93, 94, 95, 96, 97, 98, 99, 100, 101, 102, 103, 104, 105, 106, 107, 108] (by decide +kernel) (by decide +kernel)
set_option maxRecDepth 20000 in
theorem gX7_scene_X7_tells : GoodIn wsX7_scene (wsV RX7 54 RX7 yX7_tells wsX7_tells) := goodIn_app (goodIn_of _ (by decide +kernel)) ggX7_scene_X7_tells
theorem dX7_scene_0 : decode cX7_scene 0 = .ok (.iload_n 1, 1) := by decide +kernel
theorem dX7_scene_1 : decode cX7_scene 1 = .ok (.iconst 0, 1) := by decide +kernel
theorem dX7_scene_2 : decode cX7_scene 2 = .ok (.aload_n 0, 1) := by decide +kernel
theorem dX7_scene_3 : decode cX7_scene 3 = .ok (.invokevirtual 158, 3) := by decide +kernel
theorem dX7_scene_6 : decode cX7_scene 6 = .ok (.iconst 1, 1) := by decide +kernel
theorem dX7_scene_7 : decode cX7_scene 7 = .ok (.isub, 1) := by decide +kernel
theorem dX7_scene_8 : decode cX7_scene 8 = .ok (.invokestatic 58, 3) := by decide +kernel
theorem dX7_scene_11 : decode cX7_scene 11 = .ok (.ifCond .ne 9, 3) := by decide +kernel
theorem dX7_scene_14 : decode cX7_scene 14 = .ok (.aload_n 0, 1) := by decide +kernel
theorem dX7_scene_15 : decode cX7_scene 15 = .ok (.iconst 1, 1) := by decide +kernel
theorem dX7_scene_16 : decode cX7_scene 16 = .ok (.invokevirtual 129, 3) := by decide +kernel
theorem dX7_scene_19 : decode cX7_scene 19 = .ok (.ireturn, 1) := by decide +kernel
theorem dX7_scene_20 : decode cX7_scene 20 = .ok (.aload_n 0, 1) := by decide +kernel
theorem dX7_scene_21 : decode cX7_scene 21 = .ok (.aload_n 0, 1) := by decide +kernel
theorem dX7_scene_22 : decode cX7_scene 22 = .ok (.getfield 7, 3) := by decide +kernel
theorem dX7_scene_25 : decode cX7_scene 25 = .ok (.iconst 0, 1) := by decide +kernel
theorem dX7_scene_26 : decode cX7_scene 26 = .ok (.iaload, 1) := by decide +kernel
theorem dX7_scene_27 : decode cX7_scene 27 = .ok (.invokevirtual 117, 3) := by decide +kernel
theorem dX7_scene_30 : decode cX7_scene 30 = .ok (.iload_n 2, 1) := by decide +kernel
theorem dX7_scene_31 : decode cX7_scene 31 = .ok (.iconst 0, 1) := by decide +kernel
theorem dX7_scene_32 : decode cX7_scene 32 = .ok (.bipush 9, 2) := by decide +kernel
theorem dX7_scene_34 : decode cX7_scene 34 = .ok (.invokestatic 58, 3) := by decide +kernel
theorem dX7_scene_37 : decode cX7_scene 37 = .ok (.ifCond .eq 16, 3) := by decide +kernel
theorem dX7_scene_40 : decode cX7_scene 40 = .ok (.aload_n 0, 1) := by decide +kernel
theorem dX7_scene_41 : decode cX7_scene 41 = .ok (.aload_n 0, 1) := by decide +kernel
theorem dX7_scene_42 : decode cX7_scene 42 = .ok (.iload_n 1, 1) := by decide +kernel
theorem dX7_scene_43 : decode cX7_scene 43 = .ok (.iload_n 2, 1) := by decide +kernel
theorem dX7_scene_44 : decode cX7_scene 44 = .ok (.invokevirtual 180, 3) := by decide +kernel
theorem dX7_scene_47 : decode cX7_scene 47 = .ok (.invokevirtual 54, 3) := by decide +kernel
theorem dX7_scene_50 : decode cX7_scene 50 = .ok (.goto 8, 3) := by decide +kernel
theorem dX7_scene_53 : decode cX7_scene 53 = .ok (.aload_n 0, 1) := by decide +kernel
theorem dX7_scene_54 : decode cX7_scene 54 = .ok (.iconst 2, 1) := by decide +kernel
theorem dX7_scene_55 : decode cX7_scene 55 = .ok (.invokevirtual 129, 3) := by decide +kernel
theorem dX7_scene_58 : decode cX7_scene 58 = .ok (.ireturn, 1) := by decide +kernel
set_option maxRecDepth 20000 in
theorem ggX7_pageTold_X7_pageLabel : GoodIn wsX7_pageTold wsX7_pageLabel := goodIn_r _ [8, 2, 9, 10, 11, 7, 12, 13, 14, 15, 16, 17, 18, 19, 20, 21, 22, 23, 24, 25, 26, 27, 28, 29, 30, 31, 32, 33, 34, 35, 36] (by decide +kernel) (by decide +kernel)
set_option maxRecDepth 20000 in
theorem gX7_pageTold_X7_pageLabel : GoodIn wsX7_pageTold (wsV RX7 183 RX7 yX7_pageLabel wsX7_pageLabel) := goodIn_app (goodIn_of _ (by decide +kernel)) ggX7_pageTold_X7_pageLabel
theorem dX7_pageTold_0 : decode cX7_pageTold 0 = .ok (.iload_n 2, 1) := by decide +kernel
theorem dX7_pageTold_1 : decode cX7_pageTold 1 = .ok (.tableswitch 48 2 4 #[27, 34, 41], 27) := by decide +kernel
theorem dX7_pageTold_28 : decode cX7_pageTold 28 = .ok (.aload_n 0, 1) := by decide +kernel
theorem dX7_pageTold_29 : decode cX7_pageTold 29 = .ok (.getfield 31, 3) := by decide +kernel
theorem dX7_pageTold_32 : decode cX7_pageTold 32 = .ok (.iload_n 1, 1) := by decide +kernel
theorem dX7_pageTold_33 : decode cX7_pageTold 33 = .ok (.iaload, 1) := by decide +kernel
theorem dX7_pageTold_34 : decode cX7_pageTold 34 = .ok (.ireturn, 1) := by decide +kernel
theorem dX7_pageTold_35 : decode cX7_pageTold 35 = .ok (.aload_n 0, 1) := by decide +kernel
theorem dX7_pageTold_36 : decode cX7_pageTold 36 = .ok (.getfield 34, 3) := by decide +kernel
theorem dX7_pageTold_39 : decode cX7_pageTold 39 = .ok (.iload_n 1, 1) := by decide +kernel
theorem dX7_pageTold_40 : decode cX7_pageTold 40 = .ok (.iaload, 1) := by decide +kernel
theorem dX7_pageTold_41 : decode cX7_pageTold 41 = .ok (.ireturn, 1) := by decide +kernel
theorem dX7_pageTold_42 : decode cX7_pageTold 42 = .ok (.aload_n 0, 1) := by decide +kernel
theorem dX7_pageTold_43 : decode cX7_pageTold 43 = .ok (.getfield 37, 3) := by decide +kernel
theorem dX7_pageTold_46 : decode cX7_pageTold 46 = .ok (.iload_n 1, 1) := by decide +kernel
theorem dX7_pageTold_47 : decode cX7_pageTold 47 = .ok (.iaload, 1) := by decide +kernel
theorem dX7_pageTold_48 : decode cX7_pageTold 48 = .ok (.ireturn, 1) := by decide +kernel
theorem dX7_pageTold_49 : decode cX7_pageTold 49 = .ok (.aload_n 0, 1) := by decide +kernel
theorem dX7_pageTold_50 : decode cX7_pageTold 50 = .ok (.iload_n 1, 1) := by decide +kernel
theorem dX7_pageTold_51 : decode cX7_pageTold 51 = .ok (.iload_n 2, 1) := by decide +kernel
theorem dX7_pageTold_52 : decode cX7_pageTold 52 = .ok (.invokevirtual 183, 3) := by decide +kernel
theorem dX7_pageTold_55 : decode cX7_pageTold 55 = .ok (.ireturn, 1) := by decide +kernel
set_option maxRecDepth 20000 in
theorem ggX7_page_X7_setsAll : GoodIn wsX7_page wsX7_setsAll := goodIn_r _ [7, 2, 8, 1, 9, 10, 11, 6, 12, 13, 14, 15, 16, 17, 18, 19, 20, 21, 22, 23, 24, 25, 26, 27, 28, 29, 30, 31, 32, 33, 34, 35, 36, 37, 38, 39, 40, 41, 42, 43, 44, 45, 46, 47, 48, 49, 50, 51, 52, 53, 54, 55, 56, 57, 82, 83, 84, 85, 86, 87, 88, 89, 90, 91, 92, 93, 94, 95, 96, 97, 98, 99, 100] (by decide +kernel) (by decide +kernel)
set_option maxRecDepth 20000 in
theorem gX7_page_X7_setsAll : GoodIn wsX7_page (wsV RX7 117 RX7 yX7_setsAll wsX7_setsAll) := goodIn_app (goodIn_of _ (by decide +kernel)) ggX7_page_X7_setsAll
set_option maxRecDepth 20000 in
theorem ggX7_page_X7_in : GoodIn wsX7_page wsX7_in := goodIn_r _ [60] (by decide +kernel) (by decide +kernel)
set_option maxRecDepth 20000 in
theorem gX7_page_X7_in : GoodIn wsX7_page (va_wsS RX7 58 yX7_in wsX7_in) := goodIn_app (goodIn_of _ (by decide +kernel)) ggX7_page_X7_in
set_option maxRecDepth 20000 in
theorem ggX7_page_X7_fails : GoodIn wsX7_page wsX7_fails := goodIn_r _ [64, 65, 82, 83, 84, 85, 86, 87, 88, 89, 90, 91, 92, 93, 94, 95, 96, 97, 98, 99, 100] (by decide +kernel) (by decide +kernel)
set_option maxRecDepth 20000 in
theorem gX7_page_X7_fails : GoodIn wsX7_page (wsV RX7 129 RX7 yX7_fails wsX7_fails) := goodIn_app (goodIn_of _ (by decide +kernel)) ggX7_page_X7_fails
set_option maxRecDepth 20000 in
theorem ggX7_page_X7_pageTold : GoodIn wsX7_page wsX7_pageTold := goodIn_r _ [69, 13, 14, 15, 70, 71, 72, 6, 73, 74, 75, 76, 77, 1, 23, 24, 25, 26, 82, 83, 84, 85, 86, 87, 88, 89, 90, 91, 92, 93, 94, 95, 96, 97, 98, 99, 100] (by decide +kernel) (by decide +kernel)
set_option maxRecDepth 20000 in
theorem gX7_page_X7_pageTold : GoodIn wsX7_page (wsV RX7 186 RX7 yX7_pageTold wsX7_pageTold) := goodIn_app (goodIn_of _ (by decide +kernel)) ggX7_page_X7_pageTold
set_option maxRecDepth 20000 in
theorem ggX7_page_X7_tells : GoodIn wsX7_page wsX7_tells := goodIn_r _ [81, 65, 82, 83, 84, 85, 86, 87, 88, 89, 90, 91, 92, 93, 94, 95, 96, 97, 98, 99, 100] (by decide +kernel) (by decide +kernel)
set_option maxRecDepth 20000 in
theorem gX7_page_X7_tells : GoodIn wsX7_page (wsV RX7 54 RX7 yX7_tells wsX7_tells) := goodIn_app (goodIn_of _ (by decide +kernel)) ggX7_page_X7_tells
theorem dX7_page_0 : decode cX7_page 0 = .ok (.aload_n 0, 1) := by decide +kernel
theorem dX7_page_1 : decode cX7_page 1 = .ok (.aload_n 0, 1) := by decide +kernel
theorem dX7_page_2 : decode cX7_page 2 = .ok (.getfield 7, 3) := by decide +kernel
theorem dX7_page_5 : decode cX7_page 5 = .ok (.iconst 0, 1) := by decide +kernel
theorem dX7_page_6 : decode cX7_page 6 = .ok (.iaload, 1) := by decide +kernel
theorem dX7_page_7 : decode cX7_page 7 = .ok (.invokevirtual 117, 3) := by decide +kernel
theorem dX7_page_10 : decode cX7_page 10 = .ok (.iload_n 1, 1) := by decide +kernel
theorem dX7_page_11 : decode cX7_page 11 = .ok (.iconst 0, 1) := by decide +kernel
theorem dX7_page_12 : decode cX7_page 12 = .ok (.aload_n 0, 1) := by decide +kernel
theorem dX7_page_13 : decode cX7_page 13 = .ok (.getfield 101, 3) := by decide +kernel
theorem dX7_page_16 : decode cX7_page 16 = .ok (.iconst 1, 1) := by decide +kernel
theorem dX7_page_17 : decode cX7_page 17 = .ok (.isub, 1) := by decide +kernel
theorem dX7_page_18 : decode cX7_page 18 = .ok (.invokestatic 58, 3) := by decide +kernel
theorem dX7_page_21 : decode cX7_page 21 = .ok (.ifCond .ne 9, 3) := by decide +kernel
theorem dX7_page_24 : decode cX7_page 24 = .ok (.aload_n 0, 1) := by decide +kernel
theorem dX7_page_25 : decode cX7_page 25 = .ok (.iconst 1, 1) := by decide +kernel
theorem dX7_page_26 : decode cX7_page 26 = .ok (.invokevirtual 129, 3) := by decide +kernel
theorem dX7_page_29 : decode cX7_page 29 = .ok (.ireturn, 1) := by decide +kernel
theorem dX7_page_30 : decode cX7_page 30 = .ok (.iload_n 2, 1) := by decide +kernel
theorem dX7_page_31 : decode cX7_page 31 = .ok (.iconst 0, 1) := by decide +kernel
theorem dX7_page_32 : decode cX7_page 32 = .ok (.iconst 4, 1) := by decide +kernel
theorem dX7_page_33 : decode cX7_page 33 = .ok (.invokestatic 58, 3) := by decide +kernel
theorem dX7_page_36 : decode cX7_page 36 = .ok (.ifCond .eq 16, 3) := by decide +kernel
theorem dX7_page_39 : decode cX7_page 39 = .ok (.aload_n 0, 1) := by decide +kernel
theorem dX7_page_40 : decode cX7_page 40 = .ok (.aload_n 0, 1) := by decide +kernel
theorem dX7_page_41 : decode cX7_page 41 = .ok (.iload_n 1, 1) := by decide +kernel
theorem dX7_page_42 : decode cX7_page 42 = .ok (.iload_n 2, 1) := by decide +kernel
theorem dX7_page_43 : decode cX7_page 43 = .ok (.invokevirtual 186, 3) := by decide +kernel
theorem dX7_page_46 : decode cX7_page 46 = .ok (.invokevirtual 54, 3) := by decide +kernel
theorem dX7_page_49 : decode cX7_page 49 = .ok (.goto 8, 3) := by decide +kernel
theorem dX7_page_52 : decode cX7_page 52 = .ok (.aload_n 0, 1) := by decide +kernel
theorem dX7_page_53 : decode cX7_page 53 = .ok (.iconst 2, 1) := by decide +kernel
theorem dX7_page_54 : decode cX7_page 54 = .ok (.invokevirtual 129, 3) := by decide +kernel
theorem dX7_page_57 : decode cX7_page 57 = .ok (.ireturn, 1) := by decide +kernel
set_option maxRecDepth 20000 in
theorem ggX7_find_X7_sceneMany : GoodIn wsX7_find wsX7_sceneMany := goodIn_r _ [5, 6, 7, 8, 9, 4, 10, 11, 12, 13, 14, 32, 33, 34, 35, 36, 37, 38, 39, 40, 41, 42, 43, 44, 45, 46, 47, 48, 49, 50] (by decide +kernel) (by decide +kernel)
set_option maxRecDepth 20000 in
theorem gX7_find_X7_sceneMany : GoodIn wsX7_find (wsV RX7 158 RX7 yX7_sceneMany wsX7_sceneMany) := goodIn_app (goodIn_of _ (by decide +kernel)) ggX7_find_X7_sceneMany
set_option maxRecDepth 20000 in
theorem ggX7_find_X7_headingOf : GoodIn wsX7_find wsX7_headingOf := goodIn_r _ [18, 6, 7, 8, 9, 4, 10, 11, 12, 13, 14, 32, 33, 34, 35, 36, 37, 38, 39, 40, 41, 42, 43, 44, 45, 46, 47, 48, 49, 50] (by decide +kernel) (by decide +kernel)
set_option maxRecDepth 20000 in
theorem gX7_find_X7_headingOf : GoodIn wsX7_find (wsV RX7 161 RX7 yX7_headingOf wsX7_headingOf) := goodIn_app (goodIn_of _ (by decide +kernel)) ggX7_find_X7_headingOf
set_option maxRecDepth 20000 in
theorem ggX7_find_X7_label : GoodIn wsX7_find wsX7_label := goodIn_r _ [22, 6, 23, 24, 25, 4, 26, 7, 8, 9, 10, 11, 12, 13, 14, 32, 33, 34, 35, 36, 37, 38, 39, 40, 41, 42, 43, 44, 45, 46, 47, 48, 49, 50] (by decide +kernel) (by decide +kernel)
set_option maxRecDepth 20000 in
theorem gX7_find_X7_label : GoodIn wsX7_find (wsV RX7 91 RX7 yX7_label wsX7_label) := goodIn_app (goodIn_of _ (by decide +kernel)) ggX7_find_X7_label
set_option maxRecDepth 20000 in
theorem ggX7_find_X7_tells : GoodIn wsX7_find wsX7_tells := goodIn_r _ [30, 31, 32, 33, 34, 35, 36, 37, 38, 39, 40, 41, 42, 43, 44, 45, 46, 47, 48, 49, 50] (by decide +kernel) (by decide +kernel)
set_option maxRecDepth 20000 in
theorem gX7_find_X7_tells : GoodIn wsX7_find (wsV RX7 54 RX7 yX7_tells wsX7_tells) := goodIn_app (goodIn_of _ (by decide +kernel)) ggX7_find_X7_tells
theorem dX7_find_0 : decode cX7_find 0 = .ok (.aload_n 0, 1) := by decide +kernel
theorem dX7_find_1 : decode cX7_find 1 = .ok (.invokevirtual 158, 3) := by decide +kernel
theorem dX7_find_4 : decode cX7_find 4 = .ok (.istore 4, 2) := by decide +kernel
theorem dX7_find_6 : decode cX7_find 6 = .ok (.iconst 0, 1) := by decide +kernel
theorem dX7_find_7 : decode cX7_find 7 = .ok (.istore 5, 2) := by decide +kernel
theorem dX7_find_9 : decode cX7_find 9 = .ok (.iload 5, 2) := by decide +kernel
theorem dX7_find_11 : decode cX7_find 11 = .ok (.iload 4, 2) := by decide +kernel
theorem dX7_find_13 : decode cX7_find 13 = .ok (.if_icmp .ge 57, 3) := by decide +kernel
theorem dX7_find_16 : decode cX7_find 16 = .ok (.aload_n 0, 1) := by decide +kernel
theorem dX7_find_17 : decode cX7_find 17 = .ok (.iload 5, 2) := by decide +kernel
theorem dX7_find_19 : decode cX7_find 19 = .ok (.invokevirtual 161, 3) := by decide +kernel
theorem dX7_find_22 : decode cX7_find 22 = .ok (.istore 6, 2) := by decide +kernel
theorem dX7_find_24 : decode cX7_find 24 = .ok (.aload_n 0, 1) := by decide +kernel
theorem dX7_find_25 : decode cX7_find 25 = .ok (.iload 6, 2) := by decide +kernel
theorem dX7_find_27 : decode cX7_find 27 = .ok (.iconst 0, 1) := by decide +kernel
theorem dX7_find_28 : decode cX7_find 28 = .ok (.invokevirtual 91, 3) := by decide +kernel
theorem dX7_find_31 : decode cX7_find 31 = .ok (.iload_n 1, 1) := by decide +kernel
theorem dX7_find_32 : decode cX7_find 32 = .ok (.if_icmp .ne 32, 3) := by decide +kernel
theorem dX7_find_35 : decode cX7_find 35 = .ok (.aload_n 0, 1) := by decide +kernel
theorem dX7_find_36 : decode cX7_find 36 = .ok (.iload 6, 2) := by decide +kernel
theorem dX7_find_38 : decode cX7_find 38 = .ok (.iconst 1, 1) := by decide +kernel
theorem dX7_find_39 : decode cX7_find 39 = .ok (.invokevirtual 91, 3) := by decide +kernel
theorem dX7_find_42 : decode cX7_find 42 = .ok (.iload_n 2, 1) := by decide +kernel
theorem dX7_find_43 : decode cX7_find 43 = .ok (.if_icmp .ne 21, 3) := by decide +kernel
theorem dX7_find_46 : decode cX7_find 46 = .ok (.aload_n 0, 1) := by decide +kernel
theorem dX7_find_47 : decode cX7_find 47 = .ok (.iload 6, 2) := by decide +kernel
theorem dX7_find_49 : decode cX7_find 49 = .ok (.iconst 2, 1) := by decide +kernel
theorem dX7_find_50 : decode cX7_find 50 = .ok (.invokevirtual 91, 3) := by decide +kernel
theorem dX7_find_53 : decode cX7_find 53 = .ok (.iload_n 3, 1) := by decide +kernel
theorem dX7_find_54 : decode cX7_find 54 = .ok (.if_icmp .ne 10, 3) := by decide +kernel
theorem dX7_find_57 : decode cX7_find 57 = .ok (.aload_n 0, 1) := by decide +kernel
theorem dX7_find_58 : decode cX7_find 58 = .ok (.iload 5, 2) := by decide +kernel
theorem dX7_find_60 : decode cX7_find 60 = .ok (.invokevirtual 54, 3) := by decide +kernel
theorem dX7_find_63 : decode cX7_find 63 = .ok (.ireturn, 1) := by decide +kernel
theorem dX7_find_64 : decode cX7_find 64 = .ok (.iinc 5 1, 3) := by decide +kernel
theorem dX7_find_67 : decode cX7_find 67 = .ok (.goto (-58), 3) := by decide +kernel
theorem dX7_find_70 : decode cX7_find 70 = .ok (.aload_n 0, 1) := by decide +kernel
theorem dX7_find_71 : decode cX7_find 71 = .ok (.iconst (-1), 1) := by decide +kernel
theorem dX7_find_72 : decode cX7_find 72 = .ok (.invokevirtual 54, 3) := by decide +kernel
theorem dX7_find_75 : decode cX7_find 75 = .ok (.ireturn, 1) := by decide +kernel
set_option maxRecDepth 20000 in
theorem ggX7_names_X7_in : GoodIn wsX7_names wsX7_in := goodIn_r _ [4] (by decide +kernel) (by decide +kernel)
set_option maxRecDepth 20000 in
theorem gX7_names_X7_in : GoodIn wsX7_names (va_wsS RX7 58 yX7_in wsX7_in) := goodIn_app (goodIn_of _ (by decide +kernel)) ggX7_names_X7_in
set_option maxRecDepth 20000 in
theorem ggX7_names_X7_namesOf : GoodIn wsX7_names wsX7_namesOf := goodIn_r _ [8, 9, 10, 11, 12, 3, 13, 14, 15, 16, 17, 18, 19, 20, 21, 22, 23, 24, 25, 35, 36, 37, 38, 39, 40, 41, 42, 43, 44, 45, 46, 47, 48, 49, 50, 51, 52, 53] (by decide +kernel) (by decide +kernel)
set_option maxRecDepth 20000 in
theorem gX7_names_X7_namesOf : GoodIn wsX7_names (wsV RX7 170 RX7 yX7_namesOf wsX7_namesOf) := goodIn_app (goodIn_of _ (by decide +kernel)) ggX7_names_X7_namesOf
set_option maxRecDepth 20000 in
theorem ggX7_names_X7_tells : GoodIn wsX7_names wsX7_tells := goodIn_r _ [29, 30, 35, 36, 37, 38, 39, 40, 41, 42, 43, 44, 45, 46, 47, 48, 49, 50, 51, 52, 53] (by decide +kernel) (by decide +kernel)
set_option maxRecDepth 20000 in
theorem gX7_names_X7_tells : GoodIn wsX7_names (wsV RX7 54 RX7 yX7_tells wsX7_tells) := goodIn_app (goodIn_of _ (by decide +kernel)) ggX7_names_X7_tells
set_option maxRecDepth 20000 in
theorem ggX7_names_X7_fails : GoodIn wsX7_names wsX7_fails := goodIn_r _ [34, 30, 35, 36, 37, 38, 39, 40, 41, 42, 43, 44, 45, 46, 47, 48, 49, 50, 51, 52, 53] (by decide +kernel) (by decide +kernel)
set_option maxRecDepth 20000 in
theorem gX7_names_X7_fails : GoodIn wsX7_names (wsV RX7 129 RX7 yX7_fails wsX7_fails) := goodIn_app (goodIn_of _ (by decide +kernel)) ggX7_names_X7_fails
theorem dX7_names_0 : decode cX7_names 0 = .ok (.iload_n 1, 1) := by decide +kernel
theorem dX7_names_1 : decode cX7_names 1 = .ok (.iconst 0, 1) := by decide +kernel
theorem dX7_names_2 : decode cX7_names 2 = .ok (.bipush 9, 2) := by decide +kernel
theorem dX7_names_4 : decode cX7_names 4 = .ok (.invokestatic 58, 3) := by decide +kernel
theorem dX7_names_7 : decode cX7_names 7 = .ok (.ifCond .eq 16, 3) := by decide +kernel
theorem dX7_names_10 : decode cX7_names 10 = .ok (.aload_n 0, 1) := by decide +kernel
theorem dX7_names_11 : decode cX7_names 11 = .ok (.aload_n 0, 1) := by decide +kernel
theorem dX7_names_12 : decode cX7_names 12 = .ok (.iload_n 1, 1) := by decide +kernel
theorem dX7_names_13 : decode cX7_names 13 = .ok (.iload_n 2, 1) := by decide +kernel
theorem dX7_names_14 : decode cX7_names 14 = .ok (.invokevirtual 170, 3) := by decide +kernel
theorem dX7_names_17 : decode cX7_names 17 = .ok (.invokevirtual 54, 3) := by decide +kernel
theorem dX7_names_20 : decode cX7_names 20 = .ok (.goto 8, 3) := by decide +kernel
theorem dX7_names_23 : decode cX7_names 23 = .ok (.aload_n 0, 1) := by decide +kernel
theorem dX7_names_24 : decode cX7_names 24 = .ok (.iconst 1, 1) := by decide +kernel
theorem dX7_names_25 : decode cX7_names 25 = .ok (.invokevirtual 129, 3) := by decide +kernel
theorem dX7_names_28 : decode cX7_names 28 = .ok (.ireturn, 1) := by decide +kernel
set_option maxRecDepth 20000 in
theorem ggX7_used_X7_setsAll : GoodIn wsX7_used wsX7_setsAll := goodIn_r _ [9, 3, 10, 2, 11, 12, 13, 8, 14, 4, 15, 16, 17, 18, 19, 20, 21, 22, 23, 24, 25, 26, 27, 28, 29, 30, 31, 32, 33, 34, 35, 36, 37, 38, 39, 40, 41, 42, 43, 44, 45, 46, 47, 48, 49, 50, 51, 52, 53, 54, 55, 56, 57, 58, 59, 60, 61, 62, 63, 64, 65, 66, 67, 68, 69, 70, 71, 72, 73, 74, 75, 76, 77] (by decide +kernel) (by decide +kernel)
set_option maxRecDepth 20000 in
theorem gX7_used_X7_setsAll : GoodIn wsX7_used (wsV RX7 117 RX7 yX7_setsAll wsX7_setsAll) := goodIn_app (goodIn_of _ (by decide +kernel)) ggX7_used_X7_setsAll
theorem dX7_used_0 : decode cX7_used 0 = .ok (.aload_n 0, 1) := by decide +kernel
theorem dX7_used_1 : decode cX7_used 1 = .ok (.iconst 0, 1) := by decide +kernel
theorem dX7_used_2 : decode cX7_used 2 = .ok (.putfield 43, 3) := by decide +kernel
theorem dX7_used_5 : decode cX7_used 5 = .ok (.aload_n 0, 1) := by decide +kernel
theorem dX7_used_6 : decode cX7_used 6 = .ok (.aload_n 0, 1) := by decide +kernel
theorem dX7_used_7 : decode cX7_used 7 = .ok (.getfield 7, 3) := by decide +kernel
theorem dX7_used_10 : decode cX7_used 10 = .ok (.iconst 0, 1) := by decide +kernel
theorem dX7_used_11 : decode cX7_used 11 = .ok (.iaload, 1) := by decide +kernel
theorem dX7_used_12 : decode cX7_used 12 = .ok (.invokevirtual 117, 3) := by decide +kernel
theorem dX7_used_15 : decode cX7_used 15 = .ok (.iconst 0, 1) := by decide +kernel
theorem dX7_used_16 : decode cX7_used 16 = .ok (.istore_n 1, 1) := by decide +kernel
theorem dX7_used_17 : decode cX7_used 17 = .ok (.iconst 0, 1) := by decide +kernel
theorem dX7_used_18 : decode cX7_used 18 = .ok (.istore_n 2, 1) := by decide +kernel
theorem dX7_used_19 : decode cX7_used 19 = .ok (.iload_n 2, 1) := by decide +kernel
theorem dX7_used_20 : decode cX7_used 20 = .ok (.aload_n 0, 1) := by decide +kernel
theorem dX7_used_21 : decode cX7_used 21 = .ok (.getfield 101, 3) := by decide +kernel
theorem dX7_used_24 : decode cX7_used 24 = .ok (.if_icmp .ge 18, 3) := by decide +kernel
theorem dX7_used_27 : decode cX7_used 27 = .ok (.iload_n 1, 1) := by decide +kernel
theorem dX7_used_28 : decode cX7_used 28 = .ok (.aload_n 0, 1) := by decide +kernel
theorem dX7_used_29 : decode cX7_used 29 = .ok (.getfield 31, 3) := by decide +kernel
theorem dX7_used_32 : decode cX7_used 32 = .ok (.iload_n 2, 1) := by decide +kernel
theorem dX7_used_33 : decode cX7_used 33 = .ok (.iaload, 1) := by decide +kernel
theorem dX7_used_34 : decode cX7_used 34 = .ok (.iadd, 1) := by decide +kernel
theorem dX7_used_35 : decode cX7_used 35 = .ok (.istore_n 1, 1) := by decide +kernel
theorem dX7_used_36 : decode cX7_used 36 = .ok (.iinc 2 1, 3) := by decide +kernel
theorem dX7_used_39 : decode cX7_used 39 = .ok (.goto (-20), 3) := by decide +kernel
theorem dX7_used_42 : decode cX7_used 42 = .ok (.aload_n 0, 1) := by decide +kernel
theorem dX7_used_43 : decode cX7_used 43 = .ok (.getfield 101, 3) := by decide +kernel
theorem dX7_used_46 : decode cX7_used 46 = .ok (.ifCond .ne 7, 3) := by decide +kernel
theorem dX7_used_49 : decode cX7_used 49 = .ok (.dconst 0, 1) := by decide +kernel
theorem dX7_used_50 : decode cX7_used 50 = .ok (.goto 18, 3) := by decide +kernel
theorem dX7_used_53 : decode cX7_used 53 = .ok (.iload_n 1, 1) := by decide +kernel
theorem dX7_used_54 : decode cX7_used 54 = .ok (.i2d, 1) := by decide +kernel
theorem dX7_used_55 : decode cX7_used 55 = .ok (.aload_n 0, 1) := by decide +kernel
theorem dX7_used_56 : decode cX7_used 56 = .ok (.getfield 7, 3) := by decide +kernel
theorem dX7_used_59 : decode cX7_used 59 = .ok (.iconst 0, 1) := by decide +kernel
theorem dX7_used_60 : decode cX7_used 60 = .ok (.iaload, 1) := by decide +kernel
theorem dX7_used_61 : decode cX7_used 61 = .ok (.aload_n 0, 1) := by decide +kernel
theorem dX7_used_62 : decode cX7_used 62 = .ok (.getfield 101, 3) := by decide +kernel
theorem dX7_used_65 : decode cX7_used 65 = .ok (.imul, 1) := by decide +kernel
theorem dX7_used_66 : decode cX7_used 66 = .ok (.i2d, 1) := by decide +kernel
theorem dX7_used_67 : decode cX7_used 67 = .ok (.ddiv, 1) := by decide +kernel
theorem dX7_used_68 : decode cX7_used 68 = .ok (.dreturn, 1) := by decide +kernel
set_option maxRecDepth 20000 in
theorem ggX7_pagesWith_X7_isPage : GoodIn wsX7_pagesWith wsX7_isPage := goodIn_r _ [4, 5, 6, 3, 7] (by decide +kernel) (by decide +kernel)
set_option maxRecDepth 20000 in
theorem gX7_pagesWith_X7_isPage : GoodIn wsX7_pagesWith (va_wsS RX7 155 yX7_isPage wsX7_isPage) := goodIn_app (goodIn_of _ (by decide +kernel)) ggX7_pagesWith_X7_isPage
set_option maxRecDepth 20000 in
theorem ggX7_pagesWith_X7_pagesIf : GoodIn wsX7_pagesWith wsX7_pagesIf := goodIn_r _ [11, 12, 13, 14, 15, 3, 16, 17, 18, 19, 20, 21, 22, 23, 24, 25, 26, 27, 28, 29, 30, 31, 32, 33, 34, 35, 36, 37, 38, 39, 40, 41, 42, 43, 44, 45, 46, 47, 48, 49, 50, 51, 52, 53, 54, 55, 56, 57, 58, 59, 60, 61, 62, 63, 64, 65, 66, 67, 77, 78, 79, 80, 81, 82, 83, 84, 85, 86, 87, 88, 89, 90, 91, 92, 93, 94, 95] (by decide +kernel) (by decide +kernel)
set_option maxRecDepth 20000 in
theorem gX7_pagesWith_X7_pagesIf : GoodIn wsX7_pagesWith (wsV RX7 189 RX7 yX7_pagesIf wsX7_pagesIf) := goodIn_app (goodIn_of _ (by decide +kernel)) ggX7_pagesWith_X7_pagesIf
set_option maxRecDepth 20000 in
theorem ggX7_pagesWith_X7_tells : GoodIn wsX7_pagesWith wsX7_tells := goodIn_r _ [71, 72, 77, 78, 79, 80, 81, 82, 83, 84, 85, 86, 87, 88, 89, 90, 91, 92, 93, 94, 95] (by decide +kernel) (by decide +kernel)
set_option maxRecDepth 20000 in
theorem gX7_pagesWith_X7_tells : GoodIn wsX7_pagesWith (wsV RX7 54 RX7 yX7_tells wsX7_tells) := goodIn_app (goodIn_of _ (by decide +kernel)) ggX7_pagesWith_X7_tells
set_option maxRecDepth 20000 in
theorem ggX7_pagesWith_X7_fails : GoodIn wsX7_pagesWith wsX7_fails := goodIn_r _ [76, 72, 77, 78, 79, 80, 81, 82, 83, 84, 85, 86, 87, 88, 89, 90, 91, 92, 93, 94, 95] (by decide +kernel) (by decide +kernel)
set_option maxRecDepth 20000 in
theorem gX7_pagesWith_X7_fails : GoodIn wsX7_pagesWith (wsV RX7 129 RX7 yX7_fails wsX7_fails) := goodIn_app (goodIn_of _ (by decide +kernel)) ggX7_pagesWith_X7_fails
theorem dX7_pagesWith_0 : decode cX7_pagesWith 0 = .ok (.iload_n 1, 1) := by decide +kernel
theorem dX7_pagesWith_1 : decode cX7_pagesWith 1 = .ok (.invokestatic 155, 3) := by decide +kernel
theorem dX7_pagesWith_4 : decode cX7_pagesWith 4 = .ok (.ifCond .eq 15, 3) := by decide +kernel
theorem dX7_pagesWith_7 : decode cX7_pagesWith 7 = .ok (.aload_n 0, 1) := by decide +kernel
theorem dX7_pagesWith_8 : decode cX7_pagesWith 8 = .ok (.aload_n 0, 1) := by decide +kernel
theorem dX7_pagesWith_9 : decode cX7_pagesWith 9 = .ok (.iload_n 1, 1) := by decide +kernel
theorem dX7_pagesWith_10 : decode cX7_pagesWith 10 = .ok (.invokevirtual 189, 3) := by decide +kernel
theorem dX7_pagesWith_13 : decode cX7_pagesWith 13 = .ok (.invokevirtual 54, 3) := by decide +kernel
theorem dX7_pagesWith_16 : decode cX7_pagesWith 16 = .ok (.goto 8, 3) := by decide +kernel
theorem dX7_pagesWith_19 : decode cX7_pagesWith 19 = .ok (.aload_n 0, 1) := by decide +kernel
theorem dX7_pagesWith_20 : decode cX7_pagesWith 20 = .ok (.iconst 1, 1) := by decide +kernel
theorem dX7_pagesWith_21 : decode cX7_pagesWith 21 = .ok (.invokevirtual 129, 3) := by decide +kernel
theorem dX7_pagesWith_24 : decode cX7_pagesWith 24 = .ok (.ireturn, 1) := by decide +kernel
set_option maxRecDepth 20000 in
theorem ggX7_smallestPage_X7_in : GoodIn wsX7_smallestPage wsX7_in := goodIn_r _ [4] (by decide +kernel) (by decide +kernel)
set_option maxRecDepth 20000 in
theorem gX7_smallestPage_X7_in : GoodIn wsX7_smallestPage (va_wsS RX7 58 yX7_in wsX7_in) := goodIn_app (goodIn_of _ (by decide +kernel)) ggX7_smallestPage_X7_in
set_option maxRecDepth 20000 in
theorem ggX7_smallestPage_X7_fails : GoodIn wsX7_smallestPage wsX7_fails := goodIn_r _ [8, 9, 74, 75, 76, 77, 78, 79, 80, 81, 82, 83, 84, 85, 86, 87, 88, 89, 90, 91, 92] (by decide +kernel) (by decide +kernel)
set_option maxRecDepth 20000 in
theorem gX7_smallestPage_X7_fails : GoodIn wsX7_smallestPage (wsV RX7 129 RX7 yX7_fails wsX7_fails) := goodIn_app (goodIn_of _ (by decide +kernel)) ggX7_smallestPage_X7_fails
set_option maxRecDepth 20000 in
theorem ggX7_smallestPage_X7_pagesIf : GoodIn wsX7_smallestPage wsX7_pagesIf := goodIn_r _ [13, 14, 15, 16, 17, 3, 18, 19, 20, 21, 22, 23, 24, 25, 26, 27, 28, 29, 30, 31, 32, 33, 34, 35, 36, 37, 38, 39, 40, 41, 42, 43, 44, 45, 46, 47, 48, 49, 50, 51, 52, 53, 54, 55, 56, 57, 58, 59, 60, 61, 62, 63, 64, 65, 66, 67, 68, 69, 74, 75, 76, 77, 78, 79, 80, 81, 82, 83, 84, 85, 86, 87, 88, 89, 90, 91, 92] (by decide +kernel) (by decide +kernel)
set_option maxRecDepth 20000 in
theorem gX7_smallestPage_X7_pagesIf : GoodIn wsX7_smallestPage (wsV RX7 189 RX7 yX7_pagesIf wsX7_pagesIf) := goodIn_app (goodIn_of _ (by decide +kernel)) ggX7_smallestPage_X7_pagesIf
set_option maxRecDepth 20000 in
theorem ggX7_smallestPage_X7_tells : GoodIn wsX7_smallestPage wsX7_tells := goodIn_r _ [73, 9, 74, 75, 76, 77, 78, 79, 80, 81, 82, 83, 84, 85, 86, 87, 88, 89, 90, 91, 92] (by decide +kernel) (by decide +kernel)
set_option maxRecDepth 20000 in
theorem gX7_smallestPage_X7_tells : GoodIn wsX7_smallestPage (wsV RX7 54 RX7 yX7_tells wsX7_tells) := goodIn_app (goodIn_of _ (by decide +kernel)) ggX7_smallestPage_X7_tells
theorem dX7_smallestPage_0 : decode cX7_smallestPage 0 = .ok (.iload_n 1, 1) := by decide +kernel
theorem dX7_smallestPage_1 : decode cX7_smallestPage 1 = .ok (.iconst 0, 1) := by decide +kernel
theorem dX7_smallestPage_2 : decode cX7_smallestPage 2 = .ok (.bipush 60, 2) := by decide +kernel
theorem dX7_smallestPage_4 : decode cX7_smallestPage 4 = .ok (.invokestatic 58, 3) := by decide +kernel
theorem dX7_smallestPage_7 : decode cX7_smallestPage 7 = .ok (.ifCond .ne 9, 3) := by decide +kernel
theorem dX7_smallestPage_10 : decode cX7_smallestPage 10 = .ok (.aload_n 0, 1) := by decide +kernel
theorem dX7_smallestPage_11 : decode cX7_smallestPage 11 = .ok (.iconst 1, 1) := by decide +kernel
theorem dX7_smallestPage_12 : decode cX7_smallestPage 12 = .ok (.invokevirtual 129, 3) := by decide +kernel
theorem dX7_smallestPage_15 : decode cX7_smallestPage 15 = .ok (.ireturn, 1) := by decide +kernel
theorem dX7_smallestPage_16 : decode cX7_smallestPage 16 = .ok (.bipush 20, 2) := by decide +kernel
theorem dX7_smallestPage_18 : decode cX7_smallestPage 18 = .ok (.istore_n 2, 1) := by decide +kernel
theorem dX7_smallestPage_19 : decode cX7_smallestPage 19 = .ok (.iload_n 2, 1) := by decide +kernel
theorem dX7_smallestPage_20 : decode cX7_smallestPage 20 = .ok (.bipush 60, 2) := by decide +kernel
theorem dX7_smallestPage_22 : decode cX7_smallestPage 22 = .ok (.if_icmp .gt 24, 3) := by decide +kernel
theorem dX7_smallestPage_25 : decode cX7_smallestPage 25 = .ok (.aload_n 0, 1) := by decide +kernel
theorem dX7_smallestPage_26 : decode cX7_smallestPage 26 = .ok (.iload_n 2, 1) := by decide +kernel
theorem dX7_smallestPage_27 : decode cX7_smallestPage 27 = .ok (.invokevirtual 189, 3) := by decide +kernel
theorem dX7_smallestPage_30 : decode cX7_smallestPage 30 = .ok (.iload_n 1, 1) := by decide +kernel
theorem dX7_smallestPage_31 : decode cX7_smallestPage 31 = .ok (.if_icmp .gt 9, 3) := by decide +kernel
theorem dX7_smallestPage_34 : decode cX7_smallestPage 34 = .ok (.aload_n 0, 1) := by decide +kernel
theorem dX7_smallestPage_35 : decode cX7_smallestPage 35 = .ok (.iload_n 2, 1) := by decide +kernel
theorem dX7_smallestPage_36 : decode cX7_smallestPage 36 = .ok (.invokevirtual 54, 3) := by decide +kernel
theorem dX7_smallestPage_39 : decode cX7_smallestPage 39 = .ok (.ireturn, 1) := by decide +kernel
theorem dX7_smallestPage_40 : decode cX7_smallestPage 40 = .ok (.iinc 2 1, 3) := by decide +kernel
theorem dX7_smallestPage_43 : decode cX7_smallestPage 43 = .ok (.goto (-24), 3) := by decide +kernel
theorem dX7_smallestPage_46 : decode cX7_smallestPage 46 = .ok (.aload_n 0, 1) := by decide +kernel
theorem dX7_smallestPage_47 : decode cX7_smallestPage 47 = .ok (.iconst (-1), 1) := by decide +kernel
theorem dX7_smallestPage_48 : decode cX7_smallestPage 48 = .ok (.invokevirtual 54, 3) := by decide +kernel
theorem dX7_smallestPage_51 : decode cX7_smallestPage 51 = .ok (.ireturn, 1) := by decide +kernel
set_option maxRecDepth 20000 in
theorem ggX7_pagesBehind_X7_of : GoodIn wsX7_pagesBehind wsX7_of := goodIn_r _ [6, 1, 66, 67, 68, 69, 70, 71, 72, 73, 74, 75, 76, 77, 78, 79, 80, 81, 82, 83, 84] (by decide +kernel) (by decide +kernel)
set_option maxRecDepth 20000 in
theorem gX7_pagesBehind_X7_of : GoodIn wsX7_pagesBehind (wsV RX7 62 RX7 yX7_of wsX7_of) := goodIn_app (goodIn_of _ (by decide +kernel)) ggX7_pagesBehind_X7_of
set_option maxRecDepth 20000 in
theorem ggX7_pagesBehind_X7_puts : GoodIn wsX7_pagesBehind wsX7_puts := goodIn_r _ [10, 1, 66, 67, 68, 69, 70, 71, 72, 73, 74, 75, 76, 77, 78, 79, 80, 81, 82, 83, 84] (by decide +kernel) (by decide +kernel)
set_option maxRecDepth 20000 in
theorem gX7_pagesBehind_X7_puts : GoodIn wsX7_pagesBehind (wsV RX7 125 RX7 yX7_puts wsX7_puts) := goodIn_app (goodIn_of _ (by decide +kernel)) ggX7_pagesBehind_X7_puts
set_option maxRecDepth 20000 in
theorem ggX7_pagesBehind_X7_pagesIf : GoodIn wsX7_pagesBehind wsX7_pagesIf := goodIn_r _ [14, 15, 16, 17, 18, 5, 19, 20, 1, 21, 22, 23, 24, 25, 26, 27, 28, 29, 30, 31, 32, 33, 34, 2, 3, 4, 6, 35, 36, 37, 38, 39, 40, 41, 42, 43, 44, 45, 46, 47, 48, 49, 50, 51, 52, 53, 54, 55, 56, 57, 58, 59, 60, 61, 62, 63, 64, 65, 66, 67, 68, 69, 70, 71, 72, 73, 74, 75, 76, 77, 78, 79, 80, 81, 82, 83, 84] (by decide +kernel) (by decide +kernel)
set_option maxRecDepth 20000 in
theorem gX7_pagesBehind_X7_pagesIf : GoodIn wsX7_pagesBehind (wsV RX7 189 RX7 yX7_pagesIf wsX7_pagesIf) := goodIn_app (goodIn_of _ (by decide +kernel)) ggX7_pagesBehind_X7_pagesIf
theorem dX7_pagesBehind_0 : decode cX7_pagesBehind 0 = .ok (.aload_n 0, 1) := by decide +kernel
theorem dX7_pagesBehind_1 : decode cX7_pagesBehind 1 = .ok (.iload_n 1, 1) := by decide +kernel
theorem dX7_pagesBehind_2 : decode cX7_pagesBehind 2 = .ok (.iconst 1, 1) := by decide +kernel
theorem dX7_pagesBehind_3 : decode cX7_pagesBehind 3 = .ok (.invokevirtual 62, 3) := by decide +kernel
theorem dX7_pagesBehind_6 : decode cX7_pagesBehind 6 = .ok (.istore_n 3, 1) := by decide +kernel
theorem dX7_pagesBehind_7 : decode cX7_pagesBehind 7 = .ok (.aload_n 0, 1) := by decide +kernel
theorem dX7_pagesBehind_8 : decode cX7_pagesBehind 8 = .ok (.iload_n 1, 1) := by decide +kernel
theorem dX7_pagesBehind_9 : decode cX7_pagesBehind 9 = .ok (.iconst 1, 1) := by decide +kernel
theorem dX7_pagesBehind_10 : decode cX7_pagesBehind 10 = .ok (.iload_n 2, 1) := by decide +kernel
theorem dX7_pagesBehind_11 : decode cX7_pagesBehind 11 = .ok (.invokevirtual 125, 3) := by decide +kernel
theorem dX7_pagesBehind_14 : decode cX7_pagesBehind 14 = .ok (.aload_n 0, 1) := by decide +kernel
theorem dX7_pagesBehind_15 : decode cX7_pagesBehind 15 = .ok (.aload_n 0, 1) := by decide +kernel
theorem dX7_pagesBehind_16 : decode cX7_pagesBehind 16 = .ok (.getfield 7, 3) := by decide +kernel
theorem dX7_pagesBehind_19 : decode cX7_pagesBehind 19 = .ok (.iconst 0, 1) := by decide +kernel
theorem dX7_pagesBehind_20 : decode cX7_pagesBehind 20 = .ok (.iaload, 1) := by decide +kernel
theorem dX7_pagesBehind_21 : decode cX7_pagesBehind 21 = .ok (.invokevirtual 189, 3) := by decide +kernel
theorem dX7_pagesBehind_24 : decode cX7_pagesBehind 24 = .ok (.istore 4, 2) := by decide +kernel
theorem dX7_pagesBehind_26 : decode cX7_pagesBehind 26 = .ok (.aload_n 0, 1) := by decide +kernel
theorem dX7_pagesBehind_27 : decode cX7_pagesBehind 27 = .ok (.iload_n 1, 1) := by decide +kernel
theorem dX7_pagesBehind_28 : decode cX7_pagesBehind 28 = .ok (.iconst 1, 1) := by decide +kernel
theorem dX7_pagesBehind_29 : decode cX7_pagesBehind 29 = .ok (.iload_n 3, 1) := by decide +kernel
theorem dX7_pagesBehind_30 : decode cX7_pagesBehind 30 = .ok (.invokevirtual 125, 3) := by decide +kernel
theorem dX7_pagesBehind_33 : decode cX7_pagesBehind 33 = .ok (.iload 4, 2) := by decide +kernel
theorem dX7_pagesBehind_35 : decode cX7_pagesBehind 35 = .ok (.ireturn, 1) := by decide +kernel
set_option maxRecDepth 20000 in
theorem ggX7_pagesBy_X7_isElement : GoodIn wsX7_pagesBy wsX7_isElement := goodIn_r _ [5, 6, 7, 8, 4, 9, 89, 90, 91, 92, 93, 94, 95, 96, 97, 98, 99, 100, 101, 102, 103, 104, 105, 106, 107] (by decide +kernel) (by decide +kernel)
set_option maxRecDepth 20000 in
theorem gX7_pagesBy_X7_isElement : GoodIn wsX7_pagesBy (wsV RX7 149 RX7 yX7_isElement wsX7_isElement) := goodIn_app (goodIn_of _ (by decide +kernel)) ggX7_pagesBy_X7_isElement
set_option maxRecDepth 20000 in
theorem ggX7_pagesBy_X7_fails : GoodIn wsX7_pagesBy wsX7_fails := goodIn_r _ [13, 14, 89, 90, 91, 92, 93, 94, 95, 96, 97, 98, 99, 100, 101, 102, 103, 104, 105, 106, 107] (by decide +kernel) (by decide +kernel)
set_option maxRecDepth 20000 in
theorem gX7_pagesBy_X7_fails : GoodIn wsX7_pagesBy (wsV RX7 129 RX7 yX7_fails wsX7_fails) := goodIn_app (goodIn_of _ (by decide +kernel)) ggX7_pagesBy_X7_fails
set_option maxRecDepth 20000 in
theorem ggX7_pagesBy_X7_isLength : GoodIn wsX7_pagesBy wsX7_isLength := goodIn_r _ [17, 7, 8, 4, 9] (by decide +kernel) (by decide +kernel)
set_option maxRecDepth 20000 in
theorem gX7_pagesBy_X7_isLength : GoodIn wsX7_pagesBy (va_wsS RX7 132 yX7_isLength wsX7_isLength) := goodIn_app (goodIn_of _ (by decide +kernel)) ggX7_pagesBy_X7_isLength
set_option maxRecDepth 20000 in
theorem ggX7_pagesBy_X7_pagesBehind : GoodIn wsX7_pagesBy wsX7_pagesBehind := goodIn_r _ [21, 6, 22, 23, 24, 4, 25, 26, 27, 28, 29, 30, 31, 32, 33, 34, 35, 36, 37, 38, 39, 40, 41, 42, 43, 44, 45, 46, 47, 48, 49, 50, 51, 52, 53, 54, 55, 56, 57, 58, 59, 60, 61, 62, 63, 64, 65, 66, 67, 68, 69, 70, 71, 72, 73, 74, 75, 76, 77, 78, 79, 80, 81, 82, 83, 84, 89, 90, 91, 92, 93, 94, 95, 96, 97, 98, 99, 100, 101, 102, 103, 104, 105, 106, 107] (by decide +kernel) (by decide +kernel)
set_option maxRecDepth 20000 in
theorem gX7_pagesBy_X7_pagesBehind : GoodIn wsX7_pagesBy (wsV RX7 192 RX7 yX7_pagesBehind wsX7_pagesBehind) := goodIn_app (goodIn_of _ (by decide +kernel)) ggX7_pagesBy_X7_pagesBehind
set_option maxRecDepth 20000 in
theorem ggX7_pagesBy_X7_tells : GoodIn wsX7_pagesBy wsX7_tells := goodIn_r _ [88, 14, 89, 90, 91, 92, 93, 94, 95, 96, 97, 98, 99, 100, 101, 102, 103, 104, 105, 106, 107] (by decide +kernel) (by decide +kernel)
set_option maxRecDepth 20000 in
theorem gX7_pagesBy_X7_tells : GoodIn wsX7_pagesBy (wsV RX7 54 RX7 yX7_tells wsX7_tells) := goodIn_app (goodIn_of _ (by decide +kernel)) ggX7_pagesBy_X7_tells
theorem dX7_pagesBy_0 : decode cX7_pagesBy 0 = .ok (.aload_n 0, 1) := by decide +kernel
theorem dX7_pagesBy_1 : decode cX7_pagesBy 1 = .ok (.iload_n 1, 1) := by decide +kernel
theorem dX7_pagesBy_2 : decode cX7_pagesBy 2 = .ok (.invokevirtual 149, 3) := by decide +kernel
theorem dX7_pagesBy_5 : decode cX7_pagesBy 5 = .ok (.ifCond .ne 9, 3) := by decide +kernel
theorem dX7_pagesBy_8 : decode cX7_pagesBy 8 = .ok (.aload_n 0, 1) := by decide +kernel
theorem dX7_pagesBy_9 : decode cX7_pagesBy 9 = .ok (.iconst 1, 1) := by decide +kernel
theorem dX7_pagesBy_10 : decode cX7_pagesBy 10 = .ok (.invokevirtual 129, 3) := by decide +kernel
theorem dX7_pagesBy_13 : decode cX7_pagesBy 13 = .ok (.ireturn, 1) := by decide +kernel
theorem dX7_pagesBy_14 : decode cX7_pagesBy 14 = .ok (.iload_n 2, 1) := by decide +kernel
theorem dX7_pagesBy_15 : decode cX7_pagesBy 15 = .ok (.invokestatic 132, 3) := by decide +kernel
theorem dX7_pagesBy_18 : decode cX7_pagesBy 18 = .ok (.ifCond .eq 16, 3) := by decide +kernel
theorem dX7_pagesBy_21 : decode cX7_pagesBy 21 = .ok (.aload_n 0, 1) := by decide +kernel
theorem dX7_pagesBy_22 : decode cX7_pagesBy 22 = .ok (.aload_n 0, 1) := by decide +kernel
theorem dX7_pagesBy_23 : decode cX7_pagesBy 23 = .ok (.iload_n 1, 1) := by decide +kernel
theorem dX7_pagesBy_24 : decode cX7_pagesBy 24 = .ok (.iload_n 2, 1) := by decide +kernel
theorem dX7_pagesBy_25 : decode cX7_pagesBy 25 = .ok (.invokevirtual 192, 3) := by decide +kernel
theorem dX7_pagesBy_28 : decode cX7_pagesBy 28 = .ok (.invokevirtual 54, 3) := by decide +kernel
theorem dX7_pagesBy_31 : decode cX7_pagesBy 31 = .ok (.goto 8, 3) := by decide +kernel
theorem dX7_pagesBy_34 : decode cX7_pagesBy 34 = .ok (.aload_n 0, 1) := by decide +kernel
theorem dX7_pagesBy_35 : decode cX7_pagesBy 35 = .ok (.iconst 2, 1) := by decide +kernel
theorem dX7_pagesBy_36 : decode cX7_pagesBy 36 = .ok (.invokevirtual 129, 3) := by decide +kernel
theorem dX7_pagesBy_39 : decode cX7_pagesBy 39 = .ok (.ireturn, 1) := by decide +kernel
set_option maxRecDepth 20000 in
theorem ggX7_greatestLength_X7_isElement : GoodIn wsX7_greatestLength wsX7_isElement := goodIn_r _ [6, 1, 7, 8, 5, 9, 86, 87, 88, 89, 90, 91, 92, 93, 94, 95, 96, 97, 98, 99, 100, 101, 102, 103, 104] (by decide +kernel) (by decide +kernel)
set_option maxRecDepth 20000 in
theorem gX7_greatestLength_X7_isElement : GoodIn wsX7_greatestLength (wsV RX7 149 RX7 yX7_isElement wsX7_isElement) := goodIn_app (goodIn_of _ (by decide +kernel)) ggX7_greatestLength_X7_isElement
set_option maxRecDepth 20000 in
theorem ggX7_greatestLength_X7_fails : GoodIn wsX7_greatestLength wsX7_fails := goodIn_r _ [13, 14, 86, 87, 88, 89, 90, 91, 92, 93, 94, 95, 96, 97, 98, 99, 100, 101, 102, 103, 104] (by decide +kernel) (by decide +kernel)
set_option maxRecDepth 20000 in
theorem gX7_greatestLength_X7_fails : GoodIn wsX7_greatestLength (wsV RX7 129 RX7 yX7_fails wsX7_fails) := goodIn_app (goodIn_of _ (by decide +kernel)) ggX7_greatestLength_X7_fails
set_option maxRecDepth 20000 in
theorem ggX7_greatestLength_X7_pagesIf : GoodIn wsX7_greatestLength wsX7_pagesIf := goodIn_r _ [18, 19, 20, 21, 22, 5, 23, 24, 1, 25, 26, 27, 28, 29, 30, 31, 32, 33, 34, 35, 36, 37, 38, 39, 40, 41, 42, 43, 44, 45, 46, 47, 48, 49, 50, 51, 52, 53, 54, 55, 56, 57, 58, 59, 60, 61, 62, 63, 64, 65, 66, 67, 68, 69, 70, 71, 72, 73, 86, 87, 88, 89, 90, 91, 92, 93, 94, 95, 96, 97, 98, 99, 100, 101, 102, 103, 104] (by decide +kernel) (by decide +kernel)
set_option maxRecDepth 20000 in
theorem gX7_greatestLength_X7_pagesIf : GoodIn wsX7_greatestLength (wsV RX7 189 RX7 yX7_pagesIf wsX7_pagesIf) := goodIn_app (goodIn_of _ (by decide +kernel)) ggX7_greatestLength_X7_pagesIf
set_option maxRecDepth 20000 in
theorem ggX7_greatestLength_X7_pagesBehind : GoodIn wsX7_greatestLength wsX7_pagesBehind := goodIn_r _ [77, 1, 39, 40, 41, 5, 42, 78, 79, 80, 81, 15, 16, 17, 18, 19, 20, 21, 22, 23, 24, 25, 26, 27, 28, 29, 30, 31, 32, 33, 34, 35, 36, 37, 38, 43, 44, 45, 46, 47, 48, 49, 50, 51, 52, 53, 54, 55, 56, 57, 58, 59, 60, 61, 62, 63, 64, 65, 66, 67, 68, 69, 70, 71, 72, 73, 86, 87, 88, 89, 90, 91, 92, 93, 94, 95, 96, 97, 98, 99, 100, 101, 102, 103, 104] (by decide +kernel) (by decide +kernel)
set_option maxRecDepth 20000 in
theorem gX7_greatestLength_X7_pagesBehind : GoodIn wsX7_greatestLength (wsV RX7 192 RX7 yX7_pagesBehind wsX7_pagesBehind) := goodIn_app (goodIn_of _ (by decide +kernel)) ggX7_greatestLength_X7_pagesBehind
set_option maxRecDepth 20000 in
theorem ggX7_greatestLength_X7_tells : GoodIn wsX7_greatestLength wsX7_tells := goodIn_r _ [85, 14, 86, 87, 88, 89, 90, 91, 92, 93, 94, 95, 96, 97, 98, 99, 100, 101, 102, 103, 104] (by decide +kernel) (by decide +kernel)
set_option maxRecDepth 20000 in
theorem gX7_greatestLength_X7_tells : GoodIn wsX7_greatestLength (wsV RX7 54 RX7 yX7_tells wsX7_tells) := goodIn_app (goodIn_of _ (by decide +kernel)) ggX7_greatestLength_X7_tells
theorem dX7_greatestLength_0 : decode cX7_greatestLength 0 = .ok (.aload_n 0, 1) := by decide +kernel
theorem dX7_greatestLength_1 : decode cX7_greatestLength 1 = .ok (.iload_n 1, 1) := by decide +kernel
theorem dX7_greatestLength_2 : decode cX7_greatestLength 2 = .ok (.invokevirtual 149, 3) := by decide +kernel
theorem dX7_greatestLength_5 : decode cX7_greatestLength 5 = .ok (.ifCond .ne 9, 3) := by decide +kernel
theorem dX7_greatestLength_8 : decode cX7_greatestLength 8 = .ok (.aload_n 0, 1) := by decide +kernel
theorem dX7_greatestLength_9 : decode cX7_greatestLength 9 = .ok (.iconst 1, 1) := by decide +kernel
theorem dX7_greatestLength_10 : decode cX7_greatestLength 10 = .ok (.invokevirtual 129, 3) := by decide +kernel
theorem dX7_greatestLength_13 : decode cX7_greatestLength 13 = .ok (.ireturn, 1) := by decide +kernel
theorem dX7_greatestLength_14 : decode cX7_greatestLength 14 = .ok (.aload_n 0, 1) := by decide +kernel
theorem dX7_greatestLength_15 : decode cX7_greatestLength 15 = .ok (.aload_n 0, 1) := by decide +kernel
theorem dX7_greatestLength_16 : decode cX7_greatestLength 16 = .ok (.getfield 7, 3) := by decide +kernel
theorem dX7_greatestLength_19 : decode cX7_greatestLength 19 = .ok (.iconst 0, 1) := by decide +kernel
theorem dX7_greatestLength_20 : decode cX7_greatestLength 20 = .ok (.iaload, 1) := by decide +kernel
theorem dX7_greatestLength_21 : decode cX7_greatestLength 21 = .ok (.invokevirtual 189, 3) := by decide +kernel
theorem dX7_greatestLength_24 : decode cX7_greatestLength 24 = .ok (.istore_n 2, 1) := by decide +kernel
theorem dX7_greatestLength_25 : decode cX7_greatestLength 25 = .ok (.sipush 400, 3) := by decide +kernel
theorem dX7_greatestLength_28 : decode cX7_greatestLength 28 = .ok (.istore_n 3, 1) := by decide +kernel
theorem dX7_greatestLength_29 : decode cX7_greatestLength 29 = .ok (.aload_n 0, 1) := by decide +kernel
theorem dX7_greatestLength_30 : decode cX7_greatestLength 30 = .ok (.iload_n 1, 1) := by decide +kernel
theorem dX7_greatestLength_31 : decode cX7_greatestLength 31 = .ok (.iload_n 3, 1) := by decide +kernel
theorem dX7_greatestLength_32 : decode cX7_greatestLength 32 = .ok (.invokevirtual 192, 3) := by decide +kernel
theorem dX7_greatestLength_35 : decode cX7_greatestLength 35 = .ok (.iload_n 2, 1) := by decide +kernel
theorem dX7_greatestLength_36 : decode cX7_greatestLength 36 = .ok (.if_icmp .le 9, 3) := by decide +kernel
theorem dX7_greatestLength_39 : decode cX7_greatestLength 39 = .ok (.iinc 3 (-1), 3) := by decide +kernel
theorem dX7_greatestLength_42 : decode cX7_greatestLength 42 = .ok (.goto (-13), 3) := by decide +kernel
theorem dX7_greatestLength_45 : decode cX7_greatestLength 45 = .ok (.aload_n 0, 1) := by decide +kernel
theorem dX7_greatestLength_46 : decode cX7_greatestLength 46 = .ok (.iload_n 3, 1) := by decide +kernel
theorem dX7_greatestLength_47 : decode cX7_greatestLength 47 = .ok (.invokevirtual 54, 3) := by decide +kernel
theorem dX7_greatestLength_50 : decode cX7_greatestLength 50 = .ok (.ireturn, 1) := by decide +kernel
set_option maxRecDepth 20000 in
theorem ggX7_append_X7_in : GoodIn wsX7_append wsX7_in := goodIn_r _ [6] (by decide +kernel) (by decide +kernel)
set_option maxRecDepth 20000 in
theorem gX7_append_X7_in : GoodIn wsX7_append (va_wsS RX7 58 yX7_in wsX7_in) := goodIn_app (goodIn_of _ (by decide +kernel)) ggX7_append_X7_in
set_option maxRecDepth 20000 in
theorem ggX7_append_X7_fails : GoodIn wsX7_append wsX7_fails := goodIn_r _ [10, 11, 16, 17, 18, 19, 20, 21, 22, 23, 24, 25, 26, 27, 28, 29, 30, 31, 32, 33, 34] (by decide +kernel) (by decide +kernel)
set_option maxRecDepth 20000 in
theorem gX7_append_X7_fails : GoodIn wsX7_append (wsV RX7 129 RX7 yX7_fails wsX7_fails) := goodIn_app (goodIn_of _ (by decide +kernel)) ggX7_append_X7_fails
set_option maxRecDepth 20000 in
theorem ggX7_append_X7_tells : GoodIn wsX7_append wsX7_tells := goodIn_r _ [15, 11, 16, 17, 18, 19, 20, 21, 22, 23, 24, 25, 26, 27, 28, 29, 30, 31, 32, 33, 34] (by decide +kernel) (by decide +kernel)
set_option maxRecDepth 20000 in
theorem gX7_append_X7_tells : GoodIn wsX7_append (wsV RX7 54 RX7 yX7_tells wsX7_tells) := goodIn_app (goodIn_of _ (by decide +kernel)) ggX7_append_X7_tells
theorem dX7_append_0 : decode cX7_append 0 = .ok (.iload_n 1, 1) := by decide +kernel
theorem dX7_append_1 : decode cX7_append 1 = .ok (.iconst 0, 1) := by decide +kernel
theorem dX7_append_2 : decode cX7_append 2 = .ok (.bipush 127, 2) := by decide +kernel
theorem dX7_append_4 : decode cX7_append 4 = .ok (.invokestatic 58, 3) := by decide +kernel
theorem dX7_append_7 : decode cX7_append 7 = .ok (.ifCond .ne 9, 3) := by decide +kernel
theorem dX7_append_10 : decode cX7_append 10 = .ok (.aload_n 0, 1) := by decide +kernel
theorem dX7_append_11 : decode cX7_append 11 = .ok (.iconst 1, 1) := by decide +kernel
theorem dX7_append_12 : decode cX7_append 12 = .ok (.invokevirtual 129, 3) := by decide +kernel
theorem dX7_append_15 : decode cX7_append 15 = .ok (.ireturn, 1) := by decide +kernel
theorem dX7_append_16 : decode cX7_append 16 = .ok (.aload_n 0, 1) := by decide +kernel
theorem dX7_append_17 : decode cX7_append 17 = .ok (.getfield 195, 3) := by decide +kernel
theorem dX7_append_20 : decode cX7_append 20 = .ok (.sipush 200, 3) := by decide +kernel
theorem dX7_append_23 : decode cX7_append 23 = .ok (.if_icmp .ne 9, 3) := by decide +kernel
theorem dX7_append_26 : decode cX7_append 26 = .ok (.aload_n 0, 1) := by decide +kernel
theorem dX7_append_27 : decode cX7_append 27 = .ok (.iconst 2, 1) := by decide +kernel
theorem dX7_append_28 : decode cX7_append 28 = .ok (.invokevirtual 129, 3) := by decide +kernel
theorem dX7_append_31 : decode cX7_append 31 = .ok (.ireturn, 1) := by decide +kernel
theorem dX7_append_32 : decode cX7_append 32 = .ok (.aload_n 0, 1) := by decide +kernel
theorem dX7_append_33 : decode cX7_append 33 = .ok (.getfield 19, 3) := by decide +kernel
theorem dX7_append_36 : decode cX7_append 36 = .ok (.aload_n 0, 1) := by decide +kernel
theorem dX7_append_37 : decode cX7_append 37 = .ok (.getfield 195, 3) := by decide +kernel
theorem dX7_append_40 : decode cX7_append 40 = .ok (.iload_n 1, 1) := by decide +kernel
theorem dX7_append_41 : decode cX7_append 41 = .ok (.iastore, 1) := by decide +kernel
theorem dX7_append_42 : decode cX7_append 42 = .ok (.aload_n 0, 1) := by decide +kernel
theorem dX7_append_43 : decode cX7_append 43 = .ok (.dup, 1) := by decide +kernel
theorem dX7_append_44 : decode cX7_append 44 = .ok (.getfield 195, 3) := by decide +kernel
theorem dX7_append_47 : decode cX7_append 47 = .ok (.iconst 1, 1) := by decide +kernel
theorem dX7_append_48 : decode cX7_append 48 = .ok (.iadd, 1) := by decide +kernel
theorem dX7_append_49 : decode cX7_append 49 = .ok (.putfield 195, 3) := by decide +kernel
theorem dX7_append_52 : decode cX7_append 52 = .ok (.aload_n 0, 1) := by decide +kernel
theorem dX7_append_53 : decode cX7_append 53 = .ok (.aload_n 0, 1) := by decide +kernel
theorem dX7_append_54 : decode cX7_append 54 = .ok (.getfield 195, 3) := by decide +kernel
theorem dX7_append_57 : decode cX7_append 57 = .ok (.invokevirtual 54, 3) := by decide +kernel
theorem dX7_append_60 : decode cX7_append 60 = .ok (.ireturn, 1) := by decide +kernel
set_option maxRecDepth 20000 in
theorem ggX7_clearText_X7_tells : GoodIn wsX7_clearText wsX7_tells := goodIn_r _ [6, 7, 8, 9, 10, 11, 12, 13, 14, 15, 16, 17, 18, 19, 20, 21, 22, 23, 24, 25, 26] (by decide +kernel) (by decide +kernel)
set_option maxRecDepth 20000 in
theorem gX7_clearText_X7_tells : GoodIn wsX7_clearText (wsV RX7 54 RX7 yX7_tells wsX7_tells) := goodIn_app (goodIn_of _ (by decide +kernel)) ggX7_clearText_X7_tells
theorem dX7_clearText_0 : decode cX7_clearText 0 = .ok (.aload_n 0, 1) := by decide +kernel
theorem dX7_clearText_1 : decode cX7_clearText 1 = .ok (.getfield 195, 3) := by decide +kernel
theorem dX7_clearText_4 : decode cX7_clearText 4 = .ok (.istore_n 1, 1) := by decide +kernel
theorem dX7_clearText_5 : decode cX7_clearText 5 = .ok (.aload_n 0, 1) := by decide +kernel
theorem dX7_clearText_6 : decode cX7_clearText 6 = .ok (.iconst 0, 1) := by decide +kernel
theorem dX7_clearText_7 : decode cX7_clearText 7 = .ok (.putfield 195, 3) := by decide +kernel
theorem dX7_clearText_10 : decode cX7_clearText 10 = .ok (.aload_n 0, 1) := by decide +kernel
theorem dX7_clearText_11 : decode cX7_clearText 11 = .ok (.iload_n 1, 1) := by decide +kernel
theorem dX7_clearText_12 : decode cX7_clearText 12 = .ok (.invokevirtual 54, 3) := by decide +kernel
theorem dX7_clearText_15 : decode cX7_clearText 15 = .ok (.ireturn, 1) := by decide +kernel
set_option maxRecDepth 20000 in
theorem ggX7_isAt_X7_in : GoodIn wsX7_isAt wsX7_in := goodIn_r _ [7] (by decide +kernel) (by decide +kernel)
set_option maxRecDepth 20000 in
theorem gX7_isAt_X7_in : GoodIn wsX7_isAt (va_wsS RX7 58 yX7_in wsX7_in) := goodIn_app (goodIn_of _ (by decide +kernel)) ggX7_isAt_X7_in
theorem dX7_isAt_0 : decode cX7_isAt 0 = .ok (.aload_n 0, 1) := by decide +kernel
theorem dX7_isAt_1 : decode cX7_isAt 1 = .ok (.getfield 198, 3) := by decide +kernel
theorem dX7_isAt_4 : decode cX7_isAt 4 = .ok (.aload_n 0, 1) := by decide +kernel
theorem dX7_isAt_5 : decode cX7_isAt 5 = .ok (.getfield 195, 3) := by decide +kernel
theorem dX7_isAt_8 : decode cX7_isAt 8 = .ok (.if_icmp .ge 24, 3) := by decide +kernel
theorem dX7_isAt_11 : decode cX7_isAt 11 = .ok (.aload_n 0, 1) := by decide +kernel
theorem dX7_isAt_12 : decode cX7_isAt 12 = .ok (.getfield 19, 3) := by decide +kernel
theorem dX7_isAt_15 : decode cX7_isAt 15 = .ok (.aload_n 0, 1) := by decide +kernel
theorem dX7_isAt_16 : decode cX7_isAt 16 = .ok (.getfield 198, 3) := by decide +kernel
theorem dX7_isAt_19 : decode cX7_isAt 19 = .ok (.iaload, 1) := by decide +kernel
theorem dX7_isAt_20 : decode cX7_isAt 20 = .ok (.iload_n 1, 1) := by decide +kernel
theorem dX7_isAt_21 : decode cX7_isAt 21 = .ok (.iload_n 2, 1) := by decide +kernel
theorem dX7_isAt_22 : decode cX7_isAt 22 = .ok (.invokestatic 58, 3) := by decide +kernel
theorem dX7_isAt_25 : decode cX7_isAt 25 = .ok (.ifCond .eq 7, 3) := by decide +kernel
theorem dX7_isAt_28 : decode cX7_isAt 28 = .ok (.iconst 1, 1) := by decide +kernel
theorem dX7_isAt_29 : decode cX7_isAt 29 = .ok (.goto 4, 3) := by decide +kernel
theorem dX7_isAt_32 : decode cX7_isAt 32 = .ok (.iconst 0, 1) := by decide +kernel
theorem dX7_isAt_33 : decode cX7_isAt 33 = .ok (.ireturn, 1) := by decide +kernel
set_option maxRecDepth 20000 in
theorem ggX7_takes_X7_isAt : GoodIn wsX7_takes wsX7_isAt := goodIn_r _ [6, 1, 7, 8, 9, 10, 5, 11, 12, 13, 14, 15, 16, 17, 18, 19, 20, 21, 22, 23, 24, 25, 26, 27, 28, 29, 30] (by decide +kernel) (by decide +kernel)
set_option maxRecDepth 20000 in
theorem gX7_takes_X7_isAt : GoodIn wsX7_takes (wsV RX7 201 RX7 yX7_isAt wsX7_isAt) := goodIn_app (goodIn_of _ (by decide +kernel)) ggX7_takes_X7_isAt
theorem dX7_takes_0 : decode cX7_takes 0 = .ok (.aload_n 0, 1) := by decide +kernel
theorem dX7_takes_1 : decode cX7_takes 1 = .ok (.iload_n 1, 1) := by decide +kernel
theorem dX7_takes_2 : decode cX7_takes 2 = .ok (.iload_n 1, 1) := by decide +kernel
theorem dX7_takes_3 : decode cX7_takes 3 = .ok (.invokevirtual 201, 3) := by decide +kernel
theorem dX7_takes_6 : decode cX7_takes 6 = .ok (.istore_n 2, 1) := by decide +kernel
theorem dX7_takes_7 : decode cX7_takes 7 = .ok (.aload_n 0, 1) := by decide +kernel
theorem dX7_takes_8 : decode cX7_takes 8 = .ok (.dup, 1) := by decide +kernel
theorem dX7_takes_9 : decode cX7_takes 9 = .ok (.getfield 198, 3) := by decide +kernel
theorem dX7_takes_12 : decode cX7_takes 12 = .ok (.iload_n 2, 1) := by decide +kernel
theorem dX7_takes_13 : decode cX7_takes 13 = .ok (.ifCond .eq 7, 3) := by decide +kernel
theorem dX7_takes_16 : decode cX7_takes 16 = .ok (.iconst 1, 1) := by decide +kernel
theorem dX7_takes_17 : decode cX7_takes 17 = .ok (.goto 4, 3) := by decide +kernel
theorem dX7_takes_20 : decode cX7_takes 20 = .ok (.iconst 0, 1) := by decide +kernel
theorem dX7_takes_21 : decode cX7_takes 21 = .ok (.iadd, 1) := by decide +kernel
theorem dX7_takes_22 : decode cX7_takes 22 = .ok (.putfield 198, 3) := by decide +kernel
theorem dX7_takes_25 : decode cX7_takes 25 = .ok (.iload_n 2, 1) := by decide +kernel
theorem dX7_takes_26 : decode cX7_takes 26 = .ok (.ireturn, 1) := by decide +kernel
set_option maxRecDepth 20000 in
theorem ggX7_isNumber_X7_isAt : GoodIn wsX7_isNumber wsX7_isAt := goodIn_r _ [8, 1, 9, 3, 10, 11, 7, 12, 16, 17, 18, 19, 20, 21, 22, 23, 24, 25, 26, 27, 28, 29, 30, 31, 32, 33, 34] (by decide +kernel) (by decide +kernel)
set_option maxRecDepth 20000 in
theorem gX7_isNumber_X7_isAt : GoodIn wsX7_isNumber (wsV RX7 201 RX7 yX7_isAt wsX7_isAt) := goodIn_app (goodIn_of _ (by decide +kernel)) ggX7_isNumber_X7_isAt
set_option maxRecDepth 20000 in
theorem ggX7_isNumber_X7_isLength : GoodIn wsX7_isNumber wsX7_isLength := goodIn_r _ [15, 10, 11, 7, 12] (by decide +kernel) (by decide +kernel)
set_option maxRecDepth 20000 in
theorem gX7_isNumber_X7_isLength : GoodIn wsX7_isNumber (va_wsS RX7 132 yX7_isLength wsX7_isLength) := goodIn_app (goodIn_of _ (by decide +kernel)) ggX7_isNumber_X7_isLength
theorem dX7_isNumber_0 : decode cX7_isNumber 0 = .ok (.aload_n 0, 1) := by decide +kernel
theorem dX7_isNumber_1 : decode cX7_isNumber 1 = .ok (.getfield 198, 3) := by decide +kernel
theorem dX7_isNumber_4 : decode cX7_isNumber 4 = .ok (.istore_n 1, 1) := by decide +kernel
theorem dX7_isNumber_5 : decode cX7_isNumber 5 = .ok (.aload_n 0, 1) := by decide +kernel
theorem dX7_isNumber_6 : decode cX7_isNumber 6 = .ok (.iconst 0, 1) := by decide +kernel
theorem dX7_isNumber_7 : decode cX7_isNumber 7 = .ok (.putfield 204, 3) := by decide +kernel
theorem dX7_isNumber_10 : decode cX7_isNumber 10 = .ok (.aload_n 0, 1) := by decide +kernel
theorem dX7_isNumber_11 : decode cX7_isNumber 11 = .ok (.getfield 198, 3) := by decide +kernel
theorem dX7_isNumber_14 : decode cX7_isNumber 14 = .ok (.iload_n 1, 1) := by decide +kernel
theorem dX7_isNumber_15 : decode cX7_isNumber 15 = .ok (.isub, 1) := by decide +kernel
theorem dX7_isNumber_16 : decode cX7_isNumber 16 = .ok (.iconst 3, 1) := by decide +kernel
theorem dX7_isNumber_17 : decode cX7_isNumber 17 = .ok (.if_icmp .ge 51, 3) := by decide +kernel
theorem dX7_isNumber_20 : decode cX7_isNumber 20 = .ok (.aload_n 0, 1) := by decide +kernel
theorem dX7_isNumber_21 : decode cX7_isNumber 21 = .ok (.bipush 48, 2) := by decide +kernel
theorem dX7_isNumber_23 : decode cX7_isNumber 23 = .ok (.bipush 57, 2) := by decide +kernel
theorem dX7_isNumber_25 : decode cX7_isNumber 25 = .ok (.invokevirtual 201, 3) := by decide +kernel
theorem dX7_isNumber_28 : decode cX7_isNumber 28 = .ok (.ifCond .eq 40, 3) := by decide +kernel
theorem dX7_isNumber_31 : decode cX7_isNumber 31 = .ok (.aload_n 0, 1) := by decide +kernel
theorem dX7_isNumber_32 : decode cX7_isNumber 32 = .ok (.bipush 10, 2) := by decide +kernel
theorem dX7_isNumber_34 : decode cX7_isNumber 34 = .ok (.aload_n 0, 1) := by decide +kernel
theorem dX7_isNumber_35 : decode cX7_isNumber 35 = .ok (.getfield 204, 3) := by decide +kernel
theorem dX7_isNumber_38 : decode cX7_isNumber 38 = .ok (.imul, 1) := by decide +kernel
theorem dX7_isNumber_39 : decode cX7_isNumber 39 = .ok (.aload_n 0, 1) := by decide +kernel
theorem dX7_isNumber_40 : decode cX7_isNumber 40 = .ok (.getfield 19, 3) := by decide +kernel
theorem dX7_isNumber_43 : decode cX7_isNumber 43 = .ok (.aload_n 0, 1) := by decide +kernel
theorem dX7_isNumber_44 : decode cX7_isNumber 44 = .ok (.getfield 198, 3) := by decide +kernel
theorem dX7_isNumber_47 : decode cX7_isNumber 47 = .ok (.iaload, 1) := by decide +kernel
theorem dX7_isNumber_48 : decode cX7_isNumber 48 = .ok (.iadd, 1) := by decide +kernel
theorem dX7_isNumber_49 : decode cX7_isNumber 49 = .ok (.bipush 48, 2) := by decide +kernel
theorem dX7_isNumber_51 : decode cX7_isNumber 51 = .ok (.isub, 1) := by decide +kernel
theorem dX7_isNumber_52 : decode cX7_isNumber 52 = .ok (.putfield 204, 3) := by decide +kernel
theorem dX7_isNumber_55 : decode cX7_isNumber 55 = .ok (.aload_n 0, 1) := by decide +kernel
theorem dX7_isNumber_56 : decode cX7_isNumber 56 = .ok (.dup, 1) := by decide +kernel
theorem dX7_isNumber_57 : decode cX7_isNumber 57 = .ok (.getfield 198, 3) := by decide +kernel
theorem dX7_isNumber_60 : decode cX7_isNumber 60 = .ok (.iconst 1, 1) := by decide +kernel
theorem dX7_isNumber_61 : decode cX7_isNumber 61 = .ok (.iadd, 1) := by decide +kernel
theorem dX7_isNumber_62 : decode cX7_isNumber 62 = .ok (.putfield 198, 3) := by decide +kernel
theorem dX7_isNumber_65 : decode cX7_isNumber 65 = .ok (.goto (-55), 3) := by decide +kernel
theorem dX7_isNumber_68 : decode cX7_isNumber 68 = .ok (.aload_n 0, 1) := by decide +kernel
theorem dX7_isNumber_69 : decode cX7_isNumber 69 = .ok (.getfield 198, 3) := by decide +kernel
theorem dX7_isNumber_72 : decode cX7_isNumber 72 = .ok (.iload_n 1, 1) := by decide +kernel
theorem dX7_isNumber_73 : decode cX7_isNumber 73 = .ok (.if_icmp .eq 14, 3) := by decide +kernel
theorem dX7_isNumber_76 : decode cX7_isNumber 76 = .ok (.aload_n 0, 1) := by decide +kernel
theorem dX7_isNumber_77 : decode cX7_isNumber 77 = .ok (.bipush 48, 2) := by decide +kernel
theorem dX7_isNumber_79 : decode cX7_isNumber 79 = .ok (.bipush 57, 2) := by decide +kernel
theorem dX7_isNumber_81 : decode cX7_isNumber 81 = .ok (.invokevirtual 201, 3) := by decide +kernel
theorem dX7_isNumber_84 : decode cX7_isNumber 84 = .ok (.ifCond .eq 5, 3) := by decide +kernel
theorem dX7_isNumber_87 : decode cX7_isNumber 87 = .ok (.iconst 0, 1) := by decide +kernel
theorem dX7_isNumber_88 : decode cX7_isNumber 88 = .ok (.ireturn, 1) := by decide +kernel
theorem dX7_isNumber_89 : decode cX7_isNumber 89 = .ok (.aload_n 0, 1) := by decide +kernel
theorem dX7_isNumber_90 : decode cX7_isNumber 90 = .ok (.getfield 204, 3) := by decide +kernel
theorem dX7_isNumber_93 : decode cX7_isNumber 93 = .ok (.invokestatic 132, 3) := by decide +kernel
theorem dX7_isNumber_96 : decode cX7_isNumber 96 = .ok (.istore_n 2, 1) := by decide +kernel
theorem dX7_isNumber_97 : decode cX7_isNumber 97 = .ok (.aload_n 0, 1) := by decide +kernel
theorem dX7_isNumber_98 : decode cX7_isNumber 98 = .ok (.iload_n 2, 1) := by decide +kernel
theorem dX7_isNumber_99 : decode cX7_isNumber 99 = .ok (.ifCond .eq 10, 3) := by decide +kernel
theorem dX7_isNumber_102 : decode cX7_isNumber 102 = .ok (.aload_n 0, 1) := by decide +kernel
theorem dX7_isNumber_103 : decode cX7_isNumber 103 = .ok (.getfield 198, 3) := by decide +kernel
theorem dX7_isNumber_106 : decode cX7_isNumber 106 = .ok (.goto 4, 3) := by decide +kernel
theorem dX7_isNumber_109 : decode cX7_isNumber 109 = .ok (.iload_n 1, 1) := by decide +kernel
theorem dX7_isNumber_110 : decode cX7_isNumber 110 = .ok (.putfield 198, 3) := by decide +kernel
theorem dX7_isNumber_113 : decode cX7_isNumber 113 = .ok (.iload_n 2, 1) := by decide +kernel
theorem dX7_isNumber_114 : decode cX7_isNumber 114 = .ok (.ireturn, 1) := by decide +kernel
theorem dX7_kindOf_0 : decode cX7_kindOf 0 = .ok (.iload_n 0, 1) := by decide +kernel
theorem dX7_kindOf_1 : decode cX7_kindOf 1 = .ok (.lookupswitch 61 #[(97, 53), (104, 51), (110, 55), (114, 59), (115, 57)], 51) := by decide +kernel
theorem dX7_kindOf_52 : decode cX7_kindOf 52 = .ok (.iconst 0, 1) := by decide +kernel
theorem dX7_kindOf_53 : decode cX7_kindOf 53 = .ok (.ireturn, 1) := by decide +kernel
theorem dX7_kindOf_54 : decode cX7_kindOf 54 = .ok (.iconst 1, 1) := by decide +kernel
theorem dX7_kindOf_55 : decode cX7_kindOf 55 = .ok (.ireturn, 1) := by decide +kernel
theorem dX7_kindOf_56 : decode cX7_kindOf 56 = .ok (.iconst 2, 1) := by decide +kernel
theorem dX7_kindOf_57 : decode cX7_kindOf 57 = .ok (.ireturn, 1) := by decide +kernel
theorem dX7_kindOf_58 : decode cX7_kindOf 58 = .ok (.iconst 3, 1) := by decide +kernel
theorem dX7_kindOf_59 : decode cX7_kindOf 59 = .ok (.ireturn, 1) := by decide +kernel
theorem dX7_kindOf_60 : decode cX7_kindOf 60 = .ok (.iconst 4, 1) := by decide +kernel
theorem dX7_kindOf_61 : decode cX7_kindOf 61 = .ok (.ireturn, 1) := by decide +kernel
theorem dX7_kindOf_62 : decode cX7_kindOf 62 = .ok (.iconst (-1), 1) := by decide +kernel
theorem dX7_kindOf_63 : decode cX7_kindOf 63 = .ok (.ireturn, 1) := by decide +kernel
set_option maxRecDepth 20000 in
theorem ggX7_isItem_X7_kindOf : GoodIn wsX7_isItem wsX7_kindOf := goodIn_r _ [8] (by decide +kernel) (by decide +kernel)
set_option maxRecDepth 20000 in
theorem gX7_isItem_X7_kindOf : GoodIn wsX7_isItem (va_wsS RX7 207 yX7_kindOf wsX7_kindOf) := goodIn_app (goodIn_of _ (by decide +kernel)) ggX7_isItem_X7_kindOf
set_option maxRecDepth 20000 in
theorem ggX7_isItem_X7_isAt : GoodIn wsX7_isItem wsX7_isAt := goodIn_r _ [12, 2, 13, 1, 14, 15, 7, 16, 36, 37, 38, 39, 40, 41, 42, 43, 44, 45, 46, 47, 48, 49, 50, 51, 52, 53, 54] (by decide +kernel) (by decide +kernel)
set_option maxRecDepth 20000 in
theorem gX7_isItem_X7_isAt : GoodIn wsX7_isItem (wsV RX7 201 RX7 yX7_isAt wsX7_isAt) := goodIn_app (goodIn_of _ (by decide +kernel)) ggX7_isItem_X7_isAt
set_option maxRecDepth 20000 in
theorem ggX7_isItem_X7_takes : GoodIn wsX7_isItem wsX7_takes := goodIn_r _ [20, 2, 9, 10, 11, 7, 12, 13, 1, 14, 15, 16, 36, 37, 38, 39, 40, 41, 42, 43, 44, 45, 46, 47, 48, 49, 50, 51, 52, 53, 54] (by decide +kernel) (by decide +kernel)
set_option maxRecDepth 20000 in
theorem gX7_isItem_X7_takes : GoodIn wsX7_isItem (wsV RX7 210 RX7 yX7_takes wsX7_takes) := goodIn_app (goodIn_of _ (by decide +kernel)) ggX7_isItem_X7_takes
set_option maxRecDepth 20000 in
theorem ggX7_isItem_X7_isNumber : GoodIn wsX7_isItem wsX7_isNumber := goodIn_r _ [24, 2, 4, 1, 9, 10, 11, 7, 12, 13, 14, 15, 16, 25, 26, 27, 36, 37, 38, 39, 40, 41, 42, 43, 44, 45, 46, 47, 48, 49, 50, 51, 52, 53, 54] (by decide +kernel) (by decide +kernel)
set_option maxRecDepth 20000 in
theorem gX7_isItem_X7_isNumber : GoodIn wsX7_isItem (wsV RX7 213 RX7 yX7_isNumber wsX7_isNumber) := goodIn_app (goodIn_of _ (by decide +kernel)) ggX7_isItem_X7_isNumber
set_option maxRecDepth 20000 in
theorem ggX7_isItem_X7_comes : GoodIn wsX7_isItem wsX7_comes := goodIn_r _ [31, 3, 32, 33, 34, 7, 35, 36, 37, 38, 39, 40, 41, 42, 43, 44, 45, 46, 47, 48, 49, 50, 51, 52, 53, 54] (by decide +kernel) (by decide +kernel)
set_option maxRecDepth 20000 in
theorem gX7_isItem_X7_comes : GoodIn wsX7_isItem (wsV RX7 138 RX7 yX7_comes wsX7_comes) := goodIn_app (goodIn_of _ (by decide +kernel)) ggX7_isItem_X7_comes
theorem dX7_isItem_0 : decode cX7_isItem 0 = .ok (.aload_n 0, 1) := by decide +kernel
theorem dX7_isItem_1 : decode cX7_isItem 1 = .ok (.getfield 19, 3) := by decide +kernel
theorem dX7_isItem_4 : decode cX7_isItem 4 = .ok (.aload_n 0, 1) := by decide +kernel
theorem dX7_isItem_5 : decode cX7_isItem 5 = .ok (.getfield 198, 3) := by decide +kernel
theorem dX7_isItem_8 : decode cX7_isItem 8 = .ok (.iaload, 1) := by decide +kernel
theorem dX7_isItem_9 : decode cX7_isItem 9 = .ok (.invokestatic 207, 3) := by decide +kernel
theorem dX7_isItem_12 : decode cX7_isItem 12 = .ok (.istore_n 1, 1) := by decide +kernel
theorem dX7_isItem_13 : decode cX7_isItem 13 = .ok (.iload_n 1, 1) := by decide +kernel
theorem dX7_isItem_14 : decode cX7_isItem 14 = .ok (.iconst (-1), 1) := by decide +kernel
theorem dX7_isItem_15 : decode cX7_isItem 15 = .ok (.if_icmp .eq 14, 3) := by decide +kernel
theorem dX7_isItem_18 : decode cX7_isItem 18 = .ok (.aload_n 0, 1) := by decide +kernel
theorem dX7_isItem_19 : decode cX7_isItem 19 = .ok (.getfield 7, 3) := by decide +kernel
theorem dX7_isItem_22 : decode cX7_isItem 22 = .ok (.iconst 1, 1) := by decide +kernel
theorem dX7_isItem_23 : decode cX7_isItem 23 = .ok (.iaload, 1) := by decide +kernel
theorem dX7_isItem_24 : decode cX7_isItem 24 = .ok (.bipush 60, 2) := by decide +kernel
theorem dX7_isItem_26 : decode cX7_isItem 26 = .ok (.if_icmp .ne 5, 3) := by decide +kernel
theorem dX7_isItem_29 : decode cX7_isItem 29 = .ok (.iconst 0, 1) := by decide +kernel
theorem dX7_isItem_30 : decode cX7_isItem 30 = .ok (.ireturn, 1) := by decide +kernel
theorem dX7_isItem_31 : decode cX7_isItem 31 = .ok (.aload_n 0, 1) := by decide +kernel
theorem dX7_isItem_32 : decode cX7_isItem 32 = .ok (.dup, 1) := by decide +kernel
theorem dX7_isItem_33 : decode cX7_isItem 33 = .ok (.getfield 198, 3) := by decide +kernel
theorem dX7_isItem_36 : decode cX7_isItem 36 = .ok (.iconst 1, 1) := by decide +kernel
theorem dX7_isItem_37 : decode cX7_isItem 37 = .ok (.iadd, 1) := by decide +kernel
theorem dX7_isItem_38 : decode cX7_isItem 38 = .ok (.putfield 198, 3) := by decide +kernel
theorem dX7_isItem_41 : decode cX7_isItem 41 = .ok (.iconst (-1), 1) := by decide +kernel
theorem dX7_isItem_42 : decode cX7_isItem 42 = .ok (.istore_n 2, 1) := by decide +kernel
theorem dX7_isItem_43 : decode cX7_isItem 43 = .ok (.iload_n 1, 1) := by decide +kernel
theorem dX7_isItem_44 : decode cX7_isItem 44 = .ok (.iconst 2, 1) := by decide +kernel
theorem dX7_isItem_45 : decode cX7_isItem 45 = .ok (.if_icmp .ne 45, 3) := by decide +kernel
theorem dX7_isItem_48 : decode cX7_isItem 48 = .ok (.aload_n 0, 1) := by decide +kernel
theorem dX7_isItem_49 : decode cX7_isItem 49 = .ok (.bipush 48, 2) := by decide +kernel
theorem dX7_isItem_51 : decode cX7_isItem 51 = .ok (.bipush 57, 2) := by decide +kernel
theorem dX7_isItem_53 : decode cX7_isItem 53 = .ok (.invokevirtual 201, 3) := by decide +kernel
theorem dX7_isItem_56 : decode cX7_isItem 56 = .ok (.ifCond .ne 5, 3) := by decide +kernel
theorem dX7_isItem_59 : decode cX7_isItem 59 = .ok (.iconst 0, 1) := by decide +kernel
theorem dX7_isItem_60 : decode cX7_isItem 60 = .ok (.ireturn, 1) := by decide +kernel
theorem dX7_isItem_61 : decode cX7_isItem 61 = .ok (.aload_n 0, 1) := by decide +kernel
theorem dX7_isItem_62 : decode cX7_isItem 62 = .ok (.getfield 19, 3) := by decide +kernel
theorem dX7_isItem_65 : decode cX7_isItem 65 = .ok (.aload_n 0, 1) := by decide +kernel
theorem dX7_isItem_66 : decode cX7_isItem 66 = .ok (.getfield 198, 3) := by decide +kernel
theorem dX7_isItem_69 : decode cX7_isItem 69 = .ok (.iaload, 1) := by decide +kernel
theorem dX7_isItem_70 : decode cX7_isItem 70 = .ok (.bipush 48, 2) := by decide +kernel
theorem dX7_isItem_72 : decode cX7_isItem 72 = .ok (.isub, 1) := by decide +kernel
theorem dX7_isItem_73 : decode cX7_isItem 73 = .ok (.istore_n 2, 1) := by decide +kernel
theorem dX7_isItem_74 : decode cX7_isItem 74 = .ok (.aload_n 0, 1) := by decide +kernel
theorem dX7_isItem_75 : decode cX7_isItem 75 = .ok (.dup, 1) := by decide +kernel
theorem dX7_isItem_76 : decode cX7_isItem 76 = .ok (.getfield 198, 3) := by decide +kernel
theorem dX7_isItem_79 : decode cX7_isItem 79 = .ok (.iconst 1, 1) := by decide +kernel
theorem dX7_isItem_80 : decode cX7_isItem 80 = .ok (.iadd, 1) := by decide +kernel
theorem dX7_isItem_81 : decode cX7_isItem 81 = .ok (.putfield 198, 3) := by decide +kernel
theorem dX7_isItem_84 : decode cX7_isItem 84 = .ok (.aload_n 0, 1) := by decide +kernel
theorem dX7_isItem_85 : decode cX7_isItem 85 = .ok (.bipush 10, 2) := by decide +kernel
theorem dX7_isItem_87 : decode cX7_isItem 87 = .ok (.putfield 204, 3) := by decide +kernel
theorem dX7_isItem_90 : decode cX7_isItem 90 = .ok (.iload_n 1, 1) := by decide +kernel
theorem dX7_isItem_91 : decode cX7_isItem 91 = .ok (.iconst 2, 1) := by decide +kernel
theorem dX7_isItem_92 : decode cX7_isItem 92 = .ok (.if_icmp .ne 12, 3) := by decide +kernel
theorem dX7_isItem_95 : decode cX7_isItem 95 = .ok (.aload_n 0, 1) := by decide +kernel
theorem dX7_isItem_96 : decode cX7_isItem 96 = .ok (.bipush 44, 2) := by decide +kernel
theorem dX7_isItem_98 : decode cX7_isItem 98 = .ok (.invokevirtual 210, 3) := by decide +kernel
theorem dX7_isItem_101 : decode cX7_isItem 101 = .ok (.ifCond .eq 12, 3) := by decide +kernel
theorem dX7_isItem_104 : decode cX7_isItem 104 = .ok (.aload_n 0, 1) := by decide +kernel
theorem dX7_isItem_105 : decode cX7_isItem 105 = .ok (.invokevirtual 213, 3) := by decide +kernel
theorem dX7_isItem_108 : decode cX7_isItem 108 = .ok (.ifCond .ne 5, 3) := by decide +kernel
theorem dX7_isItem_111 : decode cX7_isItem 111 = .ok (.iconst 0, 1) := by decide +kernel
theorem dX7_isItem_112 : decode cX7_isItem 112 = .ok (.ireturn, 1) := by decide +kernel
theorem dX7_isItem_113 : decode cX7_isItem 113 = .ok (.aload_n 0, 1) := by decide +kernel
theorem dX7_isItem_114 : decode cX7_isItem 114 = .ok (.bipush 59, 2) := by decide +kernel
theorem dX7_isItem_116 : decode cX7_isItem 116 = .ok (.invokevirtual 210, 3) := by decide +kernel
theorem dX7_isItem_119 : decode cX7_isItem 119 = .ok (.ifCond .ne 5, 3) := by decide +kernel
theorem dX7_isItem_122 : decode cX7_isItem 122 = .ok (.iconst 0, 1) := by decide +kernel
theorem dX7_isItem_123 : decode cX7_isItem 123 = .ok (.ireturn, 1) := by decide +kernel
theorem dX7_isItem_124 : decode cX7_isItem 124 = .ok (.aload_n 0, 1) := by decide +kernel
theorem dX7_isItem_125 : decode cX7_isItem 125 = .ok (.aload_n 0, 1) := by decide +kernel
theorem dX7_isItem_126 : decode cX7_isItem 126 = .ok (.getfield 7, 3) := by decide +kernel
theorem dX7_isItem_129 : decode cX7_isItem 129 = .ok (.iconst 1, 1) := by decide +kernel
theorem dX7_isItem_130 : decode cX7_isItem 130 = .ok (.iaload, 1) := by decide +kernel
theorem dX7_isItem_131 : decode cX7_isItem 131 = .ok (.iload_n 1, 1) := by decide +kernel
theorem dX7_isItem_132 : decode cX7_isItem 132 = .ok (.aload_n 0, 1) := by decide +kernel
theorem dX7_isItem_133 : decode cX7_isItem 133 = .ok (.getfield 204, 3) := by decide +kernel
theorem dX7_isItem_136 : decode cX7_isItem 136 = .ok (.iload_n 2, 1) := by decide +kernel
theorem dX7_isItem_137 : decode cX7_isItem 137 = .ok (.invokevirtual 138, 3) := by decide +kernel
theorem dX7_isItem_140 : decode cX7_isItem 140 = .ok (.iconst 1, 1) := by decide +kernel
theorem dX7_isItem_141 : decode cX7_isItem 141 = .ok (.ireturn, 1) := by decide +kernel
set_option maxRecDepth 20000 in
theorem ggX7_parse_X7_hold : GoodIn wsX7_parse wsX7_hold := goodIn_r _ [10, 5, 2, 11, 12, 9, 13, 59, 60, 61, 62, 63, 64, 65, 66, 67, 68, 69, 70, 71, 72, 73, 74, 75, 76, 77] (by decide +kernel) (by decide +kernel)
set_option maxRecDepth 20000 in
theorem gX7_parse_X7_hold : GoodIn wsX7_parse (wsV RX7 135 RX7 yX7_hold wsX7_hold) := goodIn_app (goodIn_of _ (by decide +kernel)) ggX7_parse_X7_hold
set_option maxRecDepth 20000 in
theorem ggX7_parse_X7_isItem : GoodIn wsX7_parse wsX7_isItem := goodIn_r _ [17, 18, 3, 2, 19, 20, 21, 9, 22, 23, 24, 25, 26, 4, 27, 28, 29, 30, 31, 32, 33, 34, 35, 36, 37, 38, 39, 40, 41, 42, 43, 44, 45, 46, 47, 48, 59, 60, 61, 62, 63, 64, 65, 66, 67, 68, 69, 70, 71, 72, 73, 74, 75, 76, 77] (by decide +kernel) (by decide +kernel)
set_option maxRecDepth 20000 in
theorem gX7_parse_X7_isItem : GoodIn wsX7_parse (wsV RX7 216 RX7 yX7_isItem wsX7_isItem) := goodIn_app (goodIn_of _ (by decide +kernel)) ggX7_parse_X7_isItem
set_option maxRecDepth 20000 in
theorem ggX7_parse_X7_copies : GoodIn wsX7_parse wsX7_copies := goodIn_r _ [13] (by decide +kernel) (by decide +kernel)
set_option maxRecDepth 20000 in
theorem gX7_parse_X7_copies : GoodIn wsX7_parse (va_wsS RX7 47 yX7_copies wsX7_copies) := goodIn_app (goodIn_of _ (by decide +kernel)) ggX7_parse_X7_copies
set_option maxRecDepth 20000 in
theorem ggX7_parse_X7_ends : GoodIn wsX7_parse wsX7_ends := goodIn_r _ [52, 53, 54, 5, 55, 56, 57, 9, 58, 1, 59, 60, 61, 62, 63, 64, 65, 66, 67, 68, 69, 70, 71, 72, 73, 74, 75, 76, 77] (by decide +kernel) (by decide +kernel)
set_option maxRecDepth 20000 in
theorem gX7_parse_X7_ends : GoodIn wsX7_parse (wsV RX7 146 RX7 yX7_ends wsX7_ends) := goodIn_app (goodIn_of _ (by decide +kernel)) ggX7_parse_X7_ends
theorem dX7_parse_0 : decode cX7_parse 0 = .ok (.aload_n 0, 1) := by decide +kernel
theorem dX7_parse_1 : decode cX7_parse 1 = .ok (.iconst 0, 1) := by decide +kernel
theorem dX7_parse_2 : decode cX7_parse 2 = .ok (.putfield 43, 3) := by decide +kernel
theorem dX7_parse_5 : decode cX7_parse 5 = .ok (.aload_n 0, 1) := by decide +kernel
theorem dX7_parse_6 : decode cX7_parse 6 = .ok (.invokevirtual 135, 3) := by decide +kernel
theorem dX7_parse_9 : decode cX7_parse 9 = .ok (.aload_n 0, 1) := by decide +kernel
theorem dX7_parse_10 : decode cX7_parse 10 = .ok (.getfield 7, 3) := by decide +kernel
theorem dX7_parse_13 : decode cX7_parse 13 = .ok (.iconst 1, 1) := by decide +kernel
theorem dX7_parse_14 : decode cX7_parse 14 = .ok (.iconst 0, 1) := by decide +kernel
theorem dX7_parse_15 : decode cX7_parse 15 = .ok (.iastore, 1) := by decide +kernel
theorem dX7_parse_16 : decode cX7_parse 16 = .ok (.aload_n 0, 1) := by decide +kernel
theorem dX7_parse_17 : decode cX7_parse 17 = .ok (.iconst 0, 1) := by decide +kernel
theorem dX7_parse_18 : decode cX7_parse 18 = .ok (.putfield 198, 3) := by decide +kernel
theorem dX7_parse_21 : decode cX7_parse 21 = .ok (.aload_n 0, 1) := by decide +kernel
theorem dX7_parse_22 : decode cX7_parse 22 = .ok (.getfield 198, 3) := by decide +kernel
theorem dX7_parse_25 : decode cX7_parse 25 = .ok (.aload_n 0, 1) := by decide +kernel
theorem dX7_parse_26 : decode cX7_parse 26 = .ok (.getfield 195, 3) := by decide +kernel
theorem dX7_parse_29 : decode cX7_parse 29 = .ok (.if_icmp .ge 29, 3) := by decide +kernel
theorem dX7_parse_32 : decode cX7_parse 32 = .ok (.aload_n 0, 1) := by decide +kernel
theorem dX7_parse_33 : decode cX7_parse 33 = .ok (.invokevirtual 216, 3) := by decide +kernel
theorem dX7_parse_36 : decode cX7_parse 36 = .ok (.ifCond .ne (-15), 3) := by decide +kernel
theorem dX7_parse_39 : decode cX7_parse 39 = .ok (.aload_n 0, 1) := by decide +kernel
theorem dX7_parse_40 : decode cX7_parse 40 = .ok (.getfield 7, 3) := by decide +kernel
theorem dX7_parse_43 : decode cX7_parse 43 = .ok (.aload_n 0, 1) := by decide +kernel
theorem dX7_parse_44 : decode cX7_parse 44 = .ok (.getfield 16, 3) := by decide +kernel
theorem dX7_parse_47 : decode cX7_parse 47 = .ok (.invokestatic 47, 3) := by decide +kernel
theorem dX7_parse_50 : decode cX7_parse 50 = .ok (.bipush (-10), 2) := by decide +kernel
theorem dX7_parse_52 : decode cX7_parse 52 = .ok (.aload_n 0, 1) := by decide +kernel
theorem dX7_parse_53 : decode cX7_parse 53 = .ok (.getfield 198, 3) := by decide +kernel
theorem dX7_parse_56 : decode cX7_parse 56 = .ok (.isub, 1) := by decide +kernel
theorem dX7_parse_57 : decode cX7_parse 57 = .ok (.ireturn, 1) := by decide +kernel
theorem dX7_parse_58 : decode cX7_parse 58 = .ok (.aload_n 0, 1) := by decide +kernel
theorem dX7_parse_59 : decode cX7_parse 59 = .ok (.aload_n 0, 1) := by decide +kernel
theorem dX7_parse_60 : decode cX7_parse 60 = .ok (.getfield 7, 3) := by decide +kernel
theorem dX7_parse_63 : decode cX7_parse 63 = .ok (.iconst 1, 1) := by decide +kernel
theorem dX7_parse_64 : decode cX7_parse 64 = .ok (.iaload, 1) := by decide +kernel
theorem dX7_parse_65 : decode cX7_parse 65 = .ok (.invokevirtual 146, 3) := by decide +kernel
theorem dX7_parse_68 : decode cX7_parse 68 = .ok (.ireturn, 1) := by decide +kernel
set_option maxRecDepth 20000 in
theorem ggX7_undo_X7_fails : GoodIn wsX7_undo wsX7_fails := goodIn_r _ [8, 9, 14, 15, 16, 17, 18, 19, 20, 21, 22, 23, 24, 25, 26, 27, 28, 29, 30, 31, 32] (by decide +kernel) (by decide +kernel)
set_option maxRecDepth 20000 in
theorem gX7_undo_X7_fails : GoodIn wsX7_undo (wsV RX7 129 RX7 yX7_fails wsX7_fails) := goodIn_app (goodIn_of _ (by decide +kernel)) ggX7_undo_X7_fails
set_option maxRecDepth 20000 in
theorem ggX7_undo_X7_tells : GoodIn wsX7_undo wsX7_tells := goodIn_r _ [13, 9, 14, 15, 16, 17, 18, 19, 20, 21, 22, 23, 24, 25, 26, 27, 28, 29, 30, 31, 32] (by decide +kernel) (by decide +kernel)
set_option maxRecDepth 20000 in
theorem gX7_undo_X7_tells : GoodIn wsX7_undo (wsV RX7 54 RX7 yX7_tells wsX7_tells) := goodIn_app (goodIn_of _ (by decide +kernel)) ggX7_undo_X7_tells
theorem dX7_undo_0 : decode cX7_undo 0 = .ok (.aload_n 0, 1) := by decide +kernel
theorem dX7_undo_1 : decode cX7_undo 1 = .ok (.getfield 51, 3) := by decide +kernel
theorem dX7_undo_4 : decode cX7_undo 4 = .ok (.ifCond .ne 9, 3) := by decide +kernel
theorem dX7_undo_7 : decode cX7_undo 7 = .ok (.aload_n 0, 1) := by decide +kernel
theorem dX7_undo_8 : decode cX7_undo 8 = .ok (.iconst 1, 1) := by decide +kernel
theorem dX7_undo_9 : decode cX7_undo 9 = .ok (.invokevirtual 129, 3) := by decide +kernel
theorem dX7_undo_12 : decode cX7_undo 12 = .ok (.ireturn, 1) := by decide +kernel
theorem dX7_undo_13 : decode cX7_undo 13 = .ok (.aload_n 0, 1) := by decide +kernel
theorem dX7_undo_14 : decode cX7_undo 14 = .ok (.dup, 1) := by decide +kernel
theorem dX7_undo_15 : decode cX7_undo 15 = .ok (.getfield 51, 3) := by decide +kernel
theorem dX7_undo_18 : decode cX7_undo 18 = .ok (.iconst 1, 1) := by decide +kernel
theorem dX7_undo_19 : decode cX7_undo 19 = .ok (.isub, 1) := by decide +kernel
theorem dX7_undo_20 : decode cX7_undo 20 = .ok (.putfield 51, 3) := by decide +kernel
theorem dX7_undo_23 : decode cX7_undo 23 = .ok (.iconst 0, 1) := by decide +kernel
theorem dX7_undo_24 : decode cX7_undo 24 = .ok (.istore_n 1, 1) := by decide +kernel
theorem dX7_undo_25 : decode cX7_undo 25 = .ok (.iload_n 1, 1) := by decide +kernel
theorem dX7_undo_26 : decode cX7_undo 26 = .ok (.sipush 542, 3) := by decide +kernel
theorem dX7_undo_29 : decode cX7_undo 29 = .ok (.if_icmp .ge 30, 3) := by decide +kernel
theorem dX7_undo_32 : decode cX7_undo 32 = .ok (.aload_n 0, 1) := by decide +kernel
theorem dX7_undo_33 : decode cX7_undo 33 = .ok (.getfield 7, 3) := by decide +kernel
theorem dX7_undo_36 : decode cX7_undo 36 = .ok (.iload_n 1, 1) := by decide +kernel
theorem dX7_undo_37 : decode cX7_undo 37 = .ok (.aload_n 0, 1) := by decide +kernel
theorem dX7_undo_38 : decode cX7_undo 38 = .ok (.getfield 13, 3) := by decide +kernel
theorem dX7_undo_41 : decode cX7_undo 41 = .ok (.sipush 542, 3) := by decide +kernel
theorem dX7_undo_44 : decode cX7_undo 44 = .ok (.aload_n 0, 1) := by decide +kernel
theorem dX7_undo_45 : decode cX7_undo 45 = .ok (.getfield 51, 3) := by decide +kernel
theorem dX7_undo_48 : decode cX7_undo 48 = .ok (.imul, 1) := by decide +kernel
theorem dX7_undo_49 : decode cX7_undo 49 = .ok (.iload_n 1, 1) := by decide +kernel
theorem dX7_undo_50 : decode cX7_undo 50 = .ok (.iadd, 1) := by decide +kernel
theorem dX7_undo_51 : decode cX7_undo 51 = .ok (.iaload, 1) := by decide +kernel
theorem dX7_undo_52 : decode cX7_undo 52 = .ok (.iastore, 1) := by decide +kernel
theorem dX7_undo_53 : decode cX7_undo 53 = .ok (.iinc 1 1, 3) := by decide +kernel
theorem dX7_undo_56 : decode cX7_undo 56 = .ok (.goto (-31), 3) := by decide +kernel
theorem dX7_undo_59 : decode cX7_undo 59 = .ok (.aload_n 0, 1) := by decide +kernel
theorem dX7_undo_60 : decode cX7_undo 60 = .ok (.aload_n 0, 1) := by decide +kernel
theorem dX7_undo_61 : decode cX7_undo 61 = .ok (.getfield 51, 3) := by decide +kernel
theorem dX7_undo_64 : decode cX7_undo 64 = .ok (.invokevirtual 54, 3) := by decide +kernel
theorem dX7_undo_67 : decode cX7_undo 67 = .ok (.ireturn, 1) := by decide +kernel
theorem dX7_mix_0 : decode cX7_mix 0 = .ok (.aload_n 0, 1) := by decide +kernel
theorem dX7_mix_1 : decode cX7_mix 1 = .ok (.ldc2_w 219, 3) := by decide +kernel
theorem dX7_mix_4 : decode cX7_mix 4 = .ok (.aload_n 0, 1) := by decide +kernel
theorem dX7_mix_5 : decode cX7_mix 5 = .ok (.getfield 221, 3) := by decide +kernel
theorem dX7_mix_8 : decode cX7_mix 8 = .ok (.lmul, 1) := by decide +kernel
theorem dX7_mix_9 : decode cX7_mix 9 = .ok (.iload_n 1, 1) := by decide +kernel
theorem dX7_mix_10 : decode cX7_mix 10 = .ok (.i2l, 1) := by decide +kernel
theorem dX7_mix_11 : decode cX7_mix 11 = .ok (.ladd, 1) := by decide +kernel
theorem dX7_mix_12 : decode cX7_mix 12 = .ok (.putfield 221, 3) := by decide +kernel
theorem dX7_mix_15 : decode cX7_mix 15 = .ok (.return_, 1) := by decide +kernel
set_option maxRecDepth 20000 in
theorem ggX7_digest_X7_setsAll : GoodIn wsX7_digest wsX7_setsAll := goodIn_r _ [12, 6, 13, 2, 14, 15, 16, 11, 17, 18, 19, 20, 21, 22, 23, 24, 25, 26, 27, 28, 29, 30, 31, 32, 33, 34, 35, 36, 37, 38, 39, 40, 41, 42, 43, 44, 45, 46, 47, 48, 49, 50, 51, 52, 53, 54, 55, 56, 57, 58, 59, 60, 61, 62, 124, 125, 126, 127, 128, 129, 130, 131, 132, 133, 134, 135, 136, 137, 138, 139, 140, 141, 142] (by decide +kernel) (by decide +kernel)
set_option maxRecDepth 20000 in
theorem gX7_digest_X7_setsAll : GoodIn wsX7_digest (wsV RX7 117 RX7 yX7_setsAll wsX7_setsAll) := goodIn_app (goodIn_of _ (by decide +kernel)) ggX7_digest_X7_setsAll
set_option maxRecDepth 20000 in
theorem ggX7_digest_X7_mix : GoodIn wsX7_digest wsX7_mix := goodIn_r _ [66, 67, 4, 124, 125, 126, 127, 128, 129, 130, 131, 132, 133, 134, 135, 136, 137, 138, 139, 140, 141, 142] (by decide +kernel) (by decide +kernel)
set_option maxRecDepth 20000 in
theorem gX7_digest_X7_mix : GoodIn wsX7_digest (wsV RX7 227 RX7 yX7_mix wsX7_mix) := goodIn_app (goodIn_of _ (by decide +kernel)) ggX7_digest_X7_mix
set_option maxRecDepth 20000 in
theorem ggX7_digest_X7_valueOf : GoodIn wsX7_digest wsX7_valueOf := goodIn_r _ [71, 2, 6, 13, 72, 73, 74, 11, 75, 48, 49, 50, 51, 28, 29, 30, 31, 76, 77, 78, 79, 80, 81, 82, 83, 84, 85, 86, 87, 88, 89, 90, 91, 92, 93, 94, 95, 96, 97, 98, 99, 124, 125, 126, 127, 128, 129, 130, 131, 132, 133, 134, 135, 136, 137, 138, 139, 140, 141, 142] (by decide +kernel) (by decide +kernel)
set_option maxRecDepth 20000 in
theorem gX7_digest_X7_valueOf : GoodIn wsX7_digest (wsV RX7 174 RX7 yX7_valueOf wsX7_valueOf) := goodIn_app (goodIn_of _ (by decide +kernel)) ggX7_digest_X7_valueOf
set_option maxRecDepth 20000 in
theorem ggX7_digest_X7_elementOf : GoodIn wsX7_digest wsX7_elementOf := goodIn_r _ [103, 25, 26, 27, 52, 53, 54, 11, 55, 28, 29, 30, 31, 2, 56, 57, 58, 96, 97, 98, 99, 48, 49, 50, 51, 92, 93, 94, 95, 124, 125, 126, 127, 128, 129, 130, 131, 132, 133, 134, 135, 136, 137, 138, 139, 140, 141, 142] (by decide +kernel) (by decide +kernel)
set_option maxRecDepth 20000 in
theorem gX7_digest_X7_elementOf : GoodIn wsX7_digest (wsV RX7 177 RX7 yX7_elementOf wsX7_elementOf) := goodIn_app (goodIn_of _ (by decide +kernel)) ggX7_digest_X7_elementOf
set_option maxRecDepth 20000 in
theorem ggX7_digest_X7_sceneMany : GoodIn wsX7_digest wsX7_sceneMany := goodIn_r _ [75, 2, 48, 49, 50, 11, 51, 28, 29, 30, 31, 124, 125, 126, 127, 128, 129, 130, 131, 132, 133, 134, 135, 136, 137, 138, 139, 140, 141, 142] (by decide +kernel) (by decide +kernel)
set_option maxRecDepth 20000 in
theorem gX7_digest_X7_sceneMany : GoodIn wsX7_digest (wsV RX7 158 RX7 yX7_sceneMany wsX7_sceneMany) := goodIn_app (goodIn_of _ (by decide +kernel)) ggX7_digest_X7_sceneMany
set_option maxRecDepth 20000 in
theorem ggX7_digest_X7_sceneTold : GoodIn wsX7_digest wsX7_sceneTold := goodIn_r _ [107, 2, 25, 108, 109, 110, 11, 111, 48, 49, 50, 51, 28, 29, 30, 31, 52, 53, 54, 55, 56, 57, 58, 112, 113, 114, 115, 80, 81, 82, 83, 124, 125, 126, 127, 128, 129, 130, 131, 132, 133, 134, 135, 136, 137, 138, 139, 140, 141, 142] (by decide +kernel) (by decide +kernel)
set_option maxRecDepth 20000 in
theorem gX7_digest_X7_sceneTold : GoodIn wsX7_digest (wsV RX7 180 RX7 yX7_sceneTold wsX7_sceneTold) := goodIn_app (goodIn_of _ (by decide +kernel)) ggX7_digest_X7_sceneTold
set_option maxRecDepth 20000 in
theorem ggX7_digest_X7_pageTold : GoodIn wsX7_digest wsX7_pageTold := goodIn_r _ [119, 18, 19, 20, 120, 121, 122, 11, 123, 84, 85, 86, 87, 2, 28, 29, 30, 31, 124, 125, 126, 127, 128, 129, 130, 131, 132, 133, 134, 135, 136, 137, 138, 139, 140, 141, 142] (by decide +kernel) (by decide +kernel)
set_option maxRecDepth 20000 in
theorem gX7_digest_X7_pageTold : GoodIn wsX7_digest (wsV RX7 186 RX7 yX7_pageTold wsX7_pageTold) := goodIn_app (goodIn_of _ (by decide +kernel)) ggX7_digest_X7_pageTold
theorem dX7_digest_0 : decode cX7_digest 0 = .ok (.aload_n 0, 1) := by decide +kernel
theorem dX7_digest_1 : decode cX7_digest 1 = .ok (.iconst 0, 1) := by decide +kernel
theorem dX7_digest_2 : decode cX7_digest 2 = .ok (.putfield 43, 3) := by decide +kernel
theorem dX7_digest_5 : decode cX7_digest 5 = .ok (.aload_n 0, 1) := by decide +kernel
theorem dX7_digest_6 : decode cX7_digest 6 = .ok (.aload_n 0, 1) := by decide +kernel
theorem dX7_digest_7 : decode cX7_digest 7 = .ok (.getfield 7, 3) := by decide +kernel
theorem dX7_digest_10 : decode cX7_digest 10 = .ok (.iconst 0, 1) := by decide +kernel
theorem dX7_digest_11 : decode cX7_digest 11 = .ok (.iaload, 1) := by decide +kernel
theorem dX7_digest_12 : decode cX7_digest 12 = .ok (.invokevirtual 117, 3) := by decide +kernel
theorem dX7_digest_15 : decode cX7_digest 15 = .ok (.aload_n 0, 1) := by decide +kernel
theorem dX7_digest_16 : decode cX7_digest 16 = .ok (.ldc2_w 225, 3) := by decide +kernel
theorem dX7_digest_19 : decode cX7_digest 19 = .ok (.putfield 221, 3) := by decide +kernel
theorem dX7_digest_22 : decode cX7_digest 22 = .ok (.aload_n 0, 1) := by decide +kernel
theorem dX7_digest_23 : decode cX7_digest 23 = .ok (.aload_n 0, 1) := by decide +kernel
theorem dX7_digest_24 : decode cX7_digest 24 = .ok (.getfield 195, 3) := by decide +kernel
theorem dX7_digest_27 : decode cX7_digest 27 = .ok (.invokevirtual 227, 3) := by decide +kernel
theorem dX7_digest_30 : decode cX7_digest 30 = .ok (.iconst 0, 1) := by decide +kernel
theorem dX7_digest_31 : decode cX7_digest 31 = .ok (.istore_n 1, 1) := by decide +kernel
theorem dX7_digest_32 : decode cX7_digest 32 = .ok (.iload_n 1, 1) := by decide +kernel
theorem dX7_digest_33 : decode cX7_digest 33 = .ok (.bipush 8, 2) := by decide +kernel
theorem dX7_digest_35 : decode cX7_digest 35 = .ok (.if_icmp .ge 18, 3) := by decide +kernel
theorem dX7_digest_38 : decode cX7_digest 38 = .ok (.aload_n 0, 1) := by decide +kernel
theorem dX7_digest_39 : decode cX7_digest 39 = .ok (.aload_n 0, 1) := by decide +kernel
theorem dX7_digest_40 : decode cX7_digest 40 = .ok (.iload_n 1, 1) := by decide +kernel
theorem dX7_digest_41 : decode cX7_digest 41 = .ok (.invokevirtual 174, 3) := by decide +kernel
theorem dX7_digest_44 : decode cX7_digest 44 = .ok (.invokevirtual 227, 3) := by decide +kernel
theorem dX7_digest_47 : decode cX7_digest 47 = .ok (.iinc 1 1, 3) := by decide +kernel
theorem dX7_digest_50 : decode cX7_digest 50 = .ok (.goto (-18), 3) := by decide +kernel
theorem dX7_digest_53 : decode cX7_digest 53 = .ok (.iconst 0, 1) := by decide +kernel
theorem dX7_digest_54 : decode cX7_digest 54 = .ok (.istore_n 1, 1) := by decide +kernel
theorem dX7_digest_55 : decode cX7_digest 55 = .ok (.iload_n 1, 1) := by decide +kernel
theorem dX7_digest_56 : decode cX7_digest 56 = .ok (.bipush 10, 2) := by decide +kernel
theorem dX7_digest_58 : decode cX7_digest 58 = .ok (.aload_n 0, 1) := by decide +kernel
theorem dX7_digest_59 : decode cX7_digest 59 = .ok (.getfield 7, 3) := by decide +kernel
theorem dX7_digest_62 : decode cX7_digest 62 = .ok (.iconst 1, 1) := by decide +kernel
theorem dX7_digest_63 : decode cX7_digest 63 = .ok (.iaload, 1) := by decide +kernel
theorem dX7_digest_64 : decode cX7_digest 64 = .ok (.imul, 1) := by decide +kernel
theorem dX7_digest_65 : decode cX7_digest 65 = .ok (.if_icmp .ge 25, 3) := by decide +kernel
theorem dX7_digest_68 : decode cX7_digest 68 = .ok (.aload_n 0, 1) := by decide +kernel
theorem dX7_digest_69 : decode cX7_digest 69 = .ok (.aload_n 0, 1) := by decide +kernel
theorem dX7_digest_70 : decode cX7_digest 70 = .ok (.iload_n 1, 1) := by decide +kernel
theorem dX7_digest_71 : decode cX7_digest 71 = .ok (.bipush 10, 2) := by decide +kernel
theorem dX7_digest_73 : decode cX7_digest 73 = .ok (.idiv, 1) := by decide +kernel
theorem dX7_digest_74 : decode cX7_digest 74 = .ok (.iload_n 1, 1) := by decide +kernel
theorem dX7_digest_75 : decode cX7_digest 75 = .ok (.bipush 10, 2) := by decide +kernel
theorem dX7_digest_77 : decode cX7_digest 77 = .ok (.irem, 1) := by decide +kernel
theorem dX7_digest_78 : decode cX7_digest 78 = .ok (.invokevirtual 177, 3) := by decide +kernel
theorem dX7_digest_81 : decode cX7_digest 81 = .ok (.invokevirtual 227, 3) := by decide +kernel
theorem dX7_digest_84 : decode cX7_digest 84 = .ok (.iinc 1 1, 3) := by decide +kernel
theorem dX7_digest_87 : decode cX7_digest 87 = .ok (.goto (-32), 3) := by decide +kernel
theorem dX7_digest_90 : decode cX7_digest 90 = .ok (.aload_n 0, 1) := by decide +kernel
theorem dX7_digest_91 : decode cX7_digest 91 = .ok (.invokevirtual 158, 3) := by decide +kernel
theorem dX7_digest_94 : decode cX7_digest 94 = .ok (.istore_n 1, 1) := by decide +kernel
theorem dX7_digest_95 : decode cX7_digest 95 = .ok (.iconst 0, 1) := by decide +kernel
theorem dX7_digest_96 : decode cX7_digest 96 = .ok (.istore_n 2, 1) := by decide +kernel
theorem dX7_digest_97 : decode cX7_digest 97 = .ok (.iload_n 2, 1) := by decide +kernel
theorem dX7_digest_98 : decode cX7_digest 98 = .ok (.bipush 10, 2) := by decide +kernel
theorem dX7_digest_100 : decode cX7_digest 100 = .ok (.iload_n 1, 1) := by decide +kernel
theorem dX7_digest_101 : decode cX7_digest 101 = .ok (.imul, 1) := by decide +kernel
theorem dX7_digest_102 : decode cX7_digest 102 = .ok (.if_icmp .ge 25, 3) := by decide +kernel
theorem dX7_digest_105 : decode cX7_digest 105 = .ok (.aload_n 0, 1) := by decide +kernel
theorem dX7_digest_106 : decode cX7_digest 106 = .ok (.aload_n 0, 1) := by decide +kernel
theorem dX7_digest_107 : decode cX7_digest 107 = .ok (.iload_n 2, 1) := by decide +kernel
theorem dX7_digest_108 : decode cX7_digest 108 = .ok (.bipush 10, 2) := by decide +kernel
theorem dX7_digest_110 : decode cX7_digest 110 = .ok (.idiv, 1) := by decide +kernel
theorem dX7_digest_111 : decode cX7_digest 111 = .ok (.iload_n 2, 1) := by decide +kernel
theorem dX7_digest_112 : decode cX7_digest 112 = .ok (.bipush 10, 2) := by decide +kernel
theorem dX7_digest_114 : decode cX7_digest 114 = .ok (.irem, 1) := by decide +kernel
theorem dX7_digest_115 : decode cX7_digest 115 = .ok (.invokevirtual 180, 3) := by decide +kernel
theorem dX7_digest_118 : decode cX7_digest 118 = .ok (.invokevirtual 227, 3) := by decide +kernel
theorem dX7_digest_121 : decode cX7_digest 121 = .ok (.iinc 2 1, 3) := by decide +kernel
theorem dX7_digest_124 : decode cX7_digest 124 = .ok (.goto (-27), 3) := by decide +kernel
theorem dX7_digest_127 : decode cX7_digest 127 = .ok (.iconst 0, 1) := by decide +kernel
theorem dX7_digest_128 : decode cX7_digest 128 = .ok (.istore_n 2, 1) := by decide +kernel
theorem dX7_digest_129 : decode cX7_digest 129 = .ok (.iload_n 2, 1) := by decide +kernel
theorem dX7_digest_130 : decode cX7_digest 130 = .ok (.iconst 5, 1) := by decide +kernel
theorem dX7_digest_131 : decode cX7_digest 131 = .ok (.aload_n 0, 1) := by decide +kernel
theorem dX7_digest_132 : decode cX7_digest 132 = .ok (.getfield 101, 3) := by decide +kernel
theorem dX7_digest_135 : decode cX7_digest 135 = .ok (.imul, 1) := by decide +kernel
theorem dX7_digest_136 : decode cX7_digest 136 = .ok (.if_icmp .ge 23, 3) := by decide +kernel
theorem dX7_digest_139 : decode cX7_digest 139 = .ok (.aload_n 0, 1) := by decide +kernel
theorem dX7_digest_140 : decode cX7_digest 140 = .ok (.aload_n 0, 1) := by decide +kernel
theorem dX7_digest_141 : decode cX7_digest 141 = .ok (.iload_n 2, 1) := by decide +kernel
theorem dX7_digest_142 : decode cX7_digest 142 = .ok (.iconst 5, 1) := by decide +kernel
theorem dX7_digest_143 : decode cX7_digest 143 = .ok (.idiv, 1) := by decide +kernel
theorem dX7_digest_144 : decode cX7_digest 144 = .ok (.iload_n 2, 1) := by decide +kernel
theorem dX7_digest_145 : decode cX7_digest 145 = .ok (.iconst 5, 1) := by decide +kernel
theorem dX7_digest_146 : decode cX7_digest 146 = .ok (.irem, 1) := by decide +kernel
theorem dX7_digest_147 : decode cX7_digest 147 = .ok (.invokevirtual 186, 3) := by decide +kernel
theorem dX7_digest_150 : decode cX7_digest 150 = .ok (.invokevirtual 227, 3) := by decide +kernel
theorem dX7_digest_153 : decode cX7_digest 153 = .ok (.iinc 2 1, 3) := by decide +kernel
theorem dX7_digest_156 : decode cX7_digest 156 = .ok (.goto (-27), 3) := by decide +kernel
theorem dX7_digest_159 : decode cX7_digest 159 = .ok (.aload_n 0, 1) := by decide +kernel
theorem dX7_digest_160 : decode cX7_digest 160 = .ok (.aload_n 0, 1) := by decide +kernel
theorem dX7_digest_161 : decode cX7_digest 161 = .ok (.getfield 51, 3) := by decide +kernel
theorem dX7_digest_164 : decode cX7_digest 164 = .ok (.invokevirtual 227, 3) := by decide +kernel
theorem dX7_digest_167 : decode cX7_digest 167 = .ok (.aload_n 0, 1) := by decide +kernel
theorem dX7_digest_168 : decode cX7_digest 168 = .ok (.getfield 221, 3) := by decide +kernel
theorem dX7_digest_171 : decode cX7_digest 171 = .ok (.lreturn, 1) := by decide +kernel
theorem dJ9_min_7cf53_0 : decode cJ9_min_7cf53 0 = .ok (.iload_n 0, 1) := by decide +kernel
theorem dJ9_min_7cf53_1 : decode cJ9_min_7cf53 1 = .ok (.iload_n 1, 1) := by decide +kernel
theorem dJ9_min_7cf53_2 : decode cJ9_min_7cf53 2 = .ok (.if_icmp .gt 7, 3) := by decide +kernel
theorem dJ9_min_7cf53_5 : decode cJ9_min_7cf53 5 = .ok (.iload_n 0, 1) := by decide +kernel
theorem dJ9_min_7cf53_6 : decode cJ9_min_7cf53 6 = .ok (.goto 4, 3) := by decide +kernel
theorem dJ9_min_7cf53_9 : decode cJ9_min_7cf53 9 = .ok (.iload_n 1, 1) := by decide +kernel
theorem dJ9_min_7cf53_10 : decode cJ9_min_7cf53 10 = .ok (.ireturn, 1) := by decide +kernel

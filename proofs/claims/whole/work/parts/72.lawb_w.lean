-- the words of the law's own body, its common tail
theorem ht_L_insert : zHt yL_insert cL_insert 7 [(0, 14, 17, 13), (0, 14, 21, 15), (0, 14, 25, 17)] 6 := ⟨zG_at 612 (by decide +kernel) (by decide +kernel), zG_at 74 (by decide +kernel) (by decide +kernel), zG_at 613 (by decide +kernel) (by decide +kernel), by decide +kernel⟩
theorem k_m_L_72 : Cond.methodLink RL 72 yL_insert ∈ zG := zG_at 611 (by decide +kernel) (by decide +kernel)
theorem vt_X7_insert : zVt yX7_insert cX7_insert 5 (some .int) 4 := ⟨zG_at 957 (by decide +kernel) (by decide +kernel), zG_at 958 (by decide +kernel) (by decide +kernel), zG_at 81 (by decide +kernel) (by decide +kernel), zG_at 959 (by decide +kernel) (by decide +kernel), by decide +kernel⟩
theorem k_m_L_77 : Cond.methodLink RL 77 yX7_insert ∈ zG := zG_at 956 (by decide +kernel) (by decide +kernel)
theorem k_m_L_78 : Cond.methodLink RL 78 yX7_thrown ∈ zG := zG_at 952 (by decide +kernel) (by decide +kernel)
theorem vt_X7_thrown : zVt yX7_thrown cX7_thrown 1 (some .int) 0 := ⟨zG_at 953 (by decide +kernel) (by decide +kernel), zG_at 954 (by decide +kernel) (by decide +kernel), zG_at 81 (by decide +kernel) (by decide +kernel), zG_at 955 (by decide +kernel) (by decide +kernel), by decide +kernel⟩
theorem ht_L_remove : zHt yL_remove cL_remove 4 [(0, 9, 12, 13), (0, 9, 15, 17)] 3 := ⟨zG_at 744 (by decide +kernel) (by decide +kernel), zG_at 74 (by decide +kernel) (by decide +kernel), zG_at 745 (by decide +kernel) (by decide +kernel), by decide +kernel⟩
theorem k_m_L_81 : Cond.methodLink RL 81 yL_remove ∈ zG := zG_at 743 (by decide +kernel) (by decide +kernel)
theorem vt_X7_remove : zVt yX7_remove cX7_remove 2 (some .int) 1 := ⟨zG_at 1018 (by decide +kernel) (by decide +kernel), zG_at 1019 (by decide +kernel) (by decide +kernel), zG_at 81 (by decide +kernel) (by decide +kernel), zG_at 1020 (by decide +kernel) (by decide +kernel), by decide +kernel⟩
theorem k_m_L_84 : Cond.methodLink RL 84 yX7_remove ∈ zG := zG_at 1017 (by decide +kernel) (by decide +kernel)
theorem ht_L_setLength : zHt yL_setLength cL_setLength 5 [(0, 10, 13, 13), (0, 10, 17, 15)] 4 := ⟨zG_at 763 (by decide +kernel) (by decide +kernel), zG_at 74 (by decide +kernel) (by decide +kernel), zG_at 764 (by decide +kernel) (by decide +kernel), by decide +kernel⟩
theorem k_m_L_85 : Cond.methodLink RL 85 yL_setLength ∈ zG := zG_at 762 (by decide +kernel) (by decide +kernel)
theorem vt_X7_setLength : zVt yX7_setLength cX7_setLength 3 (some .int) 2 := ⟨zG_at 1030 (by decide +kernel) (by decide +kernel), zG_at 1031 (by decide +kernel) (by decide +kernel), zG_at 81 (by decide +kernel) (by decide +kernel), zG_at 1032 (by decide +kernel) (by decide +kernel), by decide +kernel⟩
theorem k_m_L_88 : Cond.methodLink RL 88 yX7_setLength ∈ zG := zG_at 1029 (by decide +kernel) (by decide +kernel)
theorem ht_L_setPage : zHt yL_setPage cL_setPage 4 [(0, 9, 12, 15)] 3 := ⟨zG_at 771 (by decide +kernel) (by decide +kernel), zG_at 74 (by decide +kernel) (by decide +kernel), zG_at 772 (by decide +kernel) (by decide +kernel), by decide +kernel⟩
theorem k_m_L_89 : Cond.methodLink RL 89 yL_setPage ∈ zG := zG_at 770 (by decide +kernel) (by decide +kernel)
theorem vt_X7_setPage : zVt yX7_setPage cX7_setPage 3 (some .int) 1 := ⟨zG_at 1041 (by decide +kernel) (by decide +kernel), zG_at 1042 (by decide +kernel) (by decide +kernel), zG_at 81 (by decide +kernel) (by decide +kernel), zG_at 1043 (by decide +kernel) (by decide +kernel), by decide +kernel⟩
theorem k_m_L_91 : Cond.methodLink RL 91 yX7_setPage ∈ zG := zG_at 1040 (by decide +kernel) (by decide +kernel)
theorem ht_L_omit : zHt yL_omit cL_omit 4 [(0, 9, 12, 13), (0, 9, 15, 17)] 3 := ⟨zG_at 782 (by decide +kernel) (by decide +kernel), zG_at 74 (by decide +kernel) (by decide +kernel), zG_at 783 (by decide +kernel) (by decide +kernel), by decide +kernel⟩
theorem k_m_L_96 : Cond.methodLink RL 96 yL_omit ∈ zG := zG_at 781 (by decide +kernel) (by decide +kernel)
theorem vt_X7_omit : zVt yX7_omit cX7_omit 4 (some .int) 1 := ⟨zG_at 1052 (by decide +kernel) (by decide +kernel), zG_at 1053 (by decide +kernel) (by decide +kernel), zG_at 81 (by decide +kernel) (by decide +kernel), zG_at 1054 (by decide +kernel) (by decide +kernel), by decide +kernel⟩
theorem k_m_L_98 : Cond.methodLink RL 98 yX7_omit ∈ zG := zG_at 1051 (by decide +kernel) (by decide +kernel)
theorem ht_L_value : zHt yL_value cL_value 4 [(0, 9, 12, 15)] 3 := ⟨zG_at 800 (by decide +kernel) (by decide +kernel), zG_at 74 (by decide +kernel) (by decide +kernel), zG_at 801 (by decide +kernel) (by decide +kernel), by decide +kernel⟩
theorem k_m_L_103 : Cond.methodLink RL 103 yL_value ∈ zG := zG_at 799 (by decide +kernel) (by decide +kernel)
theorem vt_X7_value : zVt yX7_value cX7_value 2 (some .int) 1 := ⟨zG_at 1100 (by decide +kernel) (by decide +kernel), zG_at 1101 (by decide +kernel) (by decide +kernel), zG_at 81 (by decide +kernel) (by decide +kernel), zG_at 1102 (by decide +kernel) (by decide +kernel), by decide +kernel⟩
theorem k_m_L_105 : Cond.methodLink RL 105 yX7_value ∈ zG := zG_at 1099 (by decide +kernel) (by decide +kernel)
theorem ht_L_element : zHt yL_element cL_element 5 [(0, 10, 13, 13), (0, 10, 17, 15)] 4 := ⟨zG_at 809 (by decide +kernel) (by decide +kernel), zG_at 74 (by decide +kernel) (by decide +kernel), zG_at 810 (by decide +kernel) (by decide +kernel), by decide +kernel⟩
theorem k_m_L_106 : Cond.methodLink RL 106 yL_element ∈ zG := zG_at 808 (by decide +kernel) (by decide +kernel)
theorem vt_X7_element : zVt yX7_element cX7_element 3 (some .int) 2 := ⟨zG_at 1128 (by decide +kernel) (by decide +kernel), zG_at 1129 (by decide +kernel) (by decide +kernel), zG_at 81 (by decide +kernel) (by decide +kernel), zG_at 1130 (by decide +kernel) (by decide +kernel), by decide +kernel⟩
theorem k_m_L_108 : Cond.methodLink RL 108 yX7_element ∈ zG := zG_at 1127 (by decide +kernel) (by decide +kernel)
theorem ht_L_scene : zHt yL_scene cL_scene 5 [(0, 10, 13, 13), (0, 10, 17, 15)] 4 := ⟨zG_at 816 (by decide +kernel) (by decide +kernel), zG_at 74 (by decide +kernel) (by decide +kernel), zG_at 817 (by decide +kernel) (by decide +kernel), by decide +kernel⟩
theorem k_m_L_109 : Cond.methodLink RL 109 yL_scene ∈ zG := zG_at 815 (by decide +kernel) (by decide +kernel)
theorem vt_X7_scene : zVt yX7_scene cX7_scene 3 (some .int) 2 := ⟨zG_at 1136 (by decide +kernel) (by decide +kernel), zG_at 1137 (by decide +kernel) (by decide +kernel), zG_at 81 (by decide +kernel) (by decide +kernel), zG_at 1138 (by decide +kernel) (by decide +kernel), by decide +kernel⟩
theorem k_m_L_111 : Cond.methodLink RL 111 yX7_scene ∈ zG := zG_at 1135 (by decide +kernel) (by decide +kernel)
theorem ht_L_page : zHt yL_page cL_page 5 [(0, 10, 13, 13), (0, 10, 17, 15)] 4 := ⟨zG_at 823 (by decide +kernel) (by decide +kernel), zG_at 74 (by decide +kernel) (by decide +kernel), zG_at 824 (by decide +kernel) (by decide +kernel), by decide +kernel⟩
theorem k_m_L_112 : Cond.methodLink RL 112 yL_page ∈ zG := zG_at 822 (by decide +kernel) (by decide +kernel)
theorem vt_X7_page : zVt yX7_page cX7_page 3 (some .int) 2 := ⟨zG_at 1144 (by decide +kernel) (by decide +kernel), zG_at 1145 (by decide +kernel) (by decide +kernel), zG_at 81 (by decide +kernel) (by decide +kernel), zG_at 1146 (by decide +kernel) (by decide +kernel), by decide +kernel⟩
theorem k_m_L_114 : Cond.methodLink RL 114 yX7_page ∈ zG := zG_at 1143 (by decide +kernel) (by decide +kernel)
theorem ht_L_names : zHt yL_names cL_names 5 [(0, 10, 13, 15)] 4 := ⟨zG_at 831 (by decide +kernel) (by decide +kernel), zG_at 74 (by decide +kernel) (by decide +kernel), zG_at 832 (by decide +kernel) (by decide +kernel), by decide +kernel⟩
theorem k_m_L_120 : Cond.methodLink RL 120 yL_names ∈ zG := zG_at 830 (by decide +kernel) (by decide +kernel)
theorem vt_X7_names : zVt yX7_names cX7_names 3 (some .int) 2 := ⟨zG_at 1160 (by decide +kernel) (by decide +kernel), zG_at 1161 (by decide +kernel) (by decide +kernel), zG_at 81 (by decide +kernel) (by decide +kernel), zG_at 1162 (by decide +kernel) (by decide +kernel), by decide +kernel⟩
theorem k_m_L_123 : Cond.methodLink RL 123 yX7_names ∈ zG := zG_at 1159 (by decide +kernel) (by decide +kernel)
theorem ht_L_pagesWith : zHt yL_pagesWith cL_pagesWith 4 [(0, 9, 12, 15)] 3 := ⟨zG_at 839 (by decide +kernel) (by decide +kernel), zG_at 74 (by decide +kernel) (by decide +kernel), zG_at 840 (by decide +kernel) (by decide +kernel), by decide +kernel⟩
theorem k_m_L_129 : Cond.methodLink RL 129 yL_pagesWith ∈ zG := zG_at 838 (by decide +kernel) (by decide +kernel)
theorem vt_X7_pagesWith : zVt yX7_pagesWith cX7_pagesWith 2 (some .int) 1 := ⟨zG_at 1168 (by decide +kernel) (by decide +kernel), zG_at 1169 (by decide +kernel) (by decide +kernel), zG_at 81 (by decide +kernel) (by decide +kernel), zG_at 1170 (by decide +kernel) (by decide +kernel), by decide +kernel⟩
theorem k_m_L_131 : Cond.methodLink RL 131 yX7_pagesWith ∈ zG := zG_at 1167 (by decide +kernel) (by decide +kernel)
theorem ht_L_smallestPage : zHt yL_smallestPage cL_smallestPage 4 [(0, 9, 12, 15)] 3 := ⟨zG_at 846 (by decide +kernel) (by decide +kernel), zG_at 74 (by decide +kernel) (by decide +kernel), zG_at 847 (by decide +kernel) (by decide +kernel), by decide +kernel⟩
theorem k_m_L_132 : Cond.methodLink RL 132 yL_smallestPage ∈ zG := zG_at 845 (by decide +kernel) (by decide +kernel)
theorem vt_X7_smallestPage : zVt yX7_smallestPage cX7_smallestPage 3 (some .int) 1 := ⟨zG_at 1176 (by decide +kernel) (by decide +kernel), zG_at 1177 (by decide +kernel) (by decide +kernel), zG_at 81 (by decide +kernel) (by decide +kernel), zG_at 1178 (by decide +kernel) (by decide +kernel), by decide +kernel⟩
theorem k_m_L_134 : Cond.methodLink RL 134 yX7_smallestPage ∈ zG := zG_at 1175 (by decide +kernel) (by decide +kernel)
theorem ht_L_pagesBy : zHt yL_pagesBy cL_pagesBy 5 [(0, 10, 13, 13), (0, 10, 17, 15)] 4 := ⟨zG_at 854 (by decide +kernel) (by decide +kernel), zG_at 74 (by decide +kernel) (by decide +kernel), zG_at 855 (by decide +kernel) (by decide +kernel), by decide +kernel⟩
theorem k_m_L_135 : Cond.methodLink RL 135 yL_pagesBy ∈ zG := zG_at 853 (by decide +kernel) (by decide +kernel)
theorem vt_X7_pagesBy : zVt yX7_pagesBy cX7_pagesBy 3 (some .int) 2 := ⟨zG_at 1180 (by decide +kernel) (by decide +kernel), zG_at 1181 (by decide +kernel) (by decide +kernel), zG_at 81 (by decide +kernel) (by decide +kernel), zG_at 1182 (by decide +kernel) (by decide +kernel), by decide +kernel⟩
theorem k_m_L_137 : Cond.methodLink RL 137 yX7_pagesBy ∈ zG := zG_at 1179 (by decide +kernel) (by decide +kernel)
theorem ht_L_greatestLength : zHt yL_greatestLength cL_greatestLength 4 [(0, 9, 12, 13)] 3 := ⟨zG_at 861 (by decide +kernel) (by decide +kernel), zG_at 74 (by decide +kernel) (by decide +kernel), zG_at 862 (by decide +kernel) (by decide +kernel), by decide +kernel⟩
theorem k_m_L_138 : Cond.methodLink RL 138 yL_greatestLength ∈ zG := zG_at 860 (by decide +kernel) (by decide +kernel)
theorem vt_X7_greatestLength : zVt yX7_greatestLength cX7_greatestLength 4 (some .int) 1 := ⟨zG_at 1188 (by decide +kernel) (by decide +kernel), zG_at 1189 (by decide +kernel) (by decide +kernel), zG_at 81 (by decide +kernel) (by decide +kernel), zG_at 1190 (by decide +kernel) (by decide +kernel), by decide +kernel⟩
theorem k_m_L_140 : Cond.methodLink RL 140 yX7_greatestLength ∈ zG := zG_at 1187 (by decide +kernel) (by decide +kernel)
theorem ht_L_append : zHt yL_append cL_append 4 [(0, 9, 12, 15), (0, 9, 15, 17)] 3 := ⟨zG_at 868 (by decide +kernel) (by decide +kernel), zG_at 74 (by decide +kernel) (by decide +kernel), zG_at 869 (by decide +kernel) (by decide +kernel), by decide +kernel⟩
theorem k_m_L_141 : Cond.methodLink RL 141 yL_append ∈ zG := zG_at 867 (by decide +kernel) (by decide +kernel)
theorem vt_X7_append : zVt yX7_append cX7_append 2 (some .int) 1 := ⟨zG_at 1192 (by decide +kernel) (by decide +kernel), zG_at 1193 (by decide +kernel) (by decide +kernel), zG_at 81 (by decide +kernel) (by decide +kernel), zG_at 1194 (by decide +kernel) (by decide +kernel), by decide +kernel⟩
theorem k_m_L_143 : Cond.methodLink RL 143 yX7_append ∈ zG := zG_at 1191 (by decide +kernel) (by decide +kernel)
theorem ht_L_undo : zHt yL_undo cL_undo 3 [(0, 8, 11, 17)] 2 := ⟨zG_at 877 (by decide +kernel) (by decide +kernel), zG_at 74 (by decide +kernel) (by decide +kernel), zG_at 878 (by decide +kernel) (by decide +kernel), by decide +kernel⟩
theorem k_m_L_152 : Cond.methodLink RL 152 yL_undo ∈ zG := zG_at 876 (by decide +kernel) (by decide +kernel)
theorem vt_X7_undo : zVt yX7_undo cX7_undo 2 (some .int) 0 := ⟨zG_at 1223 (by decide +kernel) (by decide +kernel), zG_at 1224 (by decide +kernel) (by decide +kernel), zG_at 81 (by decide +kernel) (by decide +kernel), zG_at 1225 (by decide +kernel) (by decide +kernel), by decide +kernel⟩
theorem k_m_L_155 : Cond.methodLink RL 155 yX7_undo ∈ zG := zG_at 1222 (by decide +kernel) (by decide +kernel)
theorem vt_X6_lockScenes : zVt yX6_lockScenes cX6_lockScenes 4 (some .int) 0 := ⟨zG_at 328 (by decide +kernel) (by decide +kernel), zG_at 329 (by decide +kernel) (by decide +kernel), zG_at 75 (by decide +kernel) (by decide +kernel), zG_at 330 (by decide +kernel) (by decide +kernel), by decide +kernel⟩
theorem k_m_L_92 : Cond.methodLink RL 92 yX6_lockScenes ∈ zG := zG_at 327 (by decide +kernel) (by decide +kernel)
theorem vt_X7_lockScenes : zVt yX7_lockScenes cX7_lockScenes 4 (some .int) 0 := ⟨zG_at 1048 (by decide +kernel) (by decide +kernel), zG_at 1049 (by decide +kernel) (by decide +kernel), zG_at 81 (by decide +kernel) (by decide +kernel), zG_at 1050 (by decide +kernel) (by decide +kernel), by decide +kernel⟩
theorem k_m_L_95 : Cond.methodLink RL 95 yX7_lockScenes ∈ zG := zG_at 1047 (by decide +kernel) (by decide +kernel)
theorem vt_X6_lockPages : zVt yX6_lockPages cX6_lockPages 4 (some .int) 0 := ⟨zG_at 488 (by decide +kernel) (by decide +kernel), zG_at 489 (by decide +kernel) (by decide +kernel), zG_at 75 (by decide +kernel) (by decide +kernel), zG_at 490 (by decide +kernel) (by decide +kernel), by decide +kernel⟩
theorem k_m_L_99 : Cond.methodLink RL 99 yX6_lockPages ∈ zG := zG_at 487 (by decide +kernel) (by decide +kernel)
theorem vt_X7_lockPages : zVt yX7_lockPages cX7_lockPages 3 (some .int) 0 := ⟨zG_at 1064 (by decide +kernel) (by decide +kernel), zG_at 1065 (by decide +kernel) (by decide +kernel), zG_at 81 (by decide +kernel) (by decide +kernel), zG_at 1066 (by decide +kernel) (by decide +kernel), by decide +kernel⟩
theorem k_m_L_102 : Cond.methodLink RL 102 yX7_lockPages ∈ zG := zG_at 1063 (by decide +kernel) (by decide +kernel)
theorem vt_X6_clearText : zVt yX6_clearText cX6_clearText 2 (some .int) 0 := ⟨zG_at 501 (by decide +kernel) (by decide +kernel), zG_at 502 (by decide +kernel) (by decide +kernel), zG_at 75 (by decide +kernel) (by decide +kernel), zG_at 503 (by decide +kernel) (by decide +kernel), by decide +kernel⟩
theorem k_m_L_144 : Cond.methodLink RL 144 yX6_clearText ∈ zG := zG_at 500 (by decide +kernel) (by decide +kernel)
theorem vt_X7_clearText : zVt yX7_clearText cX7_clearText 2 (some .int) 0 := ⟨zG_at 1196 (by decide +kernel) (by decide +kernel), zG_at 1197 (by decide +kernel) (by decide +kernel), zG_at 81 (by decide +kernel) (by decide +kernel), zG_at 1198 (by decide +kernel) (by decide +kernel), by decide +kernel⟩
theorem k_m_L_147 : Cond.methodLink RL 147 yX7_clearText ∈ zG := zG_at 1195 (by decide +kernel) (by decide +kernel)
theorem vt_X6_find : zVt yX6_find cX6_find 5 (some .int) 3 := ⟨zG_at 493 (by decide +kernel) (by decide +kernel), zG_at 494 (by decide +kernel) (by decide +kernel), zG_at 75 (by decide +kernel) (by decide +kernel), zG_at 495 (by decide +kernel) (by decide +kernel), by decide +kernel⟩
theorem k_m_L_115 : Cond.methodLink RL 115 yX6_find ∈ zG := zG_at 492 (by decide +kernel) (by decide +kernel)
theorem vt_X7_find : zVt yX7_find cX7_find 7 (some .int) 3 := ⟨zG_at 1156 (by decide +kernel) (by decide +kernel), zG_at 1157 (by decide +kernel) (by decide +kernel), zG_at 81 (by decide +kernel) (by decide +kernel), zG_at 1158 (by decide +kernel) (by decide +kernel), by decide +kernel⟩
theorem k_m_L_119 : Cond.methodLink RL 119 yX7_find ∈ zG := zG_at 1155 (by decide +kernel) (by decide +kernel)
theorem vt_X6_parse : zVt yX6_parse cX6_parse 3 (some .int) 0 := ⟨zG_at 505 (by decide +kernel) (by decide +kernel), zG_at 506 (by decide +kernel) (by decide +kernel), zG_at 75 (by decide +kernel) (by decide +kernel), zG_at 507 (by decide +kernel) (by decide +kernel), by decide +kernel⟩
theorem k_m_L_148 : Cond.methodLink RL 148 yX6_parse ∈ zG := zG_at 504 (by decide +kernel) (by decide +kernel)
theorem vt_X7_parse : zVt yX7_parse cX7_parse 1 (some .int) 0 := ⟨zG_at 1200 (by decide +kernel) (by decide +kernel), zG_at 1201 (by decide +kernel) (by decide +kernel), zG_at 81 (by decide +kernel) (by decide +kernel), zG_at 1202 (by decide +kernel) (by decide +kernel), by decide +kernel⟩
theorem k_m_L_151 : Cond.methodLink RL 151 yX7_parse ∈ zG := zG_at 1199 (by decide +kernel) (by decide +kernel)
theorem vt_X6_digest : zVt yX6_digest cX6_digest 5 (some .long) 0 := ⟨zG_at 584 (by decide +kernel) (by decide +kernel), zG_at 585 (by decide +kernel) (by decide +kernel), zG_at 75 (by decide +kernel) (by decide +kernel), zG_at 586 (by decide +kernel) (by decide +kernel), by decide +kernel⟩
theorem k_m_L_156 : Cond.methodLink RL 156 yX6_digest ∈ zG := zG_at 583 (by decide +kernel) (by decide +kernel)
theorem vt_X7_digest : zVt yX7_digest cX7_digest 3 (some .long) 0 := ⟨zG_at 1227 (by decide +kernel) (by decide +kernel), zG_at 1228 (by decide +kernel) (by decide +kernel), zG_at 81 (by decide +kernel) (by decide +kernel), zG_at 1229 (by decide +kernel) (by decide +kernel), by decide +kernel⟩
theorem k_m_L_160 : Cond.methodLink RL 160 yX7_digest ∈ zG := zG_at 1226 (by decide +kernel) (by decide +kernel)
theorem vt_X6_used : zVt yX6_used cX6_used 4 (some .double) 0 := ⟨zG_at 497 (by decide +kernel) (by decide +kernel), zG_at 498 (by decide +kernel) (by decide +kernel), zG_at 75 (by decide +kernel) (by decide +kernel), zG_at 499 (by decide +kernel) (by decide +kernel), by decide +kernel⟩
theorem k_m_L_124 : Cond.methodLink RL 124 yX6_used ∈ zG := zG_at 496 (by decide +kernel) (by decide +kernel)
theorem vt_X7_used : zVt yX7_used cX7_used 3 (some .double) 0 := ⟨zG_at 1164 (by decide +kernel) (by decide +kernel), zG_at 1165 (by decide +kernel) (by decide +kernel), zG_at 81 (by decide +kernel) (by decide +kernel), zG_at 1166 (by decide +kernel) (by decide +kernel), by decide +kernel⟩
theorem k_m_L_128 : Cond.methodLink RL 128 yX7_used ∈ zG := zG_at 1163 (by decide +kernel) (by decide +kernel)
def lbE (p : Program) (s : State) (m : MethodId) (args : Array Value) (c : Code) (b N : Nat) (xs : Nat → Int32) (A0 : Nat → Prop) (H0 : Heap) (Z : zZ) (sa : Nat → Nat) : Prop :=
  p.tables.exec = Jvm.exec ∧ c.code = cL_law ∧ c.maxLocals = 9 ∧ s.vm.findClass RL = some m.cls ∧ (∀ w ∈ zG, w.before args s = true) ∧ va_X b N xs s H0 ∧ b < H0.size ∧ ¬ A0 b ∧ zK Z s ∧ zTh sa A0 s H0 ∧ zNc s ∧ va_AO RX5 s ∧ ∀ q, H0.size ≤ q → A0 q
def lbI (x : t_SP) (M : t_Model) : Prop := InvC x.1 x.2.1 x.2.2.2.1 x.2.2.2.2.2.1 x.2.2.2.2.2.2.2.1 x.2.2.2.2.2.2.2.2 M
theorem lk_mem {tbl : List (Nat × Int32)} {n : Nat} {k : Int32} (hk : tbl.lookup n = some k) : ∃ i, (i, k) ∈ tbl := by
  induction tbl with
  | nil => cases hk
  | cons q tbl ih =>
    obtain ⟨q1, q2⟩ := q
    rw [List.lookup_cons] at hk
    split at hk
    · cases hk
      exact ⟨q1, List.mem_cons_self⟩
    · obtain ⟨i, hi⟩ := ih hk
      exact ⟨i, List.mem_cons_of_mem _ hi⟩
theorem fof_0 {tbl : List (Nat × Int32)} {f : Nat → Int64} {r : Int32 ⊕ Nat} {k a : Int32} (h0 : ∀ q ∈ tbl, q.2 ≠ 0) (hk : kof tbl r = some k) (ha : ∀ v, r = .inl v → v = a) : k = 0 → fof f r 0 = a.toInt64 := by
  intro hz
  rcases r with v | n
  · show vp_updL f 0 v.toInt64 0 = _
    rw [pk_uLs, ha v rfl]
  · exfalso
    have hk : tbl.lookup n = some k := hk
    obtain ⟨i, hi⟩ := lk_mem hk
    exact h0 _ hi hz
theorem lg_cmp_0 (x : Int64) : lg_cmp x x = 0 := by
  unfold lg_cmp
  simp
set_option maxRecDepth 100000 in
set_option maxHeartbeats 4000000 in
theorem lb_tail {p : Program} {l : Launch} {e : Env} {s : State} {m : MethodId} {args : Array Value} {below : List Frame} {meth : Method} {c : Code} {b N : Nat} {xs : Nat → Int32} {A0 : Nat → Prop} {H0 : Heap} {Z : zZ} {sa : Nat → Nat} (hE : lbE p s m args c b N xs A0 H0 Z sa) {mm : Nat} {u : t_SPa} {Am : Nat → Nat} {o : Nat} {x : t_SP} {M : t_Model} {f : Nat → Int64} {i a : Int32} {H : Heap} {locs : List Loc} {ls : Array Slot} {cells slots : Nat} {Q : State → Prop} (hP : va_P Z.1 vwCl (List.flatten [w_SP Z mm u x, w_Model Z.2.1 Am M, w_ArrL Z.2.2.2 1 o f]) H) (hD : va_D A0 (List.flatten [w_SP Z mm u x, w_Model Z.2.1 Am M, w_ArrL Z.2.2.2 1 o f])) (hS : va_S A0 H0 H locs) (hl : lv_has ls 9 [(6, .int a), (5, .int M.2.2.2.2.2.2.1), (0, .ref b), (1, .ref mm), (2, .ref (Am 0)), (3, .ref o), (4, .int i)]) (hc : cells + 1 ≤ room_1.cells ∧ slots + 6 ≤ room_1.slots) (hf : M.2.2.2.2.2.2.1 = 0 → f 0 = a.toInt64) {T : Nat} {off : Int}
    (d0 : decode cL_law T = .ok (.aload_n 2, 1)) (d1 : decode cL_law (T + 1) = .ok (.invokevirtual 78, 3)) (d4 : decode cL_law (T + 4) = .ok (.iload 5, 2)) (d6 : decode cL_law (T + 6) = .ok (.if_icmp .eq 5, 3)) (d11 : decode cL_law (T + 11) = .ok (.iload 5, 2)) (d13 : decode cL_law (T + 13) = .ok (.ifCond .ne 15, 3)) (d16 : decode cL_law (T + 16) = .ok (.aload_n 3, 1)) (d17 : decode cL_law (T + 17) = .ok (.iconst 0, 1)) (d18 : decode cL_law (T + 18) = .ok (.laload, 1)) (d19 : decode cL_law (T + 19) = .ok (.iload 6, 2)) (d21 : decode cL_law (T + 21) = .ok (.i2l, 1)) (d22 : decode cL_law (T + 22) = .ok (.lcmp, 1)) (d23 : decode cL_law (T + 23) = .ok (.ifCond .eq 5, 3)) (d28 : decode cL_law (T + 28) = .ok (.goto off, 3)) (hoff : ((T + 28 : Nat) : Int) + off = ((1308 : Nat) : Int))
    (K : ∀ (H : Heap) (locs : List Loc) (ls : Array Slot), va_P Z.1 vwCl (List.flatten [w_SP Z mm u x, w_Model Z.2.1 Am M, w_ArrL Z.2.2.2 1 o f]) H → va_D A0 (List.flatten [w_SP Z mm u x, w_Model Z.2.1 Am M, w_ArrL Z.2.2.2 1 o f]) → va_S A0 H0 H locs → lv_has ls 9 [(0, .ref b), (1, .ref mm), (2, .ref (Am 0)), (3, .ref o), (4, .int i)] → W p l e room_1 s m args below meth c H locs (cells + 1) (slots + 6) Q (F0 m 1308 ls [])) : W p l e room_1 s m args below meth c H locs (cells + 1) (slots + 6) Q (F0 m T ls []) := by
  obtain ⟨hx, hb, hml, hown, hts, hX, hbl, hbA, hK, hT, hN, hO, hA0⟩ := hE
  refine lv_aload_n hx hb d0 rfl (lv_at hl 4 rfl) ?_
  refine z_ro_i (z_rV (As := []) (rest := []) hx hb hml hown hts vt_X7_thrown (c_X7_thrown l Z Am M _ rfl) rfl rfl ⟨Nat.le_of_ble_eq_true rfl, Nat.le_of_ble_eq_true rfl⟩ k_m_L_78 zPro_blind (z_recv (q := (RX7, TX7, 19)) (ci := 7) (q0 := 0) hK (zP_reg (L := l_Model Z.2.1 Am M.1 M.2.1 M.2.2.1 M.2.2.2.1 M.2.2.2.2.1 M.2.2.2.2.2.1 M.2.2.2.2.2.2.1 M.2.2.2.2.2.2.2.1 M.2.2.2.2.2.2.2.2.1 M.2.2.2.2.2.2.2.2.2.1 M.2.2.2.2.2.2.2.2.2.2.1 M.2.2.2.2.2.2.2.2.2.2.2.1 M.2.2.2.2.2.2.2.2.2.2.2.2.1 M.2.2.2.2.2.2.2.2.2.2.2.2.2.1 M.2.2.2.2.2.2.2.2.2.2.2.2.2.2.1 M.2.2.2.2.2.2.2.2.2.2.2.2.2.2.2.1 M.2.2.2.2.2.2.2.2.2.2.2.2.2.2.2.2.1 M.2.2.2.2.2.2.2.2.2.2.2.2.2.2.2.2.2.1 M.2.2.2.2.2.2.2.2.2.2.2.2.2.2.2.2.2.2) (zP_reg hP 1 rfl) 0 rfl) rfl rfl) (z_prec hK (zP_reg hP 1 rfl)) rfl hl.1 (Nat.le_of_ble_eq_true rfl) d1 hc) hS hP (fun H locs hP hS => ?_)
  refine W.eq (g2 := F0 m (T + 4) ls [.int M.2.2.2.2.2.2.1]) rfl ?_
  refine lv_iload hx hb d4 (lv_at hl 1 rfl) ?_
  refine W.eq (g2 := F0 m (T + 6) ls [.int M.2.2.2.2.2.2.1, .int M.2.2.2.2.2.2.1]) rfl ?_
  refine lv_icmp_eq (tgt := T + 11) hx hb d6 (by omega) (fun _ => ?_) (fun h => absurd rfl h)
  refine lv_iload hx hb d11 (lv_at hl 1 rfl) ?_
  refine W.eq (g2 := F0 m (T + 13) ls [.int M.2.2.2.2.2.2.1]) rfl ?_
  have fin : W p l e room_1 s m args below meth c H locs (cells + 1) (slots + 6) Q (F0 m (T + 28) ls []) := by
    refine lv_goto (tgt := 1308) hx hb d28 hoff ?_
    exact K H locs ls hP hD hS (lv_sub hl [2, 3, 4, 5, 6] rfl)
  refine lv_if_ne (tgt := T + 28) hx hb d13 (by omega) (fun _ => fin) (fun hz => ?_)
  refine W.eq (g2 := F0 m (T + 16) ls []) rfl ?_
  refine lv_aload_n hx hb d16 rfl (lv_at hl 5 rfl) ?_
  refine W.eq (g2 := F0 m (T + 17) ls [.ref o]) rfl ?_
  refine lv_iconst (v := 0) hx hb d17 (by decide) ?_
  refine W.eq (g2 := F0 m (T + 18) ls [.int 0, .ref o]) rfl ?_
  refine va_lald (D := Z.1) (cl := vwCl) (f := f) hx hb hK.1 (zP_reg hP 2 rfl) 0 2 rfl rfl (by unfold vp_in; decide) d18 ?_
  refine W.eq (g2 := F0 m (T + 19) ls [.long (f 0)]) rfl ?_
  refine lv_iload hx hb d19 (lv_at hl 0 rfl) ?_
  refine W.eq (g2 := F0 m (T + 21) ls [.int a, .long (f 0)]) rfl ?_
  refine lv_i2l (v := a.toInt64) hx hb d21 rfl ?_
  refine W.eq (g2 := F0 m (T + 22) ls [.long a.toInt64, .long (f 0)]) rfl ?_
  rw [hf hz]
  refine W.lcmp hx hb d22 ?_
  refine W.eq (g2 := F0 m (T + 23) ls [.int (lg_cmp a.toInt64 a.toInt64)]) rfl ?_
  exact lv_if_eq (tgt := T + 28) hx hb d23 (by omega) (fun _ => fin) (fun h => absurd (lg_cmp_0 _) h)

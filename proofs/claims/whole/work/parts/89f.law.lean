/-! the law: call sites, a theorem for each call, the loop -/
theorem ct_law_101 {q : MM} (hq : q.1 = R_law) : CallTo q m_MO_dawn (.invokevirtual 101) 2 (some (some R_MO)) := ct_V (by rw [hq]; exact tG 1192 (by decide +kernel) (by decide +kernel)) (tG 1193 (by decide +kernel) (by decide +kernel)) (tG 1194 (by decide +kernel) (by decide +kernel)) (tG 13 (by decide +kernel) (by decide +kernel)) (tG 1195 (by decide +kernel) (by decide +kernel)) (by decide +kernel)
theorem ct_law_102 {q : MM} (hq : q.1 = R_law) : CallTo q m_UF_judge (.invokevirtual 102) 3 (some (some R_UF)) := ct_V (by rw [hq]; exact tG 720 (by decide +kernel) (by decide +kernel)) (tG 721 (by decide +kernel) (by decide +kernel)) (tG 722 (by decide +kernel) (by decide +kernel)) (tG 1 (by decide +kernel) (by decide +kernel)) (tG 723 (by decide +kernel) (by decide +kernel)) (by decide +kernel)
theorem ct_law_105 {q : MM} (hq : q.1 = R_law) : CallTo q m_MO_judge (.invokevirtual 105) 3 (some (some R_MO)) := ct_V (by rw [hq]; exact tG 1196 (by decide +kernel) (by decide +kernel)) (tG 1197 (by decide +kernel) (by decide +kernel)) (tG 1198 (by decide +kernel) (by decide +kernel)) (tG 13 (by decide +kernel) (by decide +kernel)) (tG 1199 (by decide +kernel) (by decide +kernel)) (by decide +kernel)
theorem ct_law_106 {q : MM} (hq : q.1 = R_law) : CallTo q m_UF_times (.invokevirtual 106) 2 (some (some R_UF)) := ct_V (by rw [hq]; exact tG 735 (by decide +kernel) (by decide +kernel)) (tG 736 (by decide +kernel) (by decide +kernel)) (tG 737 (by decide +kernel) (by decide +kernel)) (tG 1 (by decide +kernel) (by decide +kernel)) (tG 738 (by decide +kernel) (by decide +kernel)) (by decide +kernel)
theorem ct_law_109 {q : MM} (hq : q.1 = R_law) : CallTo q m_MO_times (.invokevirtual 109) 2 (some (some R_MO)) := ct_V (by rw [hq]; exact tG 1212 (by decide +kernel) (by decide +kernel)) (tG 1213 (by decide +kernel) (by decide +kernel)) (tG 1214 (by decide +kernel) (by decide +kernel)) (tG 13 (by decide +kernel) (by decide +kernel)) (tG 1215 (by decide +kernel) (by decide +kernel)) (by decide +kernel)
theorem ct_law_110 {q : MM} (hq : q.1 = R_law) : CallTo q m_UF_laws (.invokevirtual 110) 3 (some (some R_UF)) := ct_V (by rw [hq]; exact tG 740 (by decide +kernel) (by decide +kernel)) (tG 741 (by decide +kernel) (by decide +kernel)) (tG 742 (by decide +kernel) (by decide +kernel)) (tG 1 (by decide +kernel) (by decide +kernel)) (tG 743 (by decide +kernel) (by decide +kernel)) (by decide +kernel)
theorem ct_law_113 {q : MM} (hq : q.1 = R_law) : CallTo q m_MO_laws (.invokevirtual 113) 3 (some (some R_MO)) := ct_V (by rw [hq]; exact tG 1216 (by decide +kernel) (by decide +kernel)) (tG 1217 (by decide +kernel) (by decide +kernel)) (tG 1218 (by decide +kernel) (by decide +kernel)) (tG 13 (by decide +kernel) (by decide +kernel)) (tG 1219 (by decide +kernel) (by decide +kernel)) (by decide +kernel)
theorem ct_law_114 {q : MM} (hq : q.1 = R_law) : CallTo q m_UF_thief (.invokevirtual 114) 4 (some (some R_UF)) := ct_V (by rw [hq]; exact tG 744 (by decide +kernel) (by decide +kernel)) (tG 745 (by decide +kernel) (by decide +kernel)) (tG 746 (by decide +kernel) (by decide +kernel)) (tG 1 (by decide +kernel) (by decide +kernel)) (tG 747 (by decide +kernel) (by decide +kernel)) (by decide +kernel)
theorem ct_law_117 {q : MM} (hq : q.1 = R_law) : CallTo q m_MO_thief (.invokevirtual 117) 4 (some (some R_MO)) := ct_V (by rw [hq]; exact tG 1220 (by decide +kernel) (by decide +kernel)) (tG 1221 (by decide +kernel) (by decide +kernel)) (tG 1222 (by decide +kernel) (by decide +kernel)) (tG 13 (by decide +kernel) (by decide +kernel)) (tG 1223 (by decide +kernel) (by decide +kernel)) (by decide +kernel)
theorem ct_law_118 {q : MM} (hq : q.1 = R_law) : CallTo q m_UF_film (.invokevirtual 118) 3 (some (some R_UF)) := ct_V (by rw [hq]; exact tG 748 (by decide +kernel) (by decide +kernel)) (tG 749 (by decide +kernel) (by decide +kernel)) (tG 750 (by decide +kernel) (by decide +kernel)) (tG 1 (by decide +kernel) (by decide +kernel)) (tG 751 (by decide +kernel) (by decide +kernel)) (by decide +kernel)
set_option maxRecDepth 100000 in
theorem ct_law_12 {q : MM} (hq : q.1 = R_law) : CallTo q m_MO_init (.invokespecial 12) 1 (some none) := ct_I (by rw [hq]; exact tG 832 (by decide +kernel) (by decide +kernel)) (tG 833 (by decide +kernel) (by decide +kernel)) (tG 13 (by decide +kernel) (by decide +kernel)) (tG 834 rfl (by decide +kernel)) rfl rfl (by decide +kernel)
theorem ct_law_121 {q : MM} (hq : q.1 = R_law) : CallTo q m_MO_film (.invokevirtual 121) 3 (some (some R_MO)) := ct_V (by rw [hq]; exact tG 1224 (by decide +kernel) (by decide +kernel)) (tG 1225 (by decide +kernel) (by decide +kernel)) (tG 1226 (by decide +kernel) (by decide +kernel)) (tG 13 (by decide +kernel) (by decide +kernel)) (tG 1227 (by decide +kernel) (by decide +kernel)) (by decide +kernel)
theorem ct_law_122 {q : MM} (hq : q.1 = R_law) : CallTo q m_UF_drawn (.invokevirtual 122) 4 (some (some R_UF)) := ct_V (by rw [hq]; exact tG 764 (by decide +kernel) (by decide +kernel)) (tG 765 (by decide +kernel) (by decide +kernel)) (tG 766 (by decide +kernel) (by decide +kernel)) (tG 1 (by decide +kernel) (by decide +kernel)) (tG 767 (by decide +kernel) (by decide +kernel)) (by decide +kernel)
theorem ct_law_125 {q : MM} (hq : q.1 = R_law) : CallTo q m_MO_drawn (.invokevirtual 125) 4 (some (some R_MO)) := ct_V (by rw [hq]; exact tG 1228 (by decide +kernel) (by decide +kernel)) (tG 1229 (by decide +kernel) (by decide +kernel)) (tG 1230 (by decide +kernel) (by decide +kernel)) (tG 13 (by decide +kernel) (by decide +kernel)) (tG 1231 (by decide +kernel) (by decide +kernel)) (by decide +kernel)
theorem ct_law_126 {q : MM} (hq : q.1 = R_law) : CallTo q m_UF_odds (.invokevirtual 126) 5 (some (some R_UF)) := ct_V (by rw [hq]; exact tG 779 (by decide +kernel) (by decide +kernel)) (tG 780 (by decide +kernel) (by decide +kernel)) (tG 781 (by decide +kernel) (by decide +kernel)) (tG 1 (by decide +kernel) (by decide +kernel)) (tG 782 (by decide +kernel) (by decide +kernel)) (by decide +kernel)
theorem ct_law_13 {q : MM} (hq : q.1 = R_law) : CallTo q m_UF_count (.invokevirtual 13) 2 (some (some R_UF)) := ct_V (by rw [hq]; exact tG 381 (by decide +kernel) (by decide +kernel)) (tG 382 (by decide +kernel) (by decide +kernel)) (tG 383 (by decide +kernel) (by decide +kernel)) (tG 1 (by decide +kernel) (by decide +kernel)) (tG 384 (by decide +kernel) (by decide +kernel)) (by decide +kernel)
theorem ct_law_130 {q : MM} (hq : q.1 = R_law) : CallTo q m_MO_odds (.invokevirtual 130) 5 (some (some R_MO)) := ct_V (by rw [hq]; exact tG 1240 (by decide +kernel) (by decide +kernel)) (tG 1241 (by decide +kernel) (by decide +kernel)) (tG 1242 (by decide +kernel) (by decide +kernel)) (tG 13 (by decide +kernel) (by decide +kernel)) (tG 1243 (by decide +kernel) (by decide +kernel)) (by decide +kernel)
theorem ct_law_131 {q : MM} (hq : q.1 = R_law) : CallTo q m_UF_image (.invokevirtual 131) 1 (some (some R_UF)) := ct_V (by rw [hq]; exact tG 784 (by decide +kernel) (by decide +kernel)) (tG 785 (by decide +kernel) (by decide +kernel)) (tG 786 (by decide +kernel) (by decide +kernel)) (tG 1 (by decide +kernel) (by decide +kernel)) (tG 787 (by decide +kernel) (by decide +kernel)) (by decide +kernel)
theorem ct_law_134 {q : MM} (hq : q.1 = R_law) : CallTo q m_MO_image (.invokevirtual 134) 1 (some (some R_MO)) := ct_V (by rw [hq]; exact tG 1249 (by decide +kernel) (by decide +kernel)) (tG 1250 (by decide +kernel) (by decide +kernel)) (tG 1251 (by decide +kernel) (by decide +kernel)) (tG 13 (by decide +kernel) (by decide +kernel)) (tG 1252 (by decide +kernel) (by decide +kernel)) (by decide +kernel)
theorem ct_law_135 {q : MM} (hq : q.1 = R_law) : CallTo q m_UF_back (.invokevirtual 135) 1 (some (some R_UF)) := ct_V (by rw [hq]; exact tG 789 (by decide +kernel) (by decide +kernel)) (tG 790 (by decide +kernel) (by decide +kernel)) (tG 791 (by decide +kernel) (by decide +kernel)) (tG 1 (by decide +kernel) (by decide +kernel)) (tG 792 (by decide +kernel) (by decide +kernel)) (by decide +kernel)
theorem ct_law_138 {q : MM} (hq : q.1 = R_law) : CallTo q m_MO_back (.invokevirtual 138) 1 (some (some R_MO)) := ct_V (by rw [hq]; exact tG 1253 (by decide +kernel) (by decide +kernel)) (tG 1254 (by decide +kernel) (by decide +kernel)) (tG 1255 (by decide +kernel) (by decide +kernel)) (tG 13 (by decide +kernel) (by decide +kernel)) (tG 1256 (by decide +kernel) (by decide +kernel)) (by decide +kernel)
theorem ct_law_139 {q : MM} (hq : q.1 = R_law) : CallTo q m_UF_sheet (.invokevirtual 139) 4 (some (some R_UF)) := ct_V (by rw [hq]; exact tG 793 (by decide +kernel) (by decide +kernel)) (tG 794 (by decide +kernel) (by decide +kernel)) (tG 795 (by decide +kernel) (by decide +kernel)) (tG 1 (by decide +kernel) (by decide +kernel)) (tG 796 (by decide +kernel) (by decide +kernel)) (by decide +kernel)
theorem ct_law_142 {q : MM} (hq : q.1 = R_law) : CallTo q m_MO_sheet (.invokevirtual 142) 4 (some (some R_MO)) := ct_V (by rw [hq]; exact tG 1257 (by decide +kernel) (by decide +kernel)) (tG 1258 (by decide +kernel) (by decide +kernel)) (tG 1259 (by decide +kernel) (by decide +kernel)) (tG 13 (by decide +kernel) (by decide +kernel)) (tG 1260 (by decide +kernel) (by decide +kernel)) (by decide +kernel)
theorem ct_law_143 {q : MM} (hq : q.1 = R_law) : CallTo q m_UF_cell (.invokevirtual 143) 4 (some (some R_UF)) := ct_V (by rw [hq]; exact tG 797 (by decide +kernel) (by decide +kernel)) (tG 798 (by decide +kernel) (by decide +kernel)) (tG 799 (by decide +kernel) (by decide +kernel)) (tG 1 (by decide +kernel) (by decide +kernel)) (tG 800 (by decide +kernel) (by decide +kernel)) (by decide +kernel)
theorem ct_law_146 {q : MM} (hq : q.1 = R_law) : CallTo q m_MO_cell (.invokevirtual 146) 4 (some (some R_MO)) := ct_V (by rw [hq]; exact tG 1261 (by decide +kernel) (by decide +kernel)) (tG 1262 (by decide +kernel) (by decide +kernel)) (tG 1263 (by decide +kernel) (by decide +kernel)) (tG 13 (by decide +kernel) (by decide +kernel)) (tG 1264 (by decide +kernel) (by decide +kernel)) (by decide +kernel)
theorem ct_law_147 {q : MM} (hq : q.1 = R_law) : CallTo q m_UF_copy (.invokevirtual 147) 6 (some (some R_UF)) := ct_V (by rw [hq]; exact tG 802 (by decide +kernel) (by decide +kernel)) (tG 803 (by decide +kernel) (by decide +kernel)) (tG 804 (by decide +kernel) (by decide +kernel)) (tG 1 (by decide +kernel) (by decide +kernel)) (tG 805 (by decide +kernel) (by decide +kernel)) (by decide +kernel)
theorem ct_law_151 {q : MM} (hq : q.1 = R_law) : CallTo q m_MO_copy (.invokevirtual 151) 6 (some (some R_MO)) := ct_V (by rw [hq]; exact tG 1265 (by decide +kernel) (by decide +kernel)) (tG 1266 (by decide +kernel) (by decide +kernel)) (tG 1267 (by decide +kernel) (by decide +kernel)) (tG 13 (by decide +kernel) (by decide +kernel)) (tG 1268 (by decide +kernel) (by decide +kernel)) (by decide +kernel)
theorem ct_law_152 {q : MM} (hq : q.1 = R_law) : CallTo q m_UF_housesBy (.invokevirtual 152) 5 (some (some R_UF)) := ct_V (by rw [hq]; exact tG 807 (by decide +kernel) (by decide +kernel)) (tG 808 (by decide +kernel) (by decide +kernel)) (tG 809 (by decide +kernel) (by decide +kernel)) (tG 1 (by decide +kernel) (by decide +kernel)) (tG 810 (by decide +kernel) (by decide +kernel)) (by decide +kernel)
theorem ct_law_156 {q : MM} (hq : q.1 = R_law) : CallTo q m_MO_housesBy (.invokevirtual 156) 5 (some (some R_MO)) := ct_V (by rw [hq]; exact tG 1269 (by decide +kernel) (by decide +kernel)) (tG 1270 (by decide +kernel) (by decide +kernel)) (tG 1271 (by decide +kernel) (by decide +kernel)) (tG 13 (by decide +kernel) (by decide +kernel)) (tG 1272 (by decide +kernel) (by decide +kernel)) (by decide +kernel)
theorem ct_law_157 {q : MM} (hq : q.1 = R_law) : CallTo q m_UF_taken (.invokevirtual 157) 3 (some (some R_UF)) := ct_V (by rw [hq]; exact tG 811 (by decide +kernel) (by decide +kernel)) (tG 812 (by decide +kernel) (by decide +kernel)) (tG 813 (by decide +kernel) (by decide +kernel)) (tG 1 (by decide +kernel) (by decide +kernel)) (tG 814 (by decide +kernel) (by decide +kernel)) (by decide +kernel)
theorem ct_law_160 {q : MM} (hq : q.1 = R_law) : CallTo q m_MO_taken (.invokevirtual 160) 3 (some (some R_MO)) := ct_V (by rw [hq]; exact tG 1274 (by decide +kernel) (by decide +kernel)) (tG 1275 (by decide +kernel) (by decide +kernel)) (tG 1276 (by decide +kernel) (by decide +kernel)) (tG 13 (by decide +kernel) (by decide +kernel)) (tG 1277 (by decide +kernel) (by decide +kernel)) (by decide +kernel)
theorem ct_law_17 {q : MM} (hq : q.1 = R_law) : CallTo q m_MO_count (.invokevirtual 17) 2 (some (some R_MO)) := ct_V (by rw [hq]; exact tG 1004 (by decide +kernel) (by decide +kernel)) (tG 1005 (by decide +kernel) (by decide +kernel)) (tG 1006 (by decide +kernel) (by decide +kernel)) (tG 13 (by decide +kernel) (by decide +kernel)) (tG 1007 (by decide +kernel) (by decide +kernel)) (by decide +kernel)
theorem ct_law_18 {q : MM} (hq : q.1 = R_law) : CallTo q m_UF_feed (.invokevirtual 18) 7 (some (some R_UF)) := ct_V (by rw [hq]; exact tG 397 (by decide +kernel) (by decide +kernel)) (tG 398 (by decide +kernel) (by decide +kernel)) (tG 399 (by decide +kernel) (by decide +kernel)) (tG 1 (by decide +kernel) (by decide +kernel)) (tG 400 (by decide +kernel) (by decide +kernel)) (by decide +kernel)
theorem ct_law_22 {q : MM} (hq : q.1 = R_law) : CallTo q m_MO_feed (.invokevirtual 22) 7 (some (some R_MO)) := ct_V (by rw [hq]; exact tG 1020 (by decide +kernel) (by decide +kernel)) (tG 1021 (by decide +kernel) (by decide +kernel)) (tG 1022 (by decide +kernel) (by decide +kernel)) (tG 13 (by decide +kernel) (by decide +kernel)) (tG 1023 (by decide +kernel) (by decide +kernel)) (by decide +kernel)
theorem ct_law_23 {q : MM} (hq : q.1 = R_law) : CallTo q m_UF_text (.invokevirtual 23) 1 (some (some R_UF)) := ct_V (by rw [hq]; exact tG 409 (by decide +kernel) (by decide +kernel)) (tG 410 (by decide +kernel) (by decide +kernel)) (tG 411 (by decide +kernel) (by decide +kernel)) (tG 1 (by decide +kernel) (by decide +kernel)) (tG 412 (by decide +kernel) (by decide +kernel)) (by decide +kernel)
theorem ct_law_27 {q : MM} (hq : q.1 = R_law) : CallTo q m_MO_text (.invokevirtual 27) 1 (some (some R_MO)) := ct_V (by rw [hq]; exact tG 1027 (by decide +kernel) (by decide +kernel)) (tG 837 (by decide +kernel) (by decide +kernel)) (tG 838 (by decide +kernel) (by decide +kernel)) (tG 13 (by decide +kernel) (by decide +kernel)) (tG 839 (by decide +kernel) (by decide +kernel)) (by decide +kernel)
theorem ct_law_28 {q : MM} (hq : q.1 = R_law) : CallTo q m_UF_force (.invokevirtual 28) 2 (some (some R_UF)) := ct_V (by rw [hq]; exact tG 413 (by decide +kernel) (by decide +kernel)) (tG 414 (by decide +kernel) (by decide +kernel)) (tG 415 (by decide +kernel) (by decide +kernel)) (tG 1 (by decide +kernel) (by decide +kernel)) (tG 416 (by decide +kernel) (by decide +kernel)) (by decide +kernel)
theorem ct_law_31 {q : MM} (hq : q.1 = R_law) : CallTo q m_MO_force (.invokevirtual 31) 2 (some (some R_MO)) := ct_V (by rw [hq]; exact tG 1028 (by decide +kernel) (by decide +kernel)) (tG 1029 (by decide +kernel) (by decide +kernel)) (tG 1030 (by decide +kernel) (by decide +kernel)) (tG 13 (by decide +kernel) (by decide +kernel)) (tG 1031 (by decide +kernel) (by decide +kernel)) (by decide +kernel)
theorem ct_law_32 {q : MM} (hq : q.1 = R_law) : CallTo q m_UF_asks (.invokevirtual 32) 4 (some (some R_UF)) := ct_V (by rw [hq]; exact tG 417 (by decide +kernel) (by decide +kernel)) (tG 418 (by decide +kernel) (by decide +kernel)) (tG 419 (by decide +kernel) (by decide +kernel)) (tG 1 (by decide +kernel) (by decide +kernel)) (tG 420 (by decide +kernel) (by decide +kernel)) (by decide +kernel)
theorem ct_law_36 {q : MM} (hq : q.1 = R_law) : CallTo q m_MO_asks (.invokevirtual 36) 4 (some (some R_MO)) := ct_V (by rw [hq]; exact tG 1032 (by decide +kernel) (by decide +kernel)) (tG 1033 (by decide +kernel) (by decide +kernel)) (tG 1034 (by decide +kernel) (by decide +kernel)) (tG 13 (by decide +kernel) (by decide +kernel)) (tG 1035 (by decide +kernel) (by decide +kernel)) (by decide +kernel)
theorem ct_law_37 {q : MM} (hq : q.1 = R_law) : CallTo q m_UF_house (.invokevirtual 37) 4 (some (some R_UF)) := ct_V (by rw [hq]; exact tG 459 (by decide +kernel) (by decide +kernel)) (tG 460 (by decide +kernel) (by decide +kernel)) (tG 461 (by decide +kernel) (by decide +kernel)) (tG 1 (by decide +kernel) (by decide +kernel)) (tG 462 (by decide +kernel) (by decide +kernel)) (by decide +kernel)
theorem ct_law_40 {q : MM} (hq : q.1 = R_law) : CallTo q m_MO_house (.invokevirtual 40) 4 (some (some R_MO)) := ct_V (by rw [hq]; exact tG 1057 (by decide +kernel) (by decide +kernel)) (tG 1058 (by decide +kernel) (by decide +kernel)) (tG 1059 (by decide +kernel) (by decide +kernel)) (tG 13 (by decide +kernel) (by decide +kernel)) (tG 1060 (by decide +kernel) (by decide +kernel)) (by decide +kernel)
theorem ct_law_41 {q : MM} (hq : q.1 = R_law) : CallTo q m_UF_set (.invokevirtual 41) 4 (some (some R_UF)) := ct_V (by rw [hq]; exact tG 524 (by decide +kernel) (by decide +kernel)) (tG 525 (by decide +kernel) (by decide +kernel)) (tG 526 (by decide +kernel) (by decide +kernel)) (tG 1 (by decide +kernel) (by decide +kernel)) (tG 527 (by decide +kernel) (by decide +kernel)) (by decide +kernel)
theorem ct_law_44 {q : MM} (hq : q.1 = R_law) : CallTo q m_MO_set (.invokevirtual 44) 4 (some (some R_MO)) := ct_V (by rw [hq]; exact tG 1061 (by decide +kernel) (by decide +kernel)) (tG 1062 (by decide +kernel) (by decide +kernel)) (tG 1063 (by decide +kernel) (by decide +kernel)) (tG 13 (by decide +kernel) (by decide +kernel)) (tG 1064 (by decide +kernel) (by decide +kernel)) (by decide +kernel)
theorem ct_law_45 {q : MM} (hq : q.1 = R_law) : CallTo q m_UF_chain (.invokevirtual 45) 3 (some (some R_UF)) := ct_V (by rw [hq]; exact tG 528 (by decide +kernel) (by decide +kernel)) (tG 529 (by decide +kernel) (by decide +kernel)) (tG 530 (by decide +kernel) (by decide +kernel)) (tG 1 (by decide +kernel) (by decide +kernel)) (tG 531 (by decide +kernel) (by decide +kernel)) (by decide +kernel)
theorem ct_law_49 {q : MM} (hq : q.1 = R_law) : CallTo q m_MO_chain (.invokevirtual 49) 3 (some (some R_MO)) := ct_V (by rw [hq]; exact tG 1065 (by decide +kernel) (by decide +kernel)) (tG 1066 (by decide +kernel) (by decide +kernel)) (tG 1067 (by decide +kernel) (by decide +kernel)) (tG 13 (by decide +kernel) (by decide +kernel)) (tG 1068 (by decide +kernel) (by decide +kernel)) (by decide +kernel)
theorem ct_law_50 {q : MM} (hq : q.1 = R_law) : CallTo q m_UF_told (.invokevirtual 50) 3 (some (some R_UF)) := ct_V (by rw [hq]; exact tG 541 (by decide +kernel) (by decide +kernel)) (tG 542 (by decide +kernel) (by decide +kernel)) (tG 543 (by decide +kernel) (by decide +kernel)) (tG 1 (by decide +kernel) (by decide +kernel)) (tG 544 (by decide +kernel) (by decide +kernel)) (by decide +kernel)
theorem ct_law_53 {q : MM} (hq : q.1 = R_law) : CallTo q m_MO_told (.invokevirtual 53) 3 (some (some R_MO)) := ct_V (by rw [hq]; exact tG 1077 (by decide +kernel) (by decide +kernel)) (tG 1078 (by decide +kernel) (by decide +kernel)) (tG 1079 (by decide +kernel) (by decide +kernel)) (tG 13 (by decide +kernel) (by decide +kernel)) (tG 1080 (by decide +kernel) (by decide +kernel)) (by decide +kernel)
theorem ct_law_54 {q : MM} (hq : q.1 = R_law) : CallTo q m_UF_of (.invokevirtual 54) 4 (some (some R_UF)) := ct_V (by rw [hq]; exact tG 545 (by decide +kernel) (by decide +kernel)) (tG 546 (by decide +kernel) (by decide +kernel)) (tG 547 (by decide +kernel) (by decide +kernel)) (tG 1 (by decide +kernel) (by decide +kernel)) (tG 548 (by decide +kernel) (by decide +kernel)) (by decide +kernel)
theorem ct_law_57 {q : MM} (hq : q.1 = R_law) : CallTo q m_MO_of (.invokevirtual 57) 4 (some (some R_MO)) := ct_V (by rw [hq]; exact tG 1081 (by decide +kernel) (by decide +kernel)) (tG 1082 (by decide +kernel) (by decide +kernel)) (tG 1083 (by decide +kernel) (by decide +kernel)) (tG 13 (by decide +kernel) (by decide +kernel)) (tG 1084 (by decide +kernel) (by decide +kernel)) (by decide +kernel)
theorem ct_law_58 {q : MM} (hq : q.1 = R_law) : CallTo q m_UF_all (.invokevirtual 58) 3 (some (some R_UF)) := ct_V (by rw [hq]; exact tG 636 (by decide +kernel) (by decide +kernel)) (tG 637 (by decide +kernel) (by decide +kernel)) (tG 638 (by decide +kernel) (by decide +kernel)) (tG 1 (by decide +kernel) (by decide +kernel)) (tG 639 (by decide +kernel) (by decide +kernel)) (by decide +kernel)
theorem ct_law_61 {q : MM} (hq : q.1 = R_law) : CallTo q m_MO_all (.invokevirtual 61) 3 (some (some R_MO)) := ct_V (by rw [hq]; exact tG 1128 (by decide +kernel) (by decide +kernel)) (tG 1129 (by decide +kernel) (by decide +kernel)) (tG 1130 (by decide +kernel) (by decide +kernel)) (tG 13 (by decide +kernel) (by decide +kernel)) (tG 1131 (by decide +kernel) (by decide +kernel)) (by decide +kernel)
theorem ct_law_62 {q : MM} (hq : q.1 = R_law) : CallTo q m_UF_when (.invokevirtual 62) 2 (some (some R_UF)) := ct_V (by rw [hq]; exact tG 660 (by decide +kernel) (by decide +kernel)) (tG 661 (by decide +kernel) (by decide +kernel)) (tG 662 (by decide +kernel) (by decide +kernel)) (tG 1 (by decide +kernel) (by decide +kernel)) (tG 663 (by decide +kernel) (by decide +kernel)) (by decide +kernel)
theorem ct_law_65 {q : MM} (hq : q.1 = R_law) : CallTo q m_MO_when (.invokevirtual 65) 2 (some (some R_MO)) := ct_V (by rw [hq]; exact tG 1136 (by decide +kernel) (by decide +kernel)) (tG 1137 (by decide +kernel) (by decide +kernel)) (tG 1138 (by decide +kernel) (by decide +kernel)) (tG 13 (by decide +kernel) (by decide +kernel)) (tG 1139 (by decide +kernel) (by decide +kernel)) (by decide +kernel)
theorem ct_law_66 {q : MM} (hq : q.1 = R_law) : CallTo q m_UF_first (.invokevirtual 66) 2 (some (some R_UF)) := ct_V (by rw [hq]; exact tG 669 (by decide +kernel) (by decide +kernel)) (tG 670 (by decide +kernel) (by decide +kernel)) (tG 671 (by decide +kernel) (by decide +kernel)) (tG 1 (by decide +kernel) (by decide +kernel)) (tG 672 (by decide +kernel) (by decide +kernel)) (by decide +kernel)
theorem ct_law_69 {q : MM} (hq : q.1 = R_law) : CallTo q m_MO_first (.invokevirtual 69) 2 (some (some R_MO)) := ct_V (by rw [hq]; exact tG 1144 (by decide +kernel) (by decide +kernel)) (tG 1145 (by decide +kernel) (by decide +kernel)) (tG 1146 (by decide +kernel) (by decide +kernel)) (tG 13 (by decide +kernel) (by decide +kernel)) (tG 1147 (by decide +kernel) (by decide +kernel)) (by decide +kernel)
theorem ct_law_70 {q : MM} (hq : q.1 = R_law) : CallTo q m_UF_bring (.invokevirtual 70) 3 (some (some R_UF)) := ct_V (by rw [hq]; exact tG 673 (by decide +kernel) (by decide +kernel)) (tG 674 (by decide +kernel) (by decide +kernel)) (tG 675 (by decide +kernel) (by decide +kernel)) (tG 1 (by decide +kernel) (by decide +kernel)) (tG 676 (by decide +kernel) (by decide +kernel)) (by decide +kernel)
theorem ct_law_73 {q : MM} (hq : q.1 = R_law) : CallTo q m_MO_bring (.invokevirtual 73) 3 (some (some R_MO)) := ct_V (by rw [hq]; exact tG 1148 (by decide +kernel) (by decide +kernel)) (tG 1149 (by decide +kernel) (by decide +kernel)) (tG 1150 (by decide +kernel) (by decide +kernel)) (tG 13 (by decide +kernel) (by decide +kernel)) (tG 1151 (by decide +kernel) (by decide +kernel)) (by decide +kernel)
theorem ct_law_74 {q : MM} (hq : q.1 = R_law) : CallTo q m_UF_weight (.invokevirtual 74) 4 (some (some R_UF)) := ct_V (by rw [hq]; exact tG 678 (by decide +kernel) (by decide +kernel)) (tG 679 (by decide +kernel) (by decide +kernel)) (tG 680 (by decide +kernel) (by decide +kernel)) (tG 1 (by decide +kernel) (by decide +kernel)) (tG 681 (by decide +kernel) (by decide +kernel)) (by decide +kernel)
theorem ct_law_77 {q : MM} (hq : q.1 = R_law) : CallTo q m_MO_weight (.invokevirtual 77) 4 (some (some R_MO)) := ct_V (by rw [hq]; exact tG 1152 (by decide +kernel) (by decide +kernel)) (tG 1153 (by decide +kernel) (by decide +kernel)) (tG 1154 (by decide +kernel) (by decide +kernel)) (tG 13 (by decide +kernel) (by decide +kernel)) (tG 1155 (by decide +kernel) (by decide +kernel)) (by decide +kernel)
theorem ct_law_78 {q : MM} (hq : q.1 = R_law) : CallTo q m_UF_over (.invokevirtual 78) 3 (some (some R_UF)) := ct_V (by rw [hq]; exact tG 693 (by decide +kernel) (by decide +kernel)) (tG 694 (by decide +kernel) (by decide +kernel)) (tG 695 (by decide +kernel) (by decide +kernel)) (tG 1 (by decide +kernel) (by decide +kernel)) (tG 696 (by decide +kernel) (by decide +kernel)) (by decide +kernel)
theorem ct_law_81 {q : MM} (hq : q.1 = R_law) : CallTo q m_MO_over (.invokevirtual 81) 3 (some (some R_MO)) := ct_V (by rw [hq]; exact tG 1164 (by decide +kernel) (by decide +kernel)) (tG 1165 (by decide +kernel) (by decide +kernel)) (tG 1166 (by decide +kernel) (by decide +kernel)) (tG 13 (by decide +kernel) (by decide +kernel)) (tG 1167 (by decide +kernel) (by decide +kernel)) (by decide +kernel)
theorem ct_law_82 {q : MM} (hq : q.1 = R_law) : CallTo q m_UF_link (.invokevirtual 82) 3 (some (some R_UF)) := ct_V (by rw [hq]; exact tG 697 (by decide +kernel) (by decide +kernel)) (tG 698 (by decide +kernel) (by decide +kernel)) (tG 699 (by decide +kernel) (by decide +kernel)) (tG 1 (by decide +kernel) (by decide +kernel)) (tG 700 (by decide +kernel) (by decide +kernel)) (by decide +kernel)
theorem ct_law_85 {q : MM} (hq : q.1 = R_law) : CallTo q m_MO_link (.invokevirtual 85) 3 (some (some R_MO)) := ct_V (by rw [hq]; exact tG 1168 (by decide +kernel) (by decide +kernel)) (tG 1169 (by decide +kernel) (by decide +kernel)) (tG 1170 (by decide +kernel) (by decide +kernel)) (tG 13 (by decide +kernel) (by decide +kernel)) (tG 1171 (by decide +kernel) (by decide +kernel)) (by decide +kernel)
theorem ct_law_86 {q : MM} (hq : q.1 = R_law) : CallTo q m_UF_frees (.invokevirtual 86) 4 (some (some R_UF)) := ct_V (by rw [hq]; exact tG 701 (by decide +kernel) (by decide +kernel)) (tG 702 (by decide +kernel) (by decide +kernel)) (tG 703 (by decide +kernel) (by decide +kernel)) (tG 1 (by decide +kernel) (by decide +kernel)) (tG 704 (by decide +kernel) (by decide +kernel)) (by decide +kernel)
theorem ct_law_89 {q : MM} (hq : q.1 = R_law) : CallTo q m_MO_frees (.invokevirtual 89) 4 (some (some R_MO)) := ct_V (by rw [hq]; exact tG 1180 (by decide +kernel) (by decide +kernel)) (tG 1181 (by decide +kernel) (by decide +kernel)) (tG 1182 (by decide +kernel) (by decide +kernel)) (tG 13 (by decide +kernel) (by decide +kernel)) (tG 1183 (by decide +kernel) (by decide +kernel)) (by decide +kernel)
theorem ct_law_9 {q : MM} (hq : q.1 = R_law) : CallTo q m_UF_init (.invokespecial 9) 1 (some none) := ct_I (by rw [hq]; exact tG 23 (by decide +kernel) (by decide +kernel)) (tG 24 (by decide +kernel) (by decide +kernel)) (tG 1 (by decide +kernel) (by decide +kernel)) (tG 25 (by decide +kernel) (by decide +kernel)) rfl rfl (by decide +kernel)
theorem ct_law_90 {q : MM} (hq : q.1 = R_law) : CallTo q m_UF_hang (.invokevirtual 90) 4 (some (some R_UF)) := ct_V (by rw [hq]; exact tG 707 (by decide +kernel) (by decide +kernel)) (tG 708 (by decide +kernel) (by decide +kernel)) (tG 709 (by decide +kernel) (by decide +kernel)) (tG 1 (by decide +kernel) (by decide +kernel)) (tG 710 (by decide +kernel) (by decide +kernel)) (by decide +kernel)
theorem ct_law_93 {q : MM} (hq : q.1 = R_law) : CallTo q m_MO_hang (.invokevirtual 93) 4 (some (some R_MO)) := ct_V (by rw [hq]; exact tG 1184 (by decide +kernel) (by decide +kernel)) (tG 1185 (by decide +kernel) (by decide +kernel)) (tG 1186 (by decide +kernel) (by decide +kernel)) (tG 13 (by decide +kernel) (by decide +kernel)) (tG 1187 (by decide +kernel) (by decide +kernel)) (by decide +kernel)
theorem ct_law_94 {q : MM} (hq : q.1 = R_law) : CallTo q m_UF_night (.invokevirtual 94) 2 (some (some R_UF)) := ct_V (by rw [hq]; exact tG 711 (by decide +kernel) (by decide +kernel)) (tG 712 (by decide +kernel) (by decide +kernel)) (tG 713 (by decide +kernel) (by decide +kernel)) (tG 1 (by decide +kernel) (by decide +kernel)) (tG 714 (by decide +kernel) (by decide +kernel)) (by decide +kernel)
theorem ct_law_97 {q : MM} (hq : q.1 = R_law) : CallTo q m_MO_night (.invokevirtual 97) 2 (some (some R_MO)) := ct_V (by rw [hq]; exact tG 1188 (by decide +kernel) (by decide +kernel)) (tG 1189 (by decide +kernel) (by decide +kernel)) (tG 1190 (by decide +kernel) (by decide +kernel)) (tG 13 (by decide +kernel) (by decide +kernel)) (tG 1191 (by decide +kernel) (by decide +kernel)) (by decide +kernel)
theorem ct_law_98 {q : MM} (hq : q.1 = R_law) : CallTo q m_UF_dawn (.invokevirtual 98) 2 (some (some R_UF)) := ct_V (by rw [hq]; exact tG 715 (by decide +kernel) (by decide +kernel)) (tG 716 (by decide +kernel) (by decide +kernel)) (tG 717 (by decide +kernel) (by decide +kernel)) (tG 1 (by decide +kernel) (by decide +kernel)) (tG 718 (by decide +kernel) (by decide +kernel)) (by decide +kernel)
section LAWR
variable {G : GG} {T : TT} {q : MM} {d pc : Nat} {L : LL} {st : List Value} {h : AH} {bc bs : Nat} {Q : QQ}
theorem A_bud {bc' bs' : Nat} (k : Att G T q d pc L st h bc' bs' Q) (hc : bc' ≤ bc) (hs : bs' ≤ bs) : Att G T q d pc L st h bc bs Q := by
  intro p e R s m args below meth cc H locs cells slots KK Zs ls hC hH hS hl hc1 hc2 hk1 hk2 hE
  exact k p e R s m args below meth cc H locs cells slots KK Zs ls hC hH hS hl (by omega) (by omega) (by omega) hk2 hE
end LAWR
/-- the script's int at place 7 k + j -/
def sv (G : GG) (k j : Nat) : Int32 := G.2.2.2.2.2.2 (7 * k + j)
abbrev LA (k : Nat) : LL := [some (.ref (1000000 + 200)), some (.ref 0), some (.ref 59), some (.int (nI (7 * k)))]
abbrev QL : QQ := fun v _ => v = some (.int 1)
theorem A_arg {G : GG} {d pc k L bc bs : Nat} {st : List Value} {h : AH} (j : Nat) (hL : G.2.2.2.2.2.1 = L) (hl : 7 * k + 7 ≤ L) (hL2 : L ≤ 3584) (hj : j < 6) (h0 : decode code pc = .ok (.aload_n 0, 1)) (h1 : decode code (pc + 1) = .ok (.iload_n 3, 1)) (h2 : decode code (pc + 2) = .ok (.iconst (j : Int), 1)) (h3 : decode code (pc + 3) = .ok (.iadd, 1)) (h4 : decode code (pc + 4) = .ok (.iaload, 1)) (kk : Att G T1 m_law d (pc + 5) (LA k) (.int (sv G k j) :: st) h bc bs QL) : Att G T1 m_law d pc (LA k) st h bc bs QL := by
  refine A_aload_n h0 rfl ?_
  refine A_iload_n h1 rfl ?_
  refine A_iconst (nI j) rfl h2 ?_
  refine A_iadd h3 ?_
  rw [nI_add]
  refine A_scrI h4 (by rw [hL]; exact inb_nI (by omega) (by omega)) ?_
  rw [nI_clamp (by omega)]
  exact kk
theorem A_arg6 {G : GG} {d pc k L bc bs : Nat} {st : List Value} {h : AH} (hL : G.2.2.2.2.2.1 = L) (hl : 7 * k + 7 ≤ L) (hL2 : L ≤ 3584) (h0 : decode code pc = .ok (.aload_n 0, 1)) (h1 : decode code (pc + 1) = .ok (.iload_n 3, 1)) (h2 : decode code (pc + 2) = .ok (.bipush 6, 2)) (h3 : decode code (pc + 4) = .ok (.iadd, 1)) (h4 : decode code (pc + 5) = .ok (.iaload, 1)) (kk : Att G T1 m_law d (pc + 6) (LA k) (.int (sv G k 6) :: st) h bc bs QL) : Att G T1 m_law d pc (LA k) st h bc bs QL := by
  refine A_aload_n h0 rfl ?_
  refine A_iload_n h1 rfl ?_
  refine A_bipush (nI 6) (by decide) h2 ?_
  refine A_iadd h3 ?_
  rw [nI_add]
  refine A_scrI h4 (by rw [hL]; exact inb_nI (by omega) (by omega)) ?_
  rw [nI_clamp (by omega)]
  exact kk
theorem law_count {G : GG} {k L bc bs : Nat} {h : AH} (hL : G.2.2.2.2.2.1 = L) (hl : 7 * k + 7 ≤ L) (hL2 : L ≤ 3584) (I : Inv h) (K : ∀ h2, Inv h2 → Att G T1 m_law 161 1436 (LA k) [] h2 bc bs QL) : Att G T1 m_law 161 188 (LA k) [] h (bc + 8) (bs + 24) QL := by
  refine A_aload_n d_law_188 rfl ?_
  refine A_arg 1 hL hl hL2 (by decide) d_law_189 d_law_190 d_law_191 d_law_192 d_law_193 ?_
  refine A_callI (d := 160) (Qc := fun r1 h1 => p_MO_count (K2 r1) (sv G k 1) h1) [.ref 0, .int (sv G k 1)] [] (ct_law_13 rfl) d_law_194 rfl rfl (by decide) (Nat.le_of_ble_eq_true rfl) (rcA_o (c := 11) rfl (vA_s (by decide)) rfl (by decide) rfl) 0 0 (by omega) (by omega) (ok_UF_count (d := 158) (both_count I)) (fun r1 h1 H1 => ?_)
  refine A_aload_n d_law_197 rfl ?_
  refine A_arg 1 hL hl hL2 (by decide) d_law_198 d_law_199 d_law_200 d_law_201 d_law_202 ?_
  refine A_callI (d := 160) (Qc := K2 r1) [.ref 59, .int (sv G k 1)] [.int r1] (ct_law_17 rfl) d_law_203 rfl rfl (by decide) (Nat.le_of_ble_eq_true rfl) (rcA_o (c := 12) rfl (vA_s (by decide)) rfl (by decide) rfl) 0 0 (Nat.zero_le _) (Nat.zero_le _) (ok_MO_count (d := 158) H1) (fun r2 h2 H2 => ?_)
  exact A_icmp_eq 1436 d_law_206 (by decide) (fun _ => A_bud (K h2 H2.2) (by omega) (by omega)) (fun z => absurd H2.1 z)
theorem law_feed {G : GG} {k L bc bs : Nat} {h : AH} (hL : G.2.2.2.2.2.1 = L) (hl : 7 * k + 7 ≤ L) (hL2 : L ≤ 3584) (I : Inv h) (K : ∀ h2, Inv h2 → Att G T1 m_law 161 1436 (LA k) [] h2 bc bs QL) : Att G T1 m_law 161 211 (LA k) [] h (bc + 8) (bs + 24) QL := by
  refine A_aload_n d_law_211 rfl ?_
  refine A_arg 1 hL hl hL2 (by decide) d_law_212 d_law_213 d_law_214 d_law_215 d_law_216 ?_
  refine A_arg 2 hL hl hL2 (by decide) d_law_217 d_law_218 d_law_219 d_law_220 d_law_221 ?_
  refine A_arg 3 hL hl hL2 (by decide) d_law_222 d_law_223 d_law_224 d_law_225 d_law_226 ?_
  refine A_arg 4 hL hl hL2 (by decide) d_law_227 d_law_228 d_law_229 d_law_230 d_law_231 ?_
  refine A_arg 5 hL hl hL2 (by decide) d_law_232 d_law_233 d_law_234 d_law_235 d_law_236 ?_
  refine A_arg6 hL hl hL2 d_law_237 d_law_238 d_law_239 d_law_241 d_law_242 ?_
  refine A_callI (d := 160) (Qc := fun r1 h1 => p_MO_feed (K2 r1) (sv G k 1) (sv G k 2) (sv G k 3) (sv G k 4) (sv G k 5) (sv G k 6) h1) [.ref 0, .int (sv G k 1), .int (sv G k 2), .int (sv G k 3), .int (sv G k 4), .int (sv G k 5), .int (sv G k 6)] [] (ct_law_18 rfl) d_law_243 rfl rfl (by decide) (Nat.le_of_ble_eq_true rfl) (rcA_o (c := 11) rfl (vA_s (by decide)) rfl (by decide) rfl) 0 0 (by omega) (by omega) (ok_UF_feed (d := 158) (both_feed I)) (fun r1 h1 H1 => ?_)
  refine A_aload_n d_law_246 rfl ?_
  refine A_arg 1 hL hl hL2 (by decide) d_law_247 d_law_248 d_law_249 d_law_250 d_law_251 ?_
  refine A_arg 2 hL hl hL2 (by decide) d_law_252 d_law_253 d_law_254 d_law_255 d_law_256 ?_
  refine A_arg 3 hL hl hL2 (by decide) d_law_257 d_law_258 d_law_259 d_law_260 d_law_261 ?_
  refine A_arg 4 hL hl hL2 (by decide) d_law_262 d_law_263 d_law_264 d_law_265 d_law_266 ?_
  refine A_arg 5 hL hl hL2 (by decide) d_law_267 d_law_268 d_law_269 d_law_270 d_law_271 ?_
  refine A_arg6 hL hl hL2 d_law_272 d_law_273 d_law_274 d_law_276 d_law_277 ?_
  refine A_callI (d := 160) (Qc := K2 r1) [.ref 59, .int (sv G k 1), .int (sv G k 2), .int (sv G k 3), .int (sv G k 4), .int (sv G k 5), .int (sv G k 6)] [.int r1] (ct_law_22 rfl) d_law_278 rfl rfl (by decide) (Nat.le_of_ble_eq_true rfl) (rcA_o (c := 12) rfl (vA_s (by decide)) rfl (by decide) rfl) 0 0 (Nat.zero_le _) (Nat.zero_le _) (ok_MO_feed (d := 158) H1) (fun r2 h2 H2 => ?_)
  exact A_icmp_eq 1436 d_law_281 (by decide) (fun _ => A_bud (K h2 H2.2) (by omega) (by omega)) (fun z => absurd H2.1 z)
theorem law_text {G : GG} {k L bc bs : Nat} {h : AH} (hL : G.2.2.2.2.2.1 = L) (hl : 7 * k + 7 ≤ L) (hL2 : L ≤ 3584) (I : Inv h) (K : ∀ h2, Inv h2 → Att G T1 m_law 161 1436 (LA k) [] h2 bc bs QL) : Att G T1 m_law 161 286 (LA k) [] h (bc + 8) (bs + 24) QL := by
  refine A_aload_n d_law_286 rfl ?_
  refine A_callI (d := 160) (Qc := fun r1 h1 => p_MO_text (K2 r1) h1) [.ref 0] [] (ct_law_23 rfl) d_law_287 rfl rfl (by decide) (Nat.le_of_ble_eq_true rfl) (rcA_o (c := 11) rfl (vA_s (by decide)) rfl (by decide) rfl) 0 0 (by omega) (by omega) (ok_UF_text (d := 156) (P_Reader_read := P_read) (fun Q a1 x2 a3 h H => ok_Reader_read (d := 150) (P_Reader_either := PRd 42 0) (ok_PRd (d := 108) 42).1 H) (both_text I)) (fun r1 h1 H1 => ?_)
  refine A_aload_n d_law_290 rfl ?_
  refine A_callI (d := 160) (Qc := K2 r1) [.ref 59] [.int r1] (ct_law_27 rfl) d_law_291 rfl rfl (by decide) (Nat.le_of_ble_eq_true rfl) (rcA_o (c := 12) rfl (vA_s (by decide)) rfl (by decide) rfl) 0 0 (Nat.zero_le _) (Nat.zero_le _) (ok_MO_text (d := 156) H1) (fun r2 h2 H2 => ?_)
  exact A_icmp_eq 1436 d_law_294 (by decide) (fun _ => A_bud (K h2 H2.2) (by omega) (by omega)) (fun z => absurd H2.1 z)
theorem law_force {G : GG} {k L bc bs : Nat} {h : AH} (hL : G.2.2.2.2.2.1 = L) (hl : 7 * k + 7 ≤ L) (hL2 : L ≤ 3584) (I : Inv h) (K : ∀ h2, Inv h2 → Att G T1 m_law 161 1436 (LA k) [] h2 bc bs QL) : Att G T1 m_law 161 299 (LA k) [] h (bc + 8) (bs + 24) QL := by
  refine A_aload_n d_law_299 rfl ?_
  refine A_arg 1 hL hl hL2 (by decide) d_law_300 d_law_301 d_law_302 d_law_303 d_law_304 ?_
  refine A_callI (d := 160) (Qc := fun r1 h1 => p_MO_force (K2 r1) (sv G k 1) h1) [.ref 0, .int (sv G k 1)] [] (ct_law_28 rfl) d_law_305 rfl rfl (by decide) (Nat.le_of_ble_eq_true rfl) (rcA_o (c := 11) rfl (vA_s (by decide)) rfl (by decide) rfl) 0 0 (by omega) (by omega) (ok_UF_force (d := 159) (both_force I)) (fun r1 h1 H1 => ?_)
  refine A_aload_n d_law_308 rfl ?_
  refine A_arg 1 hL hl hL2 (by decide) d_law_309 d_law_310 d_law_311 d_law_312 d_law_313 ?_
  refine A_callI (d := 160) (Qc := K2 r1) [.ref 59, .int (sv G k 1)] [.int r1] (ct_law_31 rfl) d_law_314 rfl rfl (by decide) (Nat.le_of_ble_eq_true rfl) (rcA_o (c := 12) rfl (vA_s (by decide)) rfl (by decide) rfl) 0 0 (Nat.zero_le _) (Nat.zero_le _) (ok_MO_force (d := 159) H1) (fun r2 h2 H2 => ?_)
  exact A_icmp_eq 1436 d_law_317 (by decide) (fun _ => A_bud (K h2 H2.2) (by omega) (by omega)) (fun z => absurd H2.1 z)
theorem law_asks {G : GG} {k L bc bs : Nat} {h : AH} (hL : G.2.2.2.2.2.1 = L) (hl : 7 * k + 7 ≤ L) (hL2 : L ≤ 3584) (I : Inv h) (K : ∀ h2, Inv h2 → Att G T1 m_law 161 1436 (LA k) [] h2 bc bs QL) : Att G T1 m_law 161 322 (LA k) [] h (bc + 8) (bs + 24) QL := by
  refine A_aload_n d_law_322 rfl ?_
  refine A_arg 1 hL hl hL2 (by decide) d_law_323 d_law_324 d_law_325 d_law_326 d_law_327 ?_
  refine A_arg 2 hL hl hL2 (by decide) d_law_328 d_law_329 d_law_330 d_law_331 d_law_332 ?_
  refine A_arg 3 hL hl hL2 (by decide) d_law_333 d_law_334 d_law_335 d_law_336 d_law_337 ?_
  refine A_callI (d := 160) (Qc := fun r1 h1 => p_MO_asks (K2 r1) (sv G k 1) (sv G k 2) (sv G k 3) h1) [.ref 0, .int (sv G k 1), .int (sv G k 2), .int (sv G k 3)] [] (ct_law_32 rfl) d_law_338 rfl rfl (by decide) (Nat.le_of_ble_eq_true rfl) (rcA_o (c := 11) rfl (vA_s (by decide)) rfl (by decide) rfl) 0 0 (by omega) (by omega) (ok_UF_asks (d := 156) (both_asks I)) (fun r1 h1 H1 => ?_)
  refine A_aload_n d_law_341 rfl ?_
  refine A_arg 1 hL hl hL2 (by decide) d_law_342 d_law_343 d_law_344 d_law_345 d_law_346 ?_
  refine A_arg 2 hL hl hL2 (by decide) d_law_347 d_law_348 d_law_349 d_law_350 d_law_351 ?_
  refine A_arg 3 hL hl hL2 (by decide) d_law_352 d_law_353 d_law_354 d_law_355 d_law_356 ?_
  refine A_callI (d := 160) (Qc := K2 r1) [.ref 59, .int (sv G k 1), .int (sv G k 2), .int (sv G k 3)] [.int r1] (ct_law_36 rfl) d_law_357 rfl rfl (by decide) (Nat.le_of_ble_eq_true rfl) (rcA_o (c := 12) rfl (vA_s (by decide)) rfl (by decide) rfl) 0 0 (Nat.zero_le _) (Nat.zero_le _) (ok_MO_asks (d := 157) H1) (fun r2 h2 H2 => ?_)
  exact A_icmp_eq 1436 d_law_360 (by decide) (fun _ => A_bud (K h2 H2.2) (by omega) (by omega)) (fun z => absurd H2.1 z)
theorem law_house {G : GG} {k L bc bs : Nat} {h : AH} (hL : G.2.2.2.2.2.1 = L) (hl : 7 * k + 7 ≤ L) (hL2 : L ≤ 3584) (I : Inv h) (K : ∀ h2, Inv h2 → Att G T1 m_law 161 1436 (LA k) [] h2 bc bs QL) : Att G T1 m_law 161 365 (LA k) [] h (bc + 8) (bs + 24) QL := by
  refine A_aload_n d_law_365 rfl ?_
  refine A_arg 1 hL hl hL2 (by decide) d_law_366 d_law_367 d_law_368 d_law_369 d_law_370 ?_
  refine A_arg 2 hL hl hL2 (by decide) d_law_371 d_law_372 d_law_373 d_law_374 d_law_375 ?_
  refine A_arg 3 hL hl hL2 (by decide) d_law_376 d_law_377 d_law_378 d_law_379 d_law_380 ?_
  refine A_callI (d := 160) (Qc := fun r1 h1 => p_MO_house (K2 r1) (sv G k 1) (sv G k 2) (sv G k 3) h1) [.ref 0, .int (sv G k 1), .int (sv G k 2), .int (sv G k 3)] [] (ct_law_37 rfl) d_law_381 rfl rfl (by decide) (Nat.le_of_ble_eq_true rfl) (rcA_o (c := 11) rfl (vA_s (by decide)) rfl (by decide) rfl) 1 3 (by omega) (by omega) (ok_UF_house (d := 154) (both_house I)) (fun r1 h1 H1 => ?_)
  refine A_aload_n d_law_384 rfl ?_
  refine A_arg 1 hL hl hL2 (by decide) d_law_385 d_law_386 d_law_387 d_law_388 d_law_389 ?_
  refine A_arg 2 hL hl hL2 (by decide) d_law_390 d_law_391 d_law_392 d_law_393 d_law_394 ?_
  refine A_arg 3 hL hl hL2 (by decide) d_law_395 d_law_396 d_law_397 d_law_398 d_law_399 ?_
  refine A_callI (d := 160) (Qc := K2 r1) [.ref 59, .int (sv G k 1), .int (sv G k 2), .int (sv G k 3)] [.int r1] (ct_law_40 rfl) d_law_400 rfl rfl (by decide) (Nat.le_of_ble_eq_true rfl) (rcA_o (c := 12) rfl (vA_s (by decide)) rfl (by decide) rfl) 0 0 (Nat.zero_le _) (Nat.zero_le _) (ok_MO_house (d := 159) H1) (fun r2 h2 H2 => ?_)
  exact A_icmp_eq 1436 d_law_403 (by decide) (fun _ => A_bud (K h2 H2.2) (by omega) (by omega)) (fun z => absurd H2.1 z)
theorem law_set {G : GG} {k L bc bs : Nat} {h : AH} (hL : G.2.2.2.2.2.1 = L) (hl : 7 * k + 7 ≤ L) (hL2 : L ≤ 3584) (I : Inv h) (K : ∀ h2, Inv h2 → Att G T1 m_law 161 1436 (LA k) [] h2 bc bs QL) : Att G T1 m_law 161 408 (LA k) [] h (bc + 8) (bs + 24) QL := by
  refine A_aload_n d_law_408 rfl ?_
  refine A_arg 1 hL hl hL2 (by decide) d_law_409 d_law_410 d_law_411 d_law_412 d_law_413 ?_
  refine A_arg 2 hL hl hL2 (by decide) d_law_414 d_law_415 d_law_416 d_law_417 d_law_418 ?_
  refine A_arg 3 hL hl hL2 (by decide) d_law_419 d_law_420 d_law_421 d_law_422 d_law_423 ?_
  refine A_callI (d := 160) (Qc := fun r1 h1 => p_MO_set (K2 r1) (sv G k 1) (sv G k 2) (sv G k 3) h1) [.ref 0, .int (sv G k 1), .int (sv G k 2), .int (sv G k 3)] [] (ct_law_41 rfl) d_law_424 rfl rfl (by decide) (Nat.le_of_ble_eq_true rfl) (rcA_o (c := 11) rfl (vA_s (by decide)) rfl (by decide) rfl) 0 0 (by omega) (by omega) (ok_UF_set (d := 158) (both_set I)) (fun r1 h1 H1 => ?_)
  refine A_aload_n d_law_427 rfl ?_
  refine A_arg 1 hL hl hL2 (by decide) d_law_428 d_law_429 d_law_430 d_law_431 d_law_432 ?_
  refine A_arg 2 hL hl hL2 (by decide) d_law_433 d_law_434 d_law_435 d_law_436 d_law_437 ?_
  refine A_arg 3 hL hl hL2 (by decide) d_law_438 d_law_439 d_law_440 d_law_441 d_law_442 ?_
  refine A_callI (d := 160) (Qc := K2 r1) [.ref 59, .int (sv G k 1), .int (sv G k 2), .int (sv G k 3)] [.int r1] (ct_law_44 rfl) d_law_443 rfl rfl (by decide) (Nat.le_of_ble_eq_true rfl) (rcA_o (c := 12) rfl (vA_s (by decide)) rfl (by decide) rfl) 0 0 (Nat.zero_le _) (Nat.zero_le _) (ok_MO_set (d := 158) H1) (fun r2 h2 H2 => ?_)
  exact A_icmp_eq 1436 d_law_446 (by decide) (fun _ => A_bud (K h2 H2.2) (by omega) (by omega)) (fun z => absurd H2.1 z)
theorem law_chain {G : GG} {k L bc bs : Nat} {h : AH} (hL : G.2.2.2.2.2.1 = L) (hl : 7 * k + 7 ≤ L) (hL2 : L ≤ 3584) (I : Inv h) (K : ∀ h2, Inv h2 → Att G T1 m_law 161 1436 (LA k) [] h2 bc bs QL) : Att G T1 m_law 161 451 (LA k) [] h (bc + 8) (bs + 24) QL := by
  refine A_aload_n d_law_451 rfl ?_
  refine A_arg 1 hL hl hL2 (by decide) d_law_452 d_law_453 d_law_454 d_law_455 d_law_456 ?_
  refine A_arg 2 hL hl hL2 (by decide) d_law_457 d_law_458 d_law_459 d_law_460 d_law_461 ?_
  refine A_callI (d := 160) (Qc := fun r1 h1 => p_MO_chain (K2 r1) (sv G k 1) (sv G k 2) h1) [.ref 0, .int (sv G k 1), .int (sv G k 2)] [] (ct_law_45 rfl) d_law_462 rfl rfl (by decide) (Nat.le_of_ble_eq_true rfl) (rcA_o (c := 11) rfl (vA_s (by decide)) rfl (by decide) rfl) 0 0 (by omega) (by omega) (ok_UF_chain (d := 157) (both_chain I)) (fun r1 h1 H1 => ?_)
  refine A_aload_n d_law_465 rfl ?_
  refine A_arg 1 hL hl hL2 (by decide) d_law_466 d_law_467 d_law_468 d_law_469 d_law_470 ?_
  refine A_arg 2 hL hl hL2 (by decide) d_law_471 d_law_472 d_law_473 d_law_474 d_law_475 ?_
  refine A_callI (d := 160) (Qc := K2 r1) [.ref 59, .int (sv G k 1), .int (sv G k 2)] [.int r1] (ct_law_49 rfl) d_law_476 rfl rfl (by decide) (Nat.le_of_ble_eq_true rfl) (rcA_o (c := 12) rfl (vA_s (by decide)) rfl (by decide) rfl) 0 0 (Nat.zero_le _) (Nat.zero_le _) (ok_MO_chain (d := 158) H1) (fun r2 h2 H2 => ?_)
  exact A_icmp_eq 1436 d_law_479 (by decide) (fun _ => A_bud (K h2 H2.2) (by omega) (by omega)) (fun z => absurd H2.1 z)
theorem law_told {G : GG} {k L bc bs : Nat} {h : AH} (hL : G.2.2.2.2.2.1 = L) (hl : 7 * k + 7 ≤ L) (hL2 : L ≤ 3584) (I : Inv h) (K : ∀ h2, Inv h2 → Att G T1 m_law 161 1436 (LA k) [] h2 bc bs QL) : Att G T1 m_law 161 484 (LA k) [] h (bc + 8) (bs + 24) QL := by
  refine A_aload_n d_law_484 rfl ?_
  refine A_arg 1 hL hl hL2 (by decide) d_law_485 d_law_486 d_law_487 d_law_488 d_law_489 ?_
  refine A_arg 2 hL hl hL2 (by decide) d_law_490 d_law_491 d_law_492 d_law_493 d_law_494 ?_
  refine A_callI (d := 160) (Qc := fun r1 h1 => p_MO_told (K2 r1) (sv G k 1) (sv G k 2) h1) [.ref 0, .int (sv G k 1), .int (sv G k 2)] [] (ct_law_50 rfl) d_law_495 rfl rfl (by decide) (Nat.le_of_ble_eq_true rfl) (rcA_o (c := 11) rfl (vA_s (by decide)) rfl (by decide) rfl) 0 0 (by omega) (by omega) (ok_UF_told (d := 158) (both_told I)) (fun r1 h1 H1 => ?_)
  refine A_aload_n d_law_498 rfl ?_
  refine A_arg 1 hL hl hL2 (by decide) d_law_499 d_law_500 d_law_501 d_law_502 d_law_503 ?_
  refine A_arg 2 hL hl hL2 (by decide) d_law_504 d_law_505 d_law_506 d_law_507 d_law_508 ?_
  refine A_callI (d := 160) (Qc := K2 r1) [.ref 59, .int (sv G k 1), .int (sv G k 2)] [.int r1] (ct_law_53 rfl) d_law_509 rfl rfl (by decide) (Nat.le_of_ble_eq_true rfl) (rcA_o (c := 12) rfl (vA_s (by decide)) rfl (by decide) rfl) 0 0 (Nat.zero_le _) (Nat.zero_le _) (ok_MO_told (d := 158) H1) (fun r2 h2 H2 => ?_)
  exact A_icmp_eq 1436 d_law_512 (by decide) (fun _ => A_bud (K h2 H2.2) (by omega) (by omega)) (fun z => absurd H2.1 z)
theorem law_of {G : GG} {k L bc bs : Nat} {h : AH} (hL : G.2.2.2.2.2.1 = L) (hl : 7 * k + 7 ≤ L) (hL2 : L ≤ 3584) (I : Inv h) (K : ∀ h2, Inv h2 → Att G T1 m_law 161 1436 (LA k) [] h2 bc bs QL) : Att G T1 m_law 161 517 (LA k) [] h (bc + 8) (bs + 24) QL := by
  refine A_aload_n d_law_517 rfl ?_
  refine A_arg 1 hL hl hL2 (by decide) d_law_518 d_law_519 d_law_520 d_law_521 d_law_522 ?_
  refine A_arg 2 hL hl hL2 (by decide) d_law_523 d_law_524 d_law_525 d_law_526 d_law_527 ?_
  refine A_arg 3 hL hl hL2 (by decide) d_law_528 d_law_529 d_law_530 d_law_531 d_law_532 ?_
  refine A_callI (d := 160) (Qc := fun r1 h1 => p_MO_of (K2 r1) (sv G k 1) (sv G k 2) (sv G k 3) h1) [.ref 0, .int (sv G k 1), .int (sv G k 2), .int (sv G k 3)] [] (ct_law_54 rfl) d_law_533 rfl rfl (by decide) (Nat.le_of_ble_eq_true rfl) (rcA_o (c := 11) rfl (vA_s (by decide)) rfl (by decide) rfl) 0 0 (by omega) (by omega) (ok_UF_of (d := 153) (both_of I)) (fun r1 h1 H1 => ?_)
  refine A_aload_n d_law_536 rfl ?_
  refine A_arg 1 hL hl hL2 (by decide) d_law_537 d_law_538 d_law_539 d_law_540 d_law_541 ?_
  refine A_arg 2 hL hl hL2 (by decide) d_law_542 d_law_543 d_law_544 d_law_545 d_law_546 ?_
  refine A_arg 3 hL hl hL2 (by decide) d_law_547 d_law_548 d_law_549 d_law_550 d_law_551 ?_
  refine A_callI (d := 160) (Qc := K2 r1) [.ref 59, .int (sv G k 1), .int (sv G k 2), .int (sv G k 3)] [.int r1] (ct_law_57 rfl) d_law_552 rfl rfl (by decide) (Nat.le_of_ble_eq_true rfl) (rcA_o (c := 12) rfl (vA_s (by decide)) rfl (by decide) rfl) 0 0 (Nat.zero_le _) (Nat.zero_le _) (ok_MO_of (d := 152) H1) (fun r2 h2 H2 => ?_)
  exact A_icmp_eq 1436 d_law_555 (by decide) (fun _ => A_bud (K h2 H2.2) (by omega) (by omega)) (fun z => absurd H2.1 z)
theorem law_all {G : GG} {k L bc bs : Nat} {h : AH} (hL : G.2.2.2.2.2.1 = L) (hl : 7 * k + 7 ≤ L) (hL2 : L ≤ 3584) (I : Inv h) (K : ∀ h2, Inv h2 → Att G T1 m_law 161 1436 (LA k) [] h2 bc bs QL) : Att G T1 m_law 161 560 (LA k) [] h (bc + 8) (bs + 24) QL := by
  refine A_aload_n d_law_560 rfl ?_
  refine A_arg 1 hL hl hL2 (by decide) d_law_561 d_law_562 d_law_563 d_law_564 d_law_565 ?_
  refine A_arg 2 hL hl hL2 (by decide) d_law_566 d_law_567 d_law_568 d_law_569 d_law_570 ?_
  refine A_callI (d := 160) (Qc := fun r1 h1 => p_MO_all (K2 r1) (sv G k 1) (sv G k 2) h1) [.ref 0, .int (sv G k 1), .int (sv G k 2)] [] (ct_law_58 rfl) d_law_571 rfl rfl (by decide) (Nat.le_of_ble_eq_true rfl) (rcA_o (c := 11) rfl (vA_s (by decide)) rfl (by decide) rfl) 0 0 (by omega) (by omega) (ok_UF_all (d := 153) (both_all I)) (fun r1 h1 H1 => ?_)
  refine A_aload_n d_law_574 rfl ?_
  refine A_arg 1 hL hl hL2 (by decide) d_law_575 d_law_576 d_law_577 d_law_578 d_law_579 ?_
  refine A_arg 2 hL hl hL2 (by decide) d_law_580 d_law_581 d_law_582 d_law_583 d_law_584 ?_
  refine A_callI (d := 160) (Qc := K2 r1) [.ref 59, .int (sv G k 1), .int (sv G k 2)] [.int r1] (ct_law_61 rfl) d_law_585 rfl rfl (by decide) (Nat.le_of_ble_eq_true rfl) (rcA_o (c := 12) rfl (vA_s (by decide)) rfl (by decide) rfl) 0 0 (Nat.zero_le _) (Nat.zero_le _) (ok_MO_all (d := 152) H1) (fun r2 h2 H2 => ?_)
  exact A_icmp_eq 1436 d_law_588 (by decide) (fun _ => A_bud (K h2 H2.2) (by omega) (by omega)) (fun z => absurd H2.1 z)
theorem law_when {G : GG} {k L bc bs : Nat} {h : AH} (hL : G.2.2.2.2.2.1 = L) (hl : 7 * k + 7 ≤ L) (hL2 : L ≤ 3584) (I : Inv h) (K : ∀ h2, Inv h2 → Att G T1 m_law 161 1436 (LA k) [] h2 bc bs QL) : Att G T1 m_law 161 593 (LA k) [] h (bc + 8) (bs + 24) QL := by
  refine A_aload_n d_law_593 rfl ?_
  refine A_arg 1 hL hl hL2 (by decide) d_law_594 d_law_595 d_law_596 d_law_597 d_law_598 ?_
  refine A_callI (d := 160) (Qc := fun r1 h1 => p_MO_when (K2 r1) (sv G k 1) h1) [.ref 0, .int (sv G k 1)] [] (ct_law_62 rfl) d_law_599 rfl rfl (by decide) (Nat.le_of_ble_eq_true rfl) (rcA_o (c := 11) rfl (vA_s (by decide)) rfl (by decide) rfl) 0 0 (by omega) (by omega) (ok_UF_when (d := 153) (both_when I)) (fun r1 h1 H1 => ?_)
  refine A_aload_n d_law_602 rfl ?_
  refine A_arg 1 hL hl hL2 (by decide) d_law_603 d_law_604 d_law_605 d_law_606 d_law_607 ?_
  refine A_callI (d := 160) (Qc := K2 r1) [.ref 59, .int (sv G k 1)] [.int r1] (ct_law_65 rfl) d_law_608 rfl rfl (by decide) (Nat.le_of_ble_eq_true rfl) (rcA_o (c := 12) rfl (vA_s (by decide)) rfl (by decide) rfl) 0 0 (Nat.zero_le _) (Nat.zero_le _) (ok_MO_when (d := 151) H1) (fun r2 h2 H2 => ?_)
  exact A_icmp_eq 1436 d_law_611 (by decide) (fun _ => A_bud (K h2 H2.2) (by omega) (by omega)) (fun z => absurd H2.1 z)
theorem law_first {G : GG} {k L bc bs : Nat} {h : AH} (hL : G.2.2.2.2.2.1 = L) (hl : 7 * k + 7 ≤ L) (hL2 : L ≤ 3584) (I : Inv h) (K : ∀ h2, Inv h2 → Att G T1 m_law 161 1436 (LA k) [] h2 bc bs QL) : Att G T1 m_law 161 616 (LA k) [] h (bc + 8) (bs + 24) QL := by
  refine A_aload_n d_law_616 rfl ?_
  refine A_arg 1 hL hl hL2 (by decide) d_law_617 d_law_618 d_law_619 d_law_620 d_law_621 ?_
  refine A_callI (d := 160) (Qc := fun r1 h1 => p_MO_first (K2 r1) (sv G k 1) h1) [.ref 0, .int (sv G k 1)] [] (ct_law_66 rfl) d_law_622 rfl rfl (by decide) (Nat.le_of_ble_eq_true rfl) (rcA_o (c := 11) rfl (vA_s (by decide)) rfl (by decide) rfl) 0 0 (by omega) (by omega) (ok_UF_first (d := 153) (both_first I)) (fun r1 h1 H1 => ?_)
  refine A_aload_n d_law_625 rfl ?_
  refine A_arg 1 hL hl hL2 (by decide) d_law_626 d_law_627 d_law_628 d_law_629 d_law_630 ?_
  refine A_callI (d := 160) (Qc := K2 r1) [.ref 59, .int (sv G k 1)] [.int r1] (ct_law_69 rfl) d_law_631 rfl rfl (by decide) (Nat.le_of_ble_eq_true rfl) (rcA_o (c := 12) rfl (vA_s (by decide)) rfl (by decide) rfl) 0 0 (Nat.zero_le _) (Nat.zero_le _) (ok_MO_first (d := 151) H1) (fun r2 h2 H2 => ?_)
  exact A_icmp_eq 1436 d_law_634 (by decide) (fun _ => A_bud (K h2 H2.2) (by omega) (by omega)) (fun z => absurd H2.1 z)
theorem law_bring {G : GG} {k L bc bs : Nat} {h : AH} (hL : G.2.2.2.2.2.1 = L) (hl : 7 * k + 7 ≤ L) (hL2 : L ≤ 3584) (I : Inv h) (K : ∀ h2, Inv h2 → Att G T1 m_law 161 1436 (LA k) [] h2 bc bs QL) : Att G T1 m_law 161 639 (LA k) [] h (bc + 8) (bs + 24) QL := by
  refine A_aload_n d_law_639 rfl ?_
  refine A_arg 1 hL hl hL2 (by decide) d_law_640 d_law_641 d_law_642 d_law_643 d_law_644 ?_
  refine A_arg 2 hL hl hL2 (by decide) d_law_645 d_law_646 d_law_647 d_law_648 d_law_649 ?_
  refine A_callI (d := 160) (Qc := fun r1 h1 => p_MO_bring (K2 r1) (sv G k 1) (sv G k 2) h1) [.ref 0, .int (sv G k 1), .int (sv G k 2)] [] (ct_law_70 rfl) d_law_650 rfl rfl (by decide) (Nat.le_of_ble_eq_true rfl) (rcA_o (c := 11) rfl (vA_s (by decide)) rfl (by decide) rfl) 0 0 (by omega) (by omega) (ok_UF_bring (d := 153) (both_bring I)) (fun r1 h1 H1 => ?_)
  refine A_aload_n d_law_653 rfl ?_
  refine A_arg 1 hL hl hL2 (by decide) d_law_654 d_law_655 d_law_656 d_law_657 d_law_658 ?_
  refine A_arg 2 hL hl hL2 (by decide) d_law_659 d_law_660 d_law_661 d_law_662 d_law_663 ?_
  refine A_callI (d := 160) (Qc := K2 r1) [.ref 59, .int (sv G k 1), .int (sv G k 2)] [.int r1] (ct_law_73 rfl) d_law_664 rfl rfl (by decide) (Nat.le_of_ble_eq_true rfl) (rcA_o (c := 12) rfl (vA_s (by decide)) rfl (by decide) rfl) 0 0 (Nat.zero_le _) (Nat.zero_le _) (ok_MO_bring (d := 152) H1) (fun r2 h2 H2 => ?_)
  exact A_icmp_eq 1436 d_law_667 (by decide) (fun _ => A_bud (K h2 H2.2) (by omega) (by omega)) (fun z => absurd H2.1 z)
theorem law_weight {G : GG} {k L bc bs : Nat} {h : AH} (hL : G.2.2.2.2.2.1 = L) (hl : 7 * k + 7 ≤ L) (hL2 : L ≤ 3584) (I : Inv h) (K : ∀ h2, Inv h2 → Att G T1 m_law 161 1436 (LA k) [] h2 bc bs QL) : Att G T1 m_law 161 672 (LA k) [] h (bc + 8) (bs + 24) QL := by
  refine A_aload_n d_law_672 rfl ?_
  refine A_arg 1 hL hl hL2 (by decide) d_law_673 d_law_674 d_law_675 d_law_676 d_law_677 ?_
  refine A_arg 2 hL hl hL2 (by decide) d_law_678 d_law_679 d_law_680 d_law_681 d_law_682 ?_
  refine A_arg 3 hL hl hL2 (by decide) d_law_683 d_law_684 d_law_685 d_law_686 d_law_687 ?_
  refine A_callI (d := 160) (Qc := fun r1 h1 => p_MO_weight (K2 r1) (sv G k 1) (sv G k 2) (sv G k 3) h1) [.ref 0, .int (sv G k 1), .int (sv G k 2), .int (sv G k 3)] [] (ct_law_74 rfl) d_law_688 rfl rfl (by decide) (Nat.le_of_ble_eq_true rfl) (rcA_o (c := 11) rfl (vA_s (by decide)) rfl (by decide) rfl) 0 0 (by omega) (by omega) (ok_UF_weight (d := 153) (both_weight I)) (fun r1 h1 H1 => ?_)
  refine A_aload_n d_law_691 rfl ?_
  refine A_arg 1 hL hl hL2 (by decide) d_law_692 d_law_693 d_law_694 d_law_695 d_law_696 ?_
  refine A_arg 2 hL hl hL2 (by decide) d_law_697 d_law_698 d_law_699 d_law_700 d_law_701 ?_
  refine A_arg 3 hL hl hL2 (by decide) d_law_702 d_law_703 d_law_704 d_law_705 d_law_706 ?_
  refine A_callI (d := 160) (Qc := K2 r1) [.ref 59, .int (sv G k 1), .int (sv G k 2), .int (sv G k 3)] [.int r1] (ct_law_77 rfl) d_law_707 rfl rfl (by decide) (Nat.le_of_ble_eq_true rfl) (rcA_o (c := 12) rfl (vA_s (by decide)) rfl (by decide) rfl) 0 0 (Nat.zero_le _) (Nat.zero_le _) (ok_MO_weight (d := 151) H1) (fun r2 h2 H2 => ?_)
  exact A_icmp_eq 1436 d_law_710 (by decide) (fun _ => A_bud (K h2 H2.2) (by omega) (by omega)) (fun z => absurd H2.1 z)
theorem law_over {G : GG} {k L bc bs : Nat} {h : AH} (hL : G.2.2.2.2.2.1 = L) (hl : 7 * k + 7 ≤ L) (hL2 : L ≤ 3584) (I : Inv h) (K : ∀ h2, Inv h2 → Att G T1 m_law 161 1436 (LA k) [] h2 bc bs QL) : Att G T1 m_law 161 715 (LA k) [] h (bc + 8) (bs + 24) QL := by
  refine A_aload_n d_law_715 rfl ?_
  refine A_arg 1 hL hl hL2 (by decide) d_law_716 d_law_717 d_law_718 d_law_719 d_law_720 ?_
  refine A_arg 2 hL hl hL2 (by decide) d_law_721 d_law_722 d_law_723 d_law_724 d_law_725 ?_
  refine A_callI (d := 160) (Qc := fun r1 h1 => p_MO_over (K2 r1) (sv G k 1) (sv G k 2) h1) [.ref 0, .int (sv G k 1), .int (sv G k 2)] [] (ct_law_78 rfl) d_law_726 rfl rfl (by decide) (Nat.le_of_ble_eq_true rfl) (rcA_o (c := 11) rfl (vA_s (by decide)) rfl (by decide) rfl) 0 0 (by omega) (by omega) (ok_UF_over (d := 153) (both_over I)) (fun r1 h1 H1 => ?_)
  refine A_aload_n d_law_729 rfl ?_
  refine A_arg 1 hL hl hL2 (by decide) d_law_730 d_law_731 d_law_732 d_law_733 d_law_734 ?_
  refine A_arg 2 hL hl hL2 (by decide) d_law_735 d_law_736 d_law_737 d_law_738 d_law_739 ?_
  refine A_callI (d := 160) (Qc := K2 r1) [.ref 59, .int (sv G k 1), .int (sv G k 2)] [.int r1] (ct_law_81 rfl) d_law_740 rfl rfl (by decide) (Nat.le_of_ble_eq_true rfl) (rcA_o (c := 12) rfl (vA_s (by decide)) rfl (by decide) rfl) 0 0 (Nat.zero_le _) (Nat.zero_le _) (ok_MO_over (d := 151) H1) (fun r2 h2 H2 => ?_)
  exact A_icmp_eq 1436 d_law_743 (by decide) (fun _ => A_bud (K h2 H2.2) (by omega) (by omega)) (fun z => absurd H2.1 z)
theorem law_link {G : GG} {k L bc bs : Nat} {h : AH} (hL : G.2.2.2.2.2.1 = L) (hl : 7 * k + 7 ≤ L) (hL2 : L ≤ 3584) (I : Inv h) (K : ∀ h2, Inv h2 → Att G T1 m_law 161 1436 (LA k) [] h2 bc bs QL) : Att G T1 m_law 161 748 (LA k) [] h (bc + 8) (bs + 24) QL := by
  refine A_aload_n d_law_748 rfl ?_
  refine A_arg 1 hL hl hL2 (by decide) d_law_749 d_law_750 d_law_751 d_law_752 d_law_753 ?_
  refine A_arg 2 hL hl hL2 (by decide) d_law_754 d_law_755 d_law_756 d_law_757 d_law_758 ?_
  refine A_callI (d := 160) (Qc := fun r1 h1 => p_MO_link (K2 r1) (sv G k 1) (sv G k 2) h1) [.ref 0, .int (sv G k 1), .int (sv G k 2)] [] (ct_law_82 rfl) d_law_759 rfl rfl (by decide) (Nat.le_of_ble_eq_true rfl) (rcA_o (c := 11) rfl (vA_s (by decide)) rfl (by decide) rfl) 0 0 (by omega) (by omega) (ok_UF_link (d := 153) (both_link I)) (fun r1 h1 H1 => ?_)
  refine A_aload_n d_law_762 rfl ?_
  refine A_arg 1 hL hl hL2 (by decide) d_law_763 d_law_764 d_law_765 d_law_766 d_law_767 ?_
  refine A_arg 2 hL hl hL2 (by decide) d_law_768 d_law_769 d_law_770 d_law_771 d_law_772 ?_
  refine A_callI (d := 160) (Qc := K2 r1) [.ref 59, .int (sv G k 1), .int (sv G k 2)] [.int r1] (ct_law_85 rfl) d_law_773 rfl rfl (by decide) (Nat.le_of_ble_eq_true rfl) (rcA_o (c := 12) rfl (vA_s (by decide)) rfl (by decide) rfl) 0 0 (Nat.zero_le _) (Nat.zero_le _) (ok_MO_link (d := 151) H1) (fun r2 h2 H2 => ?_)
  exact A_icmp_eq 1436 d_law_776 (by decide) (fun _ => A_bud (K h2 H2.2) (by omega) (by omega)) (fun z => absurd H2.1 z)
theorem law_frees {G : GG} {k L bc bs : Nat} {h : AH} (hL : G.2.2.2.2.2.1 = L) (hl : 7 * k + 7 ≤ L) (hL2 : L ≤ 3584) (I : Inv h) (K : ∀ h2, Inv h2 → Att G T1 m_law 161 1436 (LA k) [] h2 bc bs QL) : Att G T1 m_law 161 781 (LA k) [] h (bc + 8) (bs + 24) QL := by
  refine A_aload_n d_law_781 rfl ?_
  refine A_arg 1 hL hl hL2 (by decide) d_law_782 d_law_783 d_law_784 d_law_785 d_law_786 ?_
  refine A_arg 2 hL hl hL2 (by decide) d_law_787 d_law_788 d_law_789 d_law_790 d_law_791 ?_
  refine A_arg 3 hL hl hL2 (by decide) d_law_792 d_law_793 d_law_794 d_law_795 d_law_796 ?_
  refine A_callI (d := 160) (Qc := fun r1 h1 => p_MO_frees (K2 r1) (sv G k 1) (sv G k 2) (sv G k 3) h1) [.ref 0, .int (sv G k 1), .int (sv G k 2), .int (sv G k 3)] [] (ct_law_86 rfl) d_law_797 rfl rfl (by decide) (Nat.le_of_ble_eq_true rfl) (rcA_o (c := 11) rfl (vA_s (by decide)) rfl (by decide) rfl) 0 0 (by omega) (by omega) (ok_UF_frees (d := 153) (both_frees I)) (fun r1 h1 H1 => ?_)
  refine A_aload_n d_law_800 rfl ?_
  refine A_arg 1 hL hl hL2 (by decide) d_law_801 d_law_802 d_law_803 d_law_804 d_law_805 ?_
  refine A_arg 2 hL hl hL2 (by decide) d_law_806 d_law_807 d_law_808 d_law_809 d_law_810 ?_
  refine A_arg 3 hL hl hL2 (by decide) d_law_811 d_law_812 d_law_813 d_law_814 d_law_815 ?_
  refine A_callI (d := 160) (Qc := K2 r1) [.ref 59, .int (sv G k 1), .int (sv G k 2), .int (sv G k 3)] [.int r1] (ct_law_89 rfl) d_law_816 rfl rfl (by decide) (Nat.le_of_ble_eq_true rfl) (rcA_o (c := 12) rfl (vA_s (by decide)) rfl (by decide) rfl) 0 0 (Nat.zero_le _) (Nat.zero_le _) (ok_MO_frees (d := 152) H1) (fun r2 h2 H2 => ?_)
  exact A_icmp_eq 1436 d_law_819 (by decide) (fun _ => A_bud (K h2 H2.2) (by omega) (by omega)) (fun z => absurd H2.1 z)
theorem law_hang {G : GG} {k L bc bs : Nat} {h : AH} (hL : G.2.2.2.2.2.1 = L) (hl : 7 * k + 7 ≤ L) (hL2 : L ≤ 3584) (I : Inv h) (K : ∀ h2, Inv h2 → Att G T1 m_law 161 1436 (LA k) [] h2 bc bs QL) : Att G T1 m_law 161 824 (LA k) [] h (bc + 8) (bs + 24) QL := by
  refine A_aload_n d_law_824 rfl ?_
  refine A_arg 1 hL hl hL2 (by decide) d_law_825 d_law_826 d_law_827 d_law_828 d_law_829 ?_
  refine A_arg 2 hL hl hL2 (by decide) d_law_830 d_law_831 d_law_832 d_law_833 d_law_834 ?_
  refine A_arg 3 hL hl hL2 (by decide) d_law_835 d_law_836 d_law_837 d_law_838 d_law_839 ?_
  refine A_callI (d := 160) (Qc := fun r1 h1 => p_MO_hang (K2 r1) (sv G k 1) (sv G k 2) (sv G k 3) h1) [.ref 0, .int (sv G k 1), .int (sv G k 2), .int (sv G k 3)] [] (ct_law_90 rfl) d_law_840 rfl rfl (by decide) (Nat.le_of_ble_eq_true rfl) (rcA_o (c := 11) rfl (vA_s (by decide)) rfl (by decide) rfl) 0 0 (by omega) (by omega) (ok_UF_hang (d := 153) (both_hang I)) (fun r1 h1 H1 => ?_)
  refine A_aload_n d_law_843 rfl ?_
  refine A_arg 1 hL hl hL2 (by decide) d_law_844 d_law_845 d_law_846 d_law_847 d_law_848 ?_
  refine A_arg 2 hL hl hL2 (by decide) d_law_849 d_law_850 d_law_851 d_law_852 d_law_853 ?_
  refine A_arg 3 hL hl hL2 (by decide) d_law_854 d_law_855 d_law_856 d_law_857 d_law_858 ?_
  refine A_callI (d := 160) (Qc := K2 r1) [.ref 59, .int (sv G k 1), .int (sv G k 2), .int (sv G k 3)] [.int r1] (ct_law_93 rfl) d_law_859 rfl rfl (by decide) (Nat.le_of_ble_eq_true rfl) (rcA_o (c := 12) rfl (vA_s (by decide)) rfl (by decide) rfl) 0 0 (Nat.zero_le _) (Nat.zero_le _) (ok_MO_hang (d := 151) H1) (fun r2 h2 H2 => ?_)
  exact A_icmp_eq 1436 d_law_862 (by decide) (fun _ => A_bud (K h2 H2.2) (by omega) (by omega)) (fun z => absurd H2.1 z)
theorem law_night {G : GG} {k L bc bs : Nat} {h : AH} (hL : G.2.2.2.2.2.1 = L) (hl : 7 * k + 7 ≤ L) (hL2 : L ≤ 3584) (I : Inv h) (K : ∀ h2, Inv h2 → Att G T1 m_law 161 1436 (LA k) [] h2 bc bs QL) : Att G T1 m_law 161 867 (LA k) [] h (bc + 8) (bs + 24) QL := by
  refine A_aload_n d_law_867 rfl ?_
  refine A_arg 1 hL hl hL2 (by decide) d_law_868 d_law_869 d_law_870 d_law_871 d_law_872 ?_
  refine A_callI (d := 160) (Qc := fun r1 h1 => p_MO_night (K2 r1) (sv G k 1) h1) [.ref 0, .int (sv G k 1)] [] (ct_law_94 rfl) d_law_873 rfl rfl (by decide) (Nat.le_of_ble_eq_true rfl) (rcA_o (c := 11) rfl (vA_s (by decide)) rfl (by decide) rfl) 0 0 (by omega) (by omega) (ok_UF_night (d := 153) (both_night I)) (fun r1 h1 H1 => ?_)
  refine A_aload_n d_law_876 rfl ?_
  refine A_arg 1 hL hl hL2 (by decide) d_law_877 d_law_878 d_law_879 d_law_880 d_law_881 ?_
  refine A_callI (d := 160) (Qc := K2 r1) [.ref 59, .int (sv G k 1)] [.int r1] (ct_law_97 rfl) d_law_882 rfl rfl (by decide) (Nat.le_of_ble_eq_true rfl) (rcA_o (c := 12) rfl (vA_s (by decide)) rfl (by decide) rfl) 0 0 (Nat.zero_le _) (Nat.zero_le _) (ok_MO_night (d := 152) H1) (fun r2 h2 H2 => ?_)
  exact A_icmp_eq 1436 d_law_885 (by decide) (fun _ => A_bud (K h2 H2.2) (by omega) (by omega)) (fun z => absurd H2.1 z)
theorem law_dawn {G : GG} {k L bc bs : Nat} {h : AH} (hL : G.2.2.2.2.2.1 = L) (hl : 7 * k + 7 ≤ L) (hL2 : L ≤ 3584) (I : Inv h) (K : ∀ h2, Inv h2 → Att G T1 m_law 161 1436 (LA k) [] h2 bc bs QL) : Att G T1 m_law 161 890 (LA k) [] h (bc + 8) (bs + 24) QL := by
  refine A_aload_n d_law_890 rfl ?_
  refine A_arg 1 hL hl hL2 (by decide) d_law_891 d_law_892 d_law_893 d_law_894 d_law_895 ?_
  refine A_callI (d := 160) (Qc := fun r1 h1 => p_MO_dawn (K2 r1) (sv G k 1) h1) [.ref 0, .int (sv G k 1)] [] (ct_law_98 rfl) d_law_896 rfl rfl (by decide) (Nat.le_of_ble_eq_true rfl) (rcA_o (c := 11) rfl (vA_s (by decide)) rfl (by decide) rfl) 0 0 (by omega) (by omega) (ok_UF_dawn (d := 159) (both_dawn I)) (fun r1 h1 H1 => ?_)
  refine A_aload_n d_law_899 rfl ?_
  refine A_arg 1 hL hl hL2 (by decide) d_law_900 d_law_901 d_law_902 d_law_903 d_law_904 ?_
  refine A_callI (d := 160) (Qc := K2 r1) [.ref 59, .int (sv G k 1)] [.int r1] (ct_law_101 rfl) d_law_905 rfl rfl (by decide) (Nat.le_of_ble_eq_true rfl) (rcA_o (c := 12) rfl (vA_s (by decide)) rfl (by decide) rfl) 0 0 (Nat.zero_le _) (Nat.zero_le _) (ok_MO_dawn (d := 159) H1) (fun r2 h2 H2 => ?_)
  exact A_icmp_eq 1436 d_law_908 (by decide) (fun _ => A_bud (K h2 H2.2) (by omega) (by omega)) (fun z => absurd H2.1 z)
theorem law_judge {G : GG} {k L bc bs : Nat} {h : AH} (hL : G.2.2.2.2.2.1 = L) (hl : 7 * k + 7 ≤ L) (hL2 : L ≤ 3584) (I : Inv h) (K : ∀ h2, Inv h2 → Att G T1 m_law 161 1436 (LA k) [] h2 bc bs QL) : Att G T1 m_law 161 913 (LA k) [] h (bc + 8) (bs + 24) QL := by
  refine A_aload_n d_law_913 rfl ?_
  refine A_arg 1 hL hl hL2 (by decide) d_law_914 d_law_915 d_law_916 d_law_917 d_law_918 ?_
  refine A_arg 2 hL hl hL2 (by decide) d_law_919 d_law_920 d_law_921 d_law_922 d_law_923 ?_
  refine A_callI (d := 160) (Qc := fun r1 h1 => p_MO_judge (K2 r1) (sv G k 1) (sv G k 2) h1) [.ref 0, .int (sv G k 1), .int (sv G k 2)] [] (ct_law_102 rfl) d_law_924 rfl rfl (by decide) (Nat.le_of_ble_eq_true rfl) (rcA_o (c := 11) rfl (vA_s (by decide)) rfl (by decide) rfl) 0 0 (by omega) (by omega) (ok_UF_judge (d := 153) (both_judge I)) (fun r1 h1 H1 => ?_)
  refine A_aload_n d_law_927 rfl ?_
  refine A_arg 1 hL hl hL2 (by decide) d_law_928 d_law_929 d_law_930 d_law_931 d_law_932 ?_
  refine A_arg 2 hL hl hL2 (by decide) d_law_933 d_law_934 d_law_935 d_law_936 d_law_937 ?_
  refine A_callI (d := 160) (Qc := K2 r1) [.ref 59, .int (sv G k 1), .int (sv G k 2)] [.int r1] (ct_law_105 rfl) d_law_938 rfl rfl (by decide) (Nat.le_of_ble_eq_true rfl) (rcA_o (c := 12) rfl (vA_s (by decide)) rfl (by decide) rfl) 0 0 (Nat.zero_le _) (Nat.zero_le _) (ok_MO_judge (d := 151) H1) (fun r2 h2 H2 => ?_)
  exact A_icmp_eq 1436 d_law_941 (by decide) (fun _ => A_bud (K h2 H2.2) (by omega) (by omega)) (fun z => absurd H2.1 z)
theorem law_times {G : GG} {k L bc bs : Nat} {h : AH} (hL : G.2.2.2.2.2.1 = L) (hl : 7 * k + 7 ≤ L) (hL2 : L ≤ 3584) (I : Inv h) (K : ∀ h2, Inv h2 → Att G T1 m_law 161 1436 (LA k) [] h2 bc bs QL) : Att G T1 m_law 161 946 (LA k) [] h (bc + 8) (bs + 24) QL := by
  refine A_aload_n d_law_946 rfl ?_
  refine A_arg 1 hL hl hL2 (by decide) d_law_947 d_law_948 d_law_949 d_law_950 d_law_951 ?_
  refine A_callI (d := 160) (Qc := fun r1 h1 => p_MO_times (K2 r1) (sv G k 1) h1) [.ref 0, .int (sv G k 1)] [] (ct_law_106 rfl) d_law_952 rfl rfl (by decide) (Nat.le_of_ble_eq_true rfl) (rcA_o (c := 11) rfl (vA_s (by decide)) rfl (by decide) rfl) 0 0 (by omega) (by omega) (ok_UF_times (d := 154) (both_times I)) (fun r1 h1 H1 => ?_)
  refine A_aload_n d_law_955 rfl ?_
  refine A_arg 1 hL hl hL2 (by decide) d_law_956 d_law_957 d_law_958 d_law_959 d_law_960 ?_
  refine A_callI (d := 160) (Qc := K2 r1) [.ref 59, .int (sv G k 1)] [.int r1] (ct_law_109 rfl) d_law_961 rfl rfl (by decide) (Nat.le_of_ble_eq_true rfl) (rcA_o (c := 12) rfl (vA_s (by decide)) rfl (by decide) rfl) 0 0 (Nat.zero_le _) (Nat.zero_le _) (ok_MO_times (d := 151) H1) (fun r2 h2 H2 => ?_)
  exact A_icmp_eq 1436 d_law_964 (by decide) (fun _ => A_bud (K h2 H2.2) (by omega) (by omega)) (fun z => absurd H2.1 z)
theorem law_laws {G : GG} {k L bc bs : Nat} {h : AH} (hL : G.2.2.2.2.2.1 = L) (hl : 7 * k + 7 ≤ L) (hL2 : L ≤ 3584) (I : Inv h) (K : ∀ h2, Inv h2 → Att G T1 m_law 161 1436 (LA k) [] h2 bc bs QL) : Att G T1 m_law 161 969 (LA k) [] h (bc + 8) (bs + 24) QL := by
  refine A_aload_n d_law_969 rfl ?_
  refine A_arg 1 hL hl hL2 (by decide) d_law_970 d_law_971 d_law_972 d_law_973 d_law_974 ?_
  refine A_arg 2 hL hl hL2 (by decide) d_law_975 d_law_976 d_law_977 d_law_978 d_law_979 ?_
  refine A_callI (d := 160) (Qc := fun r1 h1 => p_MO_laws (K2 r1) (sv G k 1) (sv G k 2) h1) [.ref 0, .int (sv G k 1), .int (sv G k 2)] [] (ct_law_110 rfl) d_law_980 rfl rfl (by decide) (Nat.le_of_ble_eq_true rfl) (rcA_o (c := 11) rfl (vA_s (by decide)) rfl (by decide) rfl) 0 0 (by omega) (by omega) (ok_UF_laws (d := 153) (both_laws I)) (fun r1 h1 H1 => ?_)
  refine A_aload_n d_law_983 rfl ?_
  refine A_arg 1 hL hl hL2 (by decide) d_law_984 d_law_985 d_law_986 d_law_987 d_law_988 ?_
  refine A_arg 2 hL hl hL2 (by decide) d_law_989 d_law_990 d_law_991 d_law_992 d_law_993 ?_
  refine A_callI (d := 160) (Qc := K2 r1) [.ref 59, .int (sv G k 1), .int (sv G k 2)] [.int r1] (ct_law_113 rfl) d_law_994 rfl rfl (by decide) (Nat.le_of_ble_eq_true rfl) (rcA_o (c := 12) rfl (vA_s (by decide)) rfl (by decide) rfl) 0 0 (Nat.zero_le _) (Nat.zero_le _) (ok_MO_laws (d := 151) H1) (fun r2 h2 H2 => ?_)
  exact A_icmp_eq 1436 d_law_997 (by decide) (fun _ => A_bud (K h2 H2.2) (by omega) (by omega)) (fun z => absurd H2.1 z)
theorem law_thief {G : GG} {k L bc bs : Nat} {h : AH} (hL : G.2.2.2.2.2.1 = L) (hl : 7 * k + 7 ≤ L) (hL2 : L ≤ 3584) (I : Inv h) (K : ∀ h2, Inv h2 → Att G T1 m_law 161 1436 (LA k) [] h2 bc bs QL) : Att G T1 m_law 161 1002 (LA k) [] h (bc + 8) (bs + 24) QL := by
  refine A_aload_n d_law_1002 rfl ?_
  refine A_arg 1 hL hl hL2 (by decide) d_law_1003 d_law_1004 d_law_1005 d_law_1006 d_law_1007 ?_
  refine A_arg 2 hL hl hL2 (by decide) d_law_1008 d_law_1009 d_law_1010 d_law_1011 d_law_1012 ?_
  refine A_arg 3 hL hl hL2 (by decide) d_law_1013 d_law_1014 d_law_1015 d_law_1016 d_law_1017 ?_
  refine A_callI (d := 160) (Qc := fun r1 h1 => p_MO_thief (K2 r1) (sv G k 1) (sv G k 2) (sv G k 3) h1) [.ref 0, .int (sv G k 1), .int (sv G k 2), .int (sv G k 3)] [] (ct_law_114 rfl) d_law_1018 rfl rfl (by decide) (Nat.le_of_ble_eq_true rfl) (rcA_o (c := 11) rfl (vA_s (by decide)) rfl (by decide) rfl) 0 0 (by omega) (by omega) (ok_UF_thief (d := 153) (both_thief I)) (fun r1 h1 H1 => ?_)
  refine A_aload_n d_law_1021 rfl ?_
  refine A_arg 1 hL hl hL2 (by decide) d_law_1022 d_law_1023 d_law_1024 d_law_1025 d_law_1026 ?_
  refine A_arg 2 hL hl hL2 (by decide) d_law_1027 d_law_1028 d_law_1029 d_law_1030 d_law_1031 ?_
  refine A_arg 3 hL hl hL2 (by decide) d_law_1032 d_law_1033 d_law_1034 d_law_1035 d_law_1036 ?_
  refine A_callI (d := 160) (Qc := K2 r1) [.ref 59, .int (sv G k 1), .int (sv G k 2), .int (sv G k 3)] [.int r1] (ct_law_117 rfl) d_law_1037 rfl rfl (by decide) (Nat.le_of_ble_eq_true rfl) (rcA_o (c := 12) rfl (vA_s (by decide)) rfl (by decide) rfl) 0 0 (Nat.zero_le _) (Nat.zero_le _) (ok_MO_thief (d := 151) H1) (fun r2 h2 H2 => ?_)
  exact A_icmp_eq 1436 d_law_1040 (by decide) (fun _ => A_bud (K h2 H2.2) (by omega) (by omega)) (fun z => absurd H2.1 z)
theorem law_film {G : GG} {k L bc bs : Nat} {h : AH} (hL : G.2.2.2.2.2.1 = L) (hl : 7 * k + 7 ≤ L) (hL2 : L ≤ 3584) (I : Inv h) (K : ∀ h2, Inv h2 → Att G T1 m_law 161 1436 (LA k) [] h2 bc bs QL) : Att G T1 m_law 161 1045 (LA k) [] h (bc + 8) (bs + 24) QL := by
  refine A_aload_n d_law_1045 rfl ?_
  refine A_arg 1 hL hl hL2 (by decide) d_law_1046 d_law_1047 d_law_1048 d_law_1049 d_law_1050 ?_
  refine A_arg 2 hL hl hL2 (by decide) d_law_1051 d_law_1052 d_law_1053 d_law_1054 d_law_1055 ?_
  refine A_callI (d := 160) (Qc := fun r1 h1 => p_MO_film (K2 r1) (sv G k 1) (sv G k 2) h1) [.ref 0, .int (sv G k 1), .int (sv G k 2)] [] (ct_law_118 rfl) d_law_1056 rfl rfl (by decide) (Nat.le_of_ble_eq_true rfl) (rcA_o (c := 11) rfl (vA_s (by decide)) rfl (by decide) rfl) 0 0 (by omega) (by omega) (ok_UF_film (d := 153) (both_film I)) (fun r1 h1 H1 => ?_)
  refine A_aload_n d_law_1059 rfl ?_
  refine A_arg 1 hL hl hL2 (by decide) d_law_1060 d_law_1061 d_law_1062 d_law_1063 d_law_1064 ?_
  refine A_arg 2 hL hl hL2 (by decide) d_law_1065 d_law_1066 d_law_1067 d_law_1068 d_law_1069 ?_
  refine A_callI (d := 160) (Qc := K2 r1) [.ref 59, .int (sv G k 1), .int (sv G k 2)] [.int r1] (ct_law_121 rfl) d_law_1070 rfl rfl (by decide) (Nat.le_of_ble_eq_true rfl) (rcA_o (c := 12) rfl (vA_s (by decide)) rfl (by decide) rfl) 0 0 (Nat.zero_le _) (Nat.zero_le _) (ok_MO_film (d := 152) H1) (fun r2 h2 H2 => ?_)
  exact A_icmp_eq 1436 d_law_1073 (by decide) (fun _ => A_bud (K h2 H2.2) (by omega) (by omega)) (fun z => absurd H2.1 z)
theorem law_drawn {G : GG} {k L bc bs : Nat} {h : AH} (hL : G.2.2.2.2.2.1 = L) (hl : 7 * k + 7 ≤ L) (hL2 : L ≤ 3584) (I : Inv h) (K : ∀ h2, Inv h2 → Att G T1 m_law 161 1436 (LA k) [] h2 bc bs QL) : Att G T1 m_law 161 1078 (LA k) [] h (bc + 8) (bs + 24) QL := by
  refine A_aload_n d_law_1078 rfl ?_
  refine A_arg 1 hL hl hL2 (by decide) d_law_1079 d_law_1080 d_law_1081 d_law_1082 d_law_1083 ?_
  refine A_arg 2 hL hl hL2 (by decide) d_law_1084 d_law_1085 d_law_1086 d_law_1087 d_law_1088 ?_
  refine A_arg 3 hL hl hL2 (by decide) d_law_1089 d_law_1090 d_law_1091 d_law_1092 d_law_1093 ?_
  refine A_callI (d := 160) (Qc := fun r1 h1 => p_MO_drawn (K2 r1) (sv G k 1) (sv G k 2) (sv G k 3) h1) [.ref 0, .int (sv G k 1), .int (sv G k 2), .int (sv G k 3)] [] (ct_law_122 rfl) d_law_1094 rfl rfl (by decide) (Nat.le_of_ble_eq_true rfl) (rcA_o (c := 11) rfl (vA_s (by decide)) rfl (by decide) rfl) 0 0 (by omega) (by omega) (ok_UF_drawn (d := 153) (both_drawn I)) (fun r1 h1 H1 => ?_)
  refine A_aload_n d_law_1097 rfl ?_
  refine A_arg 1 hL hl hL2 (by decide) d_law_1098 d_law_1099 d_law_1100 d_law_1101 d_law_1102 ?_
  refine A_arg 2 hL hl hL2 (by decide) d_law_1103 d_law_1104 d_law_1105 d_law_1106 d_law_1107 ?_
  refine A_arg 3 hL hl hL2 (by decide) d_law_1108 d_law_1109 d_law_1110 d_law_1111 d_law_1112 ?_
  refine A_callI (d := 160) (Qc := K2 r1) [.ref 59, .int (sv G k 1), .int (sv G k 2), .int (sv G k 3)] [.int r1] (ct_law_125 rfl) d_law_1113 rfl rfl (by decide) (Nat.le_of_ble_eq_true rfl) (rcA_o (c := 12) rfl (vA_s (by decide)) rfl (by decide) rfl) 0 0 (Nat.zero_le _) (Nat.zero_le _) (ok_MO_drawn (d := 152) H1) (fun r2 h2 H2 => ?_)
  exact A_icmp_eq 1436 d_law_1116 (by decide) (fun _ => A_bud (K h2 H2.2) (by omega) (by omega)) (fun z => absurd H2.1 z)
theorem lcmp_rf {r : Int64} : lg_cmp r r = 0 := by simp [lg_cmp]
theorem law_odds {G : GG} {k L bc bs : Nat} {h : AH} (hL : G.2.2.2.2.2.1 = L) (hl : 7 * k + 7 ≤ L) (hL2 : L ≤ 3584) (I : Inv h) (K : ∀ h2, Inv h2 → Att G T1 m_law 161 1436 (LA k) [] h2 bc bs QL) : Att G T1 m_law 161 1121 (LA k) [] h (bc + 8) (bs + 24) QL := by
  refine A_aload_n d_law_1121 rfl ?_
  refine A_arg 1 hL hl hL2 (by decide) d_law_1122 d_law_1123 d_law_1124 d_law_1125 d_law_1126 ?_
  refine A_arg 2 hL hl hL2 (by decide) d_law_1127 d_law_1128 d_law_1129 d_law_1130 d_law_1131 ?_
  refine A_arg 3 hL hl hL2 (by decide) d_law_1132 d_law_1133 d_law_1134 d_law_1135 d_law_1136 ?_
  refine A_arg 4 hL hl hL2 (by decide) d_law_1137 d_law_1138 d_law_1139 d_law_1140 d_law_1141 ?_
  refine A_callL (d := 160) (Qc := fun r1 h1 => p_MO_odds (K2L r1) (sv G k 1) (sv G k 2) (sv G k 3) (sv G k 4) h1) [.ref 0, .int (sv G k 1), .int (sv G k 2), .int (sv G k 3), .int (sv G k 4)] [] (ct_law_126 rfl) d_law_1142 rfl rfl (by decide) (Nat.le_of_ble_eq_true rfl) (rcA_o (c := 11) rfl (vA_s (by decide)) rfl (by decide) rfl) 0 0 (by omega) (by omega) (ok_UF_odds (d := 153) (both_odds I)) (fun r1 h1 H1 => ?_)
  refine A_aload_n d_law_1145 rfl ?_
  refine A_arg 1 hL hl hL2 (by decide) d_law_1146 d_law_1147 d_law_1148 d_law_1149 d_law_1150 ?_
  refine A_arg 2 hL hl hL2 (by decide) d_law_1151 d_law_1152 d_law_1153 d_law_1154 d_law_1155 ?_
  refine A_arg 3 hL hl hL2 (by decide) d_law_1156 d_law_1157 d_law_1158 d_law_1159 d_law_1160 ?_
  refine A_arg 4 hL hl hL2 (by decide) d_law_1161 d_law_1162 d_law_1163 d_law_1164 d_law_1165 ?_
  refine A_callL (d := 160) (Qc := K2L r1) [.ref 59, .int (sv G k 1), .int (sv G k 2), .int (sv G k 3), .int (sv G k 4)] [.long r1] (ct_law_130 rfl) d_law_1166 rfl rfl (by decide) (Nat.le_of_ble_eq_true rfl) (rcA_o (c := 12) rfl (vA_s (by decide)) rfl (by decide) rfl) 0 0 (Nat.zero_le _) (Nat.zero_le _) (ok_MO_odds (d := 152) H1) (fun r2 h2 H2 => ?_)
  refine A_lcmp d_law_1169 ?_
  refine A_if_eq 1436 d_law_1170 (by decide) (fun _ => A_bud (K h2 H2.2) (by omega) (by omega)) (fun z => absurd ?_ z)
  rw [H2.1]; exact lcmp_rf
theorem law_image {G : GG} {k L bc bs : Nat} {h : AH} (hL : G.2.2.2.2.2.1 = L) (hl : 7 * k + 7 ≤ L) (hL2 : L ≤ 3584) (I : Inv h) (K : ∀ h2, Inv h2 → Att G T1 m_law 161 1436 (LA k) [] h2 bc bs QL) : Att G T1 m_law 161 1175 (LA k) [] h (bc + 8) (bs + 24) QL := by
  refine A_aload_n d_law_1175 rfl ?_
  refine A_callI (d := 160) (Qc := fun r1 h1 => p_MO_image (K2 r1) h1) [.ref 0] [] (ct_law_131 rfl) d_law_1176 rfl rfl (by decide) (Nat.le_of_ble_eq_true rfl) (rcA_o (c := 11) rfl (vA_s (by decide)) rfl (by decide) rfl) 0 0 (by omega) (by omega) (ok_UF_image (d := 158) (both_image I)) (fun r1 h1 H1 => ?_)
  refine A_aload_n d_law_1179 rfl ?_
  refine A_callI (d := 160) (Qc := K2 r1) [.ref 59] [.int r1] (ct_law_134 rfl) d_law_1180 rfl rfl (by decide) (Nat.le_of_ble_eq_true rfl) (rcA_o (c := 12) rfl (vA_s (by decide)) rfl (by decide) rfl) 0 0 (Nat.zero_le _) (Nat.zero_le _) (ok_MO_image (d := 160) H1) (fun r2 h2 H2 => ?_)
  exact A_icmp_eq 1436 d_law_1183 (by decide) (fun _ => A_bud (K h2 H2.2) (by omega) (by omega)) (fun z => absurd H2.1 z)
theorem law_back {G : GG} {k L bc bs : Nat} {h : AH} (hL : G.2.2.2.2.2.1 = L) (hl : 7 * k + 7 ≤ L) (hL2 : L ≤ 3584) (I : Inv h) (K : ∀ h2, Inv h2 → Att G T1 m_law 161 1436 (LA k) [] h2 bc bs QL) : Att G T1 m_law 161 1188 (LA k) [] h (bc + 8) (bs + 24) QL := by
  refine A_aload_n d_law_1188 rfl ?_
  refine A_callI (d := 160) (Qc := fun r1 h1 => p_MO_back (K2 r1) h1) [.ref 0] [] (ct_law_135 rfl) d_law_1189 rfl rfl (by decide) (Nat.le_of_ble_eq_true rfl) (rcA_o (c := 11) rfl (vA_s (by decide)) rfl (by decide) rfl) 0 0 (by omega) (by omega) (ok_UF_back (d := 158) (both_back I)) (fun r1 h1 H1 => ?_)
  refine A_aload_n d_law_1192 rfl ?_
  refine A_callI (d := 160) (Qc := K2 r1) [.ref 59] [.int r1] (ct_law_138 rfl) d_law_1193 rfl rfl (by decide) (Nat.le_of_ble_eq_true rfl) (rcA_o (c := 12) rfl (vA_s (by decide)) rfl (by decide) rfl) 0 0 (Nat.zero_le _) (Nat.zero_le _) (ok_MO_back (d := 160) H1) (fun r2 h2 H2 => ?_)
  exact A_icmp_eq 1436 d_law_1196 (by decide) (fun _ => A_bud (K h2 H2.2) (by omega) (by omega)) (fun z => absurd H2.1 z)
theorem law_sheet {G : GG} {k L bc bs : Nat} {h : AH} (hL : G.2.2.2.2.2.1 = L) (hl : 7 * k + 7 ≤ L) (hL2 : L ≤ 3584) (I : Inv h) (K : ∀ h2, Inv h2 → Att G T1 m_law 161 1436 (LA k) [] h2 bc bs QL) : Att G T1 m_law 161 1201 (LA k) [] h (bc + 8) (bs + 24) QL := by
  refine A_aload_n d_law_1201 rfl ?_
  refine A_arg 1 hL hl hL2 (by decide) d_law_1202 d_law_1203 d_law_1204 d_law_1205 d_law_1206 ?_
  refine A_arg 2 hL hl hL2 (by decide) d_law_1207 d_law_1208 d_law_1209 d_law_1210 d_law_1211 ?_
  refine A_arg 3 hL hl hL2 (by decide) d_law_1212 d_law_1213 d_law_1214 d_law_1215 d_law_1216 ?_
  refine A_callI (d := 160) (Qc := fun r1 h1 => p_MO_sheet (K2 r1) (sv G k 1) (sv G k 2) (sv G k 3) h1) [.ref 0, .int (sv G k 1), .int (sv G k 2), .int (sv G k 3)] [] (ct_law_139 rfl) d_law_1217 rfl rfl (by decide) (Nat.le_of_ble_eq_true rfl) (rcA_o (c := 11) rfl (vA_s (by decide)) rfl (by decide) rfl) 0 0 (by omega) (by omega) (ok_UF_sheet (d := 158) (both_sheet I)) (fun r1 h1 H1 => ?_)
  refine A_aload_n d_law_1220 rfl ?_
  refine A_arg 1 hL hl hL2 (by decide) d_law_1221 d_law_1222 d_law_1223 d_law_1224 d_law_1225 ?_
  refine A_arg 2 hL hl hL2 (by decide) d_law_1226 d_law_1227 d_law_1228 d_law_1229 d_law_1230 ?_
  refine A_arg 3 hL hl hL2 (by decide) d_law_1231 d_law_1232 d_law_1233 d_law_1234 d_law_1235 ?_
  refine A_callI (d := 160) (Qc := K2 r1) [.ref 59, .int (sv G k 1), .int (sv G k 2), .int (sv G k 3)] [.int r1] (ct_law_142 rfl) d_law_1236 rfl rfl (by decide) (Nat.le_of_ble_eq_true rfl) (rcA_o (c := 12) rfl (vA_s (by decide)) rfl (by decide) rfl) 0 0 (Nat.zero_le _) (Nat.zero_le _) (ok_MO_sheet (d := 159) H1) (fun r2 h2 H2 => ?_)
  exact A_icmp_eq 1436 d_law_1239 (by decide) (fun _ => A_bud (K h2 H2.2) (by omega) (by omega)) (fun z => absurd H2.1 z)
theorem law_cell {G : GG} {k L bc bs : Nat} {h : AH} (hL : G.2.2.2.2.2.1 = L) (hl : 7 * k + 7 ≤ L) (hL2 : L ≤ 3584) (I : Inv h) (K : ∀ h2, Inv h2 → Att G T1 m_law 161 1436 (LA k) [] h2 bc bs QL) : Att G T1 m_law 161 1244 (LA k) [] h (bc + 8) (bs + 24) QL := by
  refine A_aload_n d_law_1244 rfl ?_
  refine A_arg 1 hL hl hL2 (by decide) d_law_1245 d_law_1246 d_law_1247 d_law_1248 d_law_1249 ?_
  refine A_arg 2 hL hl hL2 (by decide) d_law_1250 d_law_1251 d_law_1252 d_law_1253 d_law_1254 ?_
  refine A_arg 3 hL hl hL2 (by decide) d_law_1255 d_law_1256 d_law_1257 d_law_1258 d_law_1259 ?_
  refine A_callI (d := 160) (Qc := fun r1 h1 => p_MO_cell (K2 r1) (sv G k 1) (sv G k 2) (sv G k 3) h1) [.ref 0, .int (sv G k 1), .int (sv G k 2), .int (sv G k 3)] [] (ct_law_143 rfl) d_law_1260 rfl rfl (by decide) (Nat.le_of_ble_eq_true rfl) (rcA_o (c := 11) rfl (vA_s (by decide)) rfl (by decide) rfl) 0 0 (by omega) (by omega) (ok_UF_cell (d := 158) (both_cell I)) (fun r1 h1 H1 => ?_)
  refine A_aload_n d_law_1263 rfl ?_
  refine A_arg 1 hL hl hL2 (by decide) d_law_1264 d_law_1265 d_law_1266 d_law_1267 d_law_1268 ?_
  refine A_arg 2 hL hl hL2 (by decide) d_law_1269 d_law_1270 d_law_1271 d_law_1272 d_law_1273 ?_
  refine A_arg 3 hL hl hL2 (by decide) d_law_1274 d_law_1275 d_law_1276 d_law_1277 d_law_1278 ?_
  refine A_callI (d := 160) (Qc := K2 r1) [.ref 59, .int (sv G k 1), .int (sv G k 2), .int (sv G k 3)] [.int r1] (ct_law_146 rfl) d_law_1279 rfl rfl (by decide) (Nat.le_of_ble_eq_true rfl) (rcA_o (c := 12) rfl (vA_s (by decide)) rfl (by decide) rfl) 0 0 (Nat.zero_le _) (Nat.zero_le _) (ok_MO_cell (d := 159) H1) (fun r2 h2 H2 => ?_)
  exact A_icmp_eq 1436 d_law_1282 (by decide) (fun _ => A_bud (K h2 H2.2) (by omega) (by omega)) (fun z => absurd H2.1 z)
theorem law_copy {G : GG} {k L bc bs : Nat} {h : AH} (hL : G.2.2.2.2.2.1 = L) (hl : 7 * k + 7 ≤ L) (hL2 : L ≤ 3584) (I : Inv h) (K : ∀ h2, Inv h2 → Att G T1 m_law 161 1436 (LA k) [] h2 bc bs QL) : Att G T1 m_law 161 1287 (LA k) [] h (bc + 8) (bs + 24) QL := by
  refine A_aload_n d_law_1287 rfl ?_
  refine A_arg 1 hL hl hL2 (by decide) d_law_1288 d_law_1289 d_law_1290 d_law_1291 d_law_1292 ?_
  refine A_arg 2 hL hl hL2 (by decide) d_law_1293 d_law_1294 d_law_1295 d_law_1296 d_law_1297 ?_
  refine A_arg 3 hL hl hL2 (by decide) d_law_1298 d_law_1299 d_law_1300 d_law_1301 d_law_1302 ?_
  refine A_arg 4 hL hl hL2 (by decide) d_law_1303 d_law_1304 d_law_1305 d_law_1306 d_law_1307 ?_
  refine A_arg 5 hL hl hL2 (by decide) d_law_1308 d_law_1309 d_law_1310 d_law_1311 d_law_1312 ?_
  refine A_callI (d := 160) (Qc := fun r1 h1 => p_MO_copy (K2 r1) (sv G k 1) (sv G k 2) (sv G k 3) (sv G k 4) (sv G k 5) h1) [.ref 0, .int (sv G k 1), .int (sv G k 2), .int (sv G k 3), .int (sv G k 4), .int (sv G k 5)] [] (ct_law_147 rfl) d_law_1313 rfl rfl (by decide) (Nat.le_of_ble_eq_true rfl) (rcA_o (c := 11) rfl (vA_s (by decide)) rfl (by decide) rfl) 0 0 (by omega) (by omega) (ok_UF_copy (d := 158) (both_copy I)) (fun r1 h1 H1 => ?_)
  refine A_aload_n d_law_1316 rfl ?_
  refine A_arg 1 hL hl hL2 (by decide) d_law_1317 d_law_1318 d_law_1319 d_law_1320 d_law_1321 ?_
  refine A_arg 2 hL hl hL2 (by decide) d_law_1322 d_law_1323 d_law_1324 d_law_1325 d_law_1326 ?_
  refine A_arg 3 hL hl hL2 (by decide) d_law_1327 d_law_1328 d_law_1329 d_law_1330 d_law_1331 ?_
  refine A_arg 4 hL hl hL2 (by decide) d_law_1332 d_law_1333 d_law_1334 d_law_1335 d_law_1336 ?_
  refine A_arg 5 hL hl hL2 (by decide) d_law_1337 d_law_1338 d_law_1339 d_law_1340 d_law_1341 ?_
  refine A_callI (d := 160) (Qc := K2 r1) [.ref 59, .int (sv G k 1), .int (sv G k 2), .int (sv G k 3), .int (sv G k 4), .int (sv G k 5)] [.int r1] (ct_law_151 rfl) d_law_1342 rfl rfl (by decide) (Nat.le_of_ble_eq_true rfl) (rcA_o (c := 12) rfl (vA_s (by decide)) rfl (by decide) rfl) 0 0 (Nat.zero_le _) (Nat.zero_le _) (ok_MO_copy (d := 159) H1) (fun r2 h2 H2 => ?_)
  exact A_icmp_eq 1436 d_law_1345 (by decide) (fun _ => A_bud (K h2 H2.2) (by omega) (by omega)) (fun z => absurd H2.1 z)
theorem law_housesBy {G : GG} {k L bc bs : Nat} {h : AH} (hL : G.2.2.2.2.2.1 = L) (hl : 7 * k + 7 ≤ L) (hL2 : L ≤ 3584) (I : Inv h) (K : ∀ h2, Inv h2 → Att G T1 m_law 161 1436 (LA k) [] h2 bc bs QL) : Att G T1 m_law 161 1350 (LA k) [] h (bc + 8) (bs + 24) QL := by
  refine A_aload_n d_law_1350 rfl ?_
  refine A_arg 1 hL hl hL2 (by decide) d_law_1351 d_law_1352 d_law_1353 d_law_1354 d_law_1355 ?_
  refine A_arg 2 hL hl hL2 (by decide) d_law_1356 d_law_1357 d_law_1358 d_law_1359 d_law_1360 ?_
  refine A_arg 3 hL hl hL2 (by decide) d_law_1361 d_law_1362 d_law_1363 d_law_1364 d_law_1365 ?_
  refine A_arg 4 hL hl hL2 (by decide) d_law_1366 d_law_1367 d_law_1368 d_law_1369 d_law_1370 ?_
  refine A_callI (d := 160) (Qc := fun r1 h1 => p_MO_housesBy (K2 r1) (sv G k 1) (sv G k 2) (sv G k 3) (sv G k 4) h1) [.ref 0, .int (sv G k 1), .int (sv G k 2), .int (sv G k 3), .int (sv G k 4)] [] (ct_law_152 rfl) d_law_1371 rfl rfl (by decide) (Nat.le_of_ble_eq_true rfl) (rcA_o (c := 11) rfl (vA_s (by decide)) rfl (by decide) rfl) 8 24 (by omega) (by omega) (ok_UF_housesBy (d := 154) (both_housesBy I)) (fun r1 h1 H1 => ?_)
  refine A_aload_n d_law_1374 rfl ?_
  refine A_arg 1 hL hl hL2 (by decide) d_law_1375 d_law_1376 d_law_1377 d_law_1378 d_law_1379 ?_
  refine A_arg 2 hL hl hL2 (by decide) d_law_1380 d_law_1381 d_law_1382 d_law_1383 d_law_1384 ?_
  refine A_arg 3 hL hl hL2 (by decide) d_law_1385 d_law_1386 d_law_1387 d_law_1388 d_law_1389 ?_
  refine A_arg 4 hL hl hL2 (by decide) d_law_1390 d_law_1391 d_law_1392 d_law_1393 d_law_1394 ?_
  refine A_callI (d := 160) (Qc := K2 r1) [.ref 59, .int (sv G k 1), .int (sv G k 2), .int (sv G k 3), .int (sv G k 4)] [.int r1] (ct_law_156 rfl) d_law_1395 rfl rfl (by decide) (Nat.le_of_ble_eq_true rfl) (rcA_o (c := 12) rfl (vA_s (by decide)) rfl (by decide) rfl) 0 0 (Nat.zero_le _) (Nat.zero_le _) (ok_MO_housesBy (d := 158) H1) (fun r2 h2 H2 => ?_)
  exact A_icmp_eq 1436 d_law_1398 (by decide) (fun _ => A_bud (K h2 H2.2) (by omega) (by omega)) (fun z => absurd H2.1 z)
theorem law_taken {G : GG} {k L bc bs : Nat} {h : AH} (hL : G.2.2.2.2.2.1 = L) (hl : 7 * k + 7 ≤ L) (hL2 : L ≤ 3584) (I : Inv h) (K : ∀ h2, Inv h2 → Att G T1 m_law 161 1436 (LA k) [] h2 bc bs QL) : Att G T1 m_law 161 1403 (LA k) [] h (bc + 8) (bs + 24) QL := by
  refine A_aload_n d_law_1403 rfl ?_
  refine A_arg 1 hL hl hL2 (by decide) d_law_1404 d_law_1405 d_law_1406 d_law_1407 d_law_1408 ?_
  refine A_arg 2 hL hl hL2 (by decide) d_law_1409 d_law_1410 d_law_1411 d_law_1412 d_law_1413 ?_
  refine A_callI (d := 160) (Qc := fun r1 h1 => p_MO_taken (K2 r1) (sv G k 1) (sv G k 2) h1) [.ref 0, .int (sv G k 1), .int (sv G k 2)] [] (ct_law_157 rfl) d_law_1414 rfl rfl (by decide) (Nat.le_of_ble_eq_true rfl) (rcA_o (c := 11) rfl (vA_s (by decide)) rfl (by decide) rfl) 0 0 (by omega) (by omega) (ok_UF_taken (d := 157) (both_taken I)) (fun r1 h1 H1 => ?_)
  refine A_aload_n d_law_1417 rfl ?_
  refine A_arg 1 hL hl hL2 (by decide) d_law_1418 d_law_1419 d_law_1420 d_law_1421 d_law_1422 ?_
  refine A_arg 2 hL hl hL2 (by decide) d_law_1423 d_law_1424 d_law_1425 d_law_1426 d_law_1427 ?_
  refine A_callI (d := 160) (Qc := K2 r1) [.ref 59, .int (sv G k 1), .int (sv G k 2)] [.int r1] (ct_law_160 rfl) d_law_1428 rfl rfl (by decide) (Nat.le_of_ble_eq_true rfl) (rcA_o (c := 12) rfl (vA_s (by decide)) rfl (by decide) rfl) 0 0 (Nat.zero_le _) (Nat.zero_le _) (ok_MO_taken (d := 159) H1) (fun r2 h2 H2 => ?_)
  exact A_icmp_eq 1436 d_law_1431 (by decide) (fun _ => A_bud (K h2 H2.2) (by omega) (by omega)) (fun z => absurd H2.1 z)
theorem law_switch {G : GG} {k L bc bs : Nat} {h : AH} (v : Int32) (hL : G.2.2.2.2.2.1 = L) (hl : 7 * k + 7 ≤ L) (hL2 : L ≤ 3584) (I : Inv h) (K : ∀ h2, Inv h2 → Att G T1 m_law 161 1436 (LA k) [] h2 bc bs QL) : Att G T1 m_law 161 33 (LA k) [.int v] h (bc + 8) (bs + 24) QL := by
  by_cases c : v.toInt < 0 ∨ 34 < v.toInt
  · exact A_tsO 1436 d_law_33 c (by decide) (A_bud (K h I) (by omega) (by omega))
  by_cases c0 : v.toInt = 0
  · exact A_tsI 188 d_law_33 (by omega) (by omega) (by rw [c0]; rfl) (by decide) (law_count hL hl hL2 I K)
  by_cases c1 : v.toInt = 1
  · exact A_tsI 211 d_law_33 (by omega) (by omega) (by rw [c1]; rfl) (by decide) (law_feed hL hl hL2 I K)
  by_cases c2 : v.toInt = 2
  · exact A_tsI 286 d_law_33 (by omega) (by omega) (by rw [c2]; rfl) (by decide) (law_text hL hl hL2 I K)
  by_cases c3 : v.toInt = 3
  · exact A_tsI 299 d_law_33 (by omega) (by omega) (by rw [c3]; rfl) (by decide) (law_force hL hl hL2 I K)
  by_cases c4 : v.toInt = 4
  · exact A_tsI 322 d_law_33 (by omega) (by omega) (by rw [c4]; rfl) (by decide) (law_asks hL hl hL2 I K)
  by_cases c5 : v.toInt = 5
  · exact A_tsI 365 d_law_33 (by omega) (by omega) (by rw [c5]; rfl) (by decide) (law_house hL hl hL2 I K)
  by_cases c6 : v.toInt = 6
  · exact A_tsI 408 d_law_33 (by omega) (by omega) (by rw [c6]; rfl) (by decide) (law_set hL hl hL2 I K)
  by_cases c7 : v.toInt = 7
  · exact A_tsI 451 d_law_33 (by omega) (by omega) (by rw [c7]; rfl) (by decide) (law_chain hL hl hL2 I K)
  by_cases c8 : v.toInt = 8
  · exact A_tsI 484 d_law_33 (by omega) (by omega) (by rw [c8]; rfl) (by decide) (law_told hL hl hL2 I K)
  by_cases c9 : v.toInt = 9
  · exact A_tsI 517 d_law_33 (by omega) (by omega) (by rw [c9]; rfl) (by decide) (law_of hL hl hL2 I K)
  by_cases c10 : v.toInt = 10
  · exact A_tsI 560 d_law_33 (by omega) (by omega) (by rw [c10]; rfl) (by decide) (law_all hL hl hL2 I K)
  by_cases c11 : v.toInt = 11
  · exact A_tsI 593 d_law_33 (by omega) (by omega) (by rw [c11]; rfl) (by decide) (law_when hL hl hL2 I K)
  by_cases c12 : v.toInt = 12
  · exact A_tsI 616 d_law_33 (by omega) (by omega) (by rw [c12]; rfl) (by decide) (law_first hL hl hL2 I K)
  by_cases c13 : v.toInt = 13
  · exact A_tsI 639 d_law_33 (by omega) (by omega) (by rw [c13]; rfl) (by decide) (law_bring hL hl hL2 I K)
  by_cases c14 : v.toInt = 14
  · exact A_tsI 672 d_law_33 (by omega) (by omega) (by rw [c14]; rfl) (by decide) (law_weight hL hl hL2 I K)
  by_cases c15 : v.toInt = 15
  · exact A_tsI 715 d_law_33 (by omega) (by omega) (by rw [c15]; rfl) (by decide) (law_over hL hl hL2 I K)
  by_cases c16 : v.toInt = 16
  · exact A_tsI 748 d_law_33 (by omega) (by omega) (by rw [c16]; rfl) (by decide) (law_link hL hl hL2 I K)
  by_cases c17 : v.toInt = 17
  · exact A_tsI 781 d_law_33 (by omega) (by omega) (by rw [c17]; rfl) (by decide) (law_frees hL hl hL2 I K)
  by_cases c18 : v.toInt = 18
  · exact A_tsI 824 d_law_33 (by omega) (by omega) (by rw [c18]; rfl) (by decide) (law_hang hL hl hL2 I K)
  by_cases c19 : v.toInt = 19
  · exact A_tsI 867 d_law_33 (by omega) (by omega) (by rw [c19]; rfl) (by decide) (law_night hL hl hL2 I K)
  by_cases c20 : v.toInt = 20
  · exact A_tsI 890 d_law_33 (by omega) (by omega) (by rw [c20]; rfl) (by decide) (law_dawn hL hl hL2 I K)
  by_cases c21 : v.toInt = 21
  · exact A_tsI 913 d_law_33 (by omega) (by omega) (by rw [c21]; rfl) (by decide) (law_judge hL hl hL2 I K)
  by_cases c22 : v.toInt = 22
  · exact A_tsI 946 d_law_33 (by omega) (by omega) (by rw [c22]; rfl) (by decide) (law_times hL hl hL2 I K)
  by_cases c23 : v.toInt = 23
  · exact A_tsI 969 d_law_33 (by omega) (by omega) (by rw [c23]; rfl) (by decide) (law_laws hL hl hL2 I K)
  by_cases c24 : v.toInt = 24
  · exact A_tsI 1002 d_law_33 (by omega) (by omega) (by rw [c24]; rfl) (by decide) (law_thief hL hl hL2 I K)
  by_cases c25 : v.toInt = 25
  · exact A_tsI 1045 d_law_33 (by omega) (by omega) (by rw [c25]; rfl) (by decide) (law_film hL hl hL2 I K)
  by_cases c26 : v.toInt = 26
  · exact A_tsI 1078 d_law_33 (by omega) (by omega) (by rw [c26]; rfl) (by decide) (law_drawn hL hl hL2 I K)
  by_cases c27 : v.toInt = 27
  · exact A_tsI 1121 d_law_33 (by omega) (by omega) (by rw [c27]; rfl) (by decide) (law_odds hL hl hL2 I K)
  by_cases c28 : v.toInt = 28
  · exact A_tsI 1175 d_law_33 (by omega) (by omega) (by rw [c28]; rfl) (by decide) (law_image hL hl hL2 I K)
  by_cases c29 : v.toInt = 29
  · exact A_tsI 1188 d_law_33 (by omega) (by omega) (by rw [c29]; rfl) (by decide) (law_back hL hl hL2 I K)
  by_cases c30 : v.toInt = 30
  · exact A_tsI 1201 d_law_33 (by omega) (by omega) (by rw [c30]; rfl) (by decide) (law_sheet hL hl hL2 I K)
  by_cases c31 : v.toInt = 31
  · exact A_tsI 1244 d_law_33 (by omega) (by omega) (by rw [c31]; rfl) (by decide) (law_cell hL hl hL2 I K)
  by_cases c32 : v.toInt = 32
  · exact A_tsI 1287 d_law_33 (by omega) (by omega) (by rw [c32]; rfl) (by decide) (law_copy hL hl hL2 I K)
  by_cases c33 : v.toInt = 33
  · exact A_tsI 1350 d_law_33 (by omega) (by omega) (by rw [c33]; rfl) (by decide) (law_housesBy hL hl hL2 I K)
  by_cases c34 : v.toInt = 34
  · exact A_tsI 1403 d_law_33 (by omega) (by omega) (by rw [c34]; rfl) (by decide) (law_taken hL hl hL2 I K)
  omega
theorem law_loop {G : GG} {L : Nat} (hL : G.2.2.2.2.2.1 = L) (hL2 : L ≤ 3584) : ∀ (n k : Nat) (h : AH), n + k = L / 7 → Inv h → Att G T1 m_law 161 18 (LA k) [] h (8 * n) (24 * n) QL := by
  intro n
  induction n with
  | zero =>
    intro k h hk I
    refine A_iload_n d_law_18 rfl ?_
    refine A_aload_n d_law_19 rfl ?_
    refine A_scrN d_law_20 ?_
    refine A_bipush 7 (by decide) d_law_21 ?_
    refine A_isub d_law_23 ?_
    rw [hL]
    have e : (nI L - 7).toInt = (L : Int) - 7 := by
      rw [Int32.toInt_sub, nI_toInt (by omega), show (7 : Int32).toInt = 7 by decide]
      exact Int.bmod_eq_of_le (by omega) (by omega)
    refine A_icmp_gt 1442 d_law_24 (by decide) (fun _ => ?_) (fun z => absurd (Int32.lt_iff_toInt_lt.mpr ?_) z)
    · refine A_iconst 1 (by decide) d_law_1442 ?_
      exact A_iret d_law_1443 rfl rfl rfl
    · show (nI L - 7).toInt < _
      rw [e, nI_toInt (by omega)]; omega
  | succ n ih =>
    intro k h hk I
    have hl : 7 * k + 7 ≤ L := by omega
    refine A_iload_n d_law_18 rfl ?_
    refine A_aload_n d_law_19 rfl ?_
    refine A_scrN d_law_20 ?_
    refine A_bipush 7 (by decide) d_law_21 ?_
    refine A_isub d_law_23 ?_
    rw [hL]
    have e : (nI L - 7).toInt = (L : Int) - 7 := by
      rw [Int32.toInt_sub, nI_toInt (by omega), show (7 : Int32).toInt = 7 by decide]
      exact Int.bmod_eq_of_le (by omega) (by omega)
    refine A_icmp_gt 1442 d_law_24 (by decide) (fun z => ?_) (fun _ => ?_)
    · have z2 : (nI L - 7).toInt < _ := Int32.lt_iff_toInt_lt.mp z
      rw [e, nI_toInt (by omega)] at z2; omega
    refine A_aload_n d_law_27 rfl ?_
    refine A_iload_n d_law_28 rfl ?_
    refine A_scrI d_law_29 (by rw [hL]; exact inb_nI (by omega) (by omega)) ?_
    refine A_bipush 63 (by decide) d_law_30 ?_
    refine A_iand d_law_32 ?_
    refine law_switch (bc := 8 * n) (bs := 24 * n) _ hL hl hL2 I (fun h2 I2 => ?_)
    refine A_iinc 7 (LA (k + 1)) d_law_1436 rfl (by decide) (by decide) rfl (by rw [show (7 : Int32) = nI 7 from rfl, nI_add]; rfl) ?_
    refine A_goto 18 d_law_1439 (by decide) ?_
    exact ih (k + 1) h2 (by omega) I2

theorem dX9_findOdds_78 : decode cX9_findOdds 78 = .ok (.iconst 3, 1) := by decide +kernel
theorem dX9_findOdds_79 : decode cX9_findOdds 79 = .ok (.iload 6, 2) := by decide +kernel
theorem dX9_findOdds_81 : decode cX9_findOdds 81 = .ok (.imul, 1) := by decide +kernel
theorem dX9_findOdds_82 : decode cX9_findOdds 82 = .ok (.iconst 2, 1) := by decide +kernel
theorem dX9_findOdds_83 : decode cX9_findOdds 83 = .ok (.iadd, 1) := by decide +kernel
theorem dX9_findOdds_84 : decode cX9_findOdds 84 = .ok (.iload_n 3, 1) := by decide +kernel
theorem dX9_findOdds_85 : decode cX9_findOdds 85 = .ok (.iload 6, 2) := by decide +kernel
theorem dX9_findOdds_87 : decode cX9_findOdds 87 = .ok (.ishr, 1) := by decide +kernel
theorem dX9_findOdds_88 : decode cX9_findOdds 88 = .ok (.iconst 1, 1) := by decide +kernel
theorem dX9_findOdds_89 : decode cX9_findOdds 89 = .ok (.iand, 1) := by decide +kernel
theorem dX9_findOdds_90 : decode cX9_findOdds 90 = .ok (.iastore, 1) := by decide +kernel
theorem dX9_findOdds_91 : decode cX9_findOdds 91 = .ok (.lload 4, 2) := by decide +kernel
theorem dX9_findOdds_93 : decode cX9_findOdds 93 = .ok (.iload_n 3, 1) := by decide +kernel
theorem dX9_findOdds_94 : decode cX9_findOdds 94 = .ok (.iload 6, 2) := by decide +kernel
theorem dX9_findOdds_96 : decode cX9_findOdds 96 = .ok (.ishr, 1) := by decide +kernel
theorem dX9_findOdds_97 : decode cX9_findOdds 97 = .ok (.iconst 1, 1) := by decide +kernel
theorem dX9_findOdds_98 : decode cX9_findOdds 98 = .ok (.iand, 1) := by decide +kernel
theorem dX9_findOdds_99 : decode cX9_findOdds 99 = .ok (.iconst 1, 1) := by decide +kernel
theorem dX9_findOdds_100 : decode cX9_findOdds 100 = .ok (.if_icmp .ne 8, 3) := by decide +kernel
theorem dX9_findOdds_103 : decode cX9_findOdds 103 = .ok (.iload_n 1, 1) := by decide +kernel
theorem dX9_findOdds_104 : decode cX9_findOdds 104 = .ok (.i2l, 1) := by decide +kernel
theorem dX9_findOdds_105 : decode cX9_findOdds 105 = .ok (.goto 8, 3) := by decide +kernel
theorem dX9_findOdds_108 : decode cX9_findOdds 108 = .ok (.bipush 10, 2) := by decide +kernel
theorem dX9_findOdds_110 : decode cX9_findOdds 110 = .ok (.iload_n 1, 1) := by decide +kernel
theorem dX9_findOdds_111 : decode cX9_findOdds 111 = .ok (.isub, 1) := by decide +kernel
theorem dX9_findOdds_112 : decode cX9_findOdds 112 = .ok (.i2l, 1) := by decide +kernel
theorem dX9_findOdds_113 : decode cX9_findOdds 113 = .ok (.lmul, 1) := by decide +kernel
theorem dX9_findOdds_114 : decode cX9_findOdds 114 = .ok (.lstore 4, 2) := by decide +kernel
theorem dX9_findOdds_116 : decode cX9_findOdds 116 = .ok (.iinc 6 1, 3) := by decide +kernel
theorem dX9_findOdds_119 : decode cX9_findOdds 119 = .ok (.goto (-54), 3) := by decide +kernel
theorem dX9_findOdds_122 : decode cX9_findOdds 122 = .ok (.aload_n 0, 1) := by decide +kernel
theorem dX9_findOdds_123 : decode cX9_findOdds 123 = .ok (.invokevirtual 197, 3) := by decide +kernel
theorem dX9_findOdds_126 : decode cX9_findOdds 126 = .ok (.aload_n 0, 1) := by decide +kernel
theorem dX9_findOdds_127 : decode cX9_findOdds 127 = .ok (.dup, 1) := by decide +kernel
theorem dX9_findOdds_128 : decode cX9_findOdds 128 = .ok (.getfield 254, 3) := by decide +kernel
theorem dX9_findOdds_131 : decode cX9_findOdds 131 = .ok (.aload_n 0, 1) := by decide +kernel
theorem dX9_findOdds_132 : decode cX9_findOdds 132 = .ok (.getfield 26, 3) := by decide +kernel
theorem dX9_findOdds_135 : decode cX9_findOdds 135 = .ok (.iload_n 2, 1) := by decide +kernel
theorem dX9_findOdds_136 : decode cX9_findOdds 136 = .ok (.iaload, 1) := by decide +kernel
theorem dX9_findOdds_137 : decode cX9_findOdds 137 = .ok (.bipush (-4), 2) := by decide +kernel
theorem dX9_findOdds_139 : decode cX9_findOdds 139 = .ok (.if_icmp .eq 8, 3) := by decide +kernel
theorem dX9_findOdds_142 : decode cX9_findOdds 142 = .ok (.lload 4, 2) := by decide +kernel
theorem dX9_findOdds_144 : decode cX9_findOdds 144 = .ok (.goto 4, 3) := by decide +kernel
theorem dX9_findOdds_147 : decode cX9_findOdds 147 = .ok (.lconst 0, 1) := by decide +kernel
theorem dX9_findOdds_148 : decode cX9_findOdds 148 = .ok (.ladd, 1) := by decide +kernel
theorem dX9_findOdds_149 : decode cX9_findOdds 149 = .ok (.putfield 254, 3) := by decide +kernel
theorem dX9_findOdds_152 : decode cX9_findOdds 152 = .ok (.aload_n 0, 1) := by decide +kernel
theorem dX9_findOdds_153 : decode cX9_findOdds 153 = .ok (.dup, 1) := by decide +kernel
theorem dX9_findOdds_154 : decode cX9_findOdds 154 = .ok (.getfield 258, 3) := by decide +kernel
theorem dX9_findOdds_157 : decode cX9_findOdds 157 = .ok (.lload 4, 2) := by decide +kernel
theorem dX9_findOdds_159 : decode cX9_findOdds 159 = .ok (.aload_n 0, 1) := by decide +kernel
theorem dX9_findOdds_160 : decode cX9_findOdds 160 = .ok (.invokevirtual 200, 3) := by decide +kernel
theorem dX9_findOdds_163 : decode cX9_findOdds 163 = .ok (.invokestatic 203, 3) := by decide +kernel
theorem dX9_findOdds_166 : decode cX9_findOdds 166 = .ok (.i2l, 1) := by decide +kernel
theorem dX9_findOdds_167 : decode cX9_findOdds 167 = .ok (.lmul, 1) := by decide +kernel
theorem dX9_findOdds_168 : decode cX9_findOdds 168 = .ok (.ladd, 1) := by decide +kernel
theorem dX9_findOdds_169 : decode cX9_findOdds 169 = .ok (.putfield 258, 3) := by decide +kernel
theorem dX9_findOdds_172 : decode cX9_findOdds 172 = .ok (.iinc 3 1, 3) := by decide +kernel
theorem dX9_findOdds_175 : decode cX9_findOdds 175 = .ok (.goto (-126), 3) := by decide +kernel
theorem dX9_findOdds_178 : decode cX9_findOdds 178 = .ok (.return_, 1) := by decide +kernel
set_option maxRecDepth 20000 in
theorem ggX9_luck_X9_in : GoodIn wsX9_luck wsX9_in := goodIn_r _ [8] (by decide +kernel) (by decide +kernel)
set_option maxRecDepth 20000 in
theorem gX9_luck_X9_in : GoodIn wsX9_luck (va_wsS RX9 89 yX9_in wsX9_in) := goodIn_app (goodIn_of _ (by decide +kernel)) ggX9_luck_X9_in
set_option maxRecDepth 20000 in
theorem ggX9_luck_X9_isParty : GoodIn wsX9_luck wsX9_isParty := goodIn_r _ [12, 13, 5, 6, 7, 8, 88, 89, 90, 91, 92, 93, 94, 95, 96, 97, 98, 99, 100, 101, 102, 103, 104, 105, 106, 107, 108, 109, 110, 111, 112, 113, 114, 115, 116, 117, 118, 119, 120, 121, 122, 123, 124] (by decide +kernel) (by decide +kernel)
set_option maxRecDepth 20000 in
theorem gX9_luck_X9_isParty : GoodIn wsX9_luck (wsV RX9 215 RX9 yX9_isParty wsX9_isParty) := goodIn_app (goodIn_of _ (by decide +kernel)) ggX9_luck_X9_isParty
set_option maxRecDepth 20000 in
theorem ggX9_luck_X9_isPart : GoodIn wsX9_luck wsX9_isPart := goodIn_r _ [16, 5, 6, 7, 8] (by decide +kernel) (by decide +kernel)
set_option maxRecDepth 20000 in
theorem gX9_luck_X9_isPart : GoodIn wsX9_luck (va_wsS RX9 220 yX9_isPart wsX9_isPart) := goodIn_app (goodIn_of _ (by decide +kernel)) ggX9_luck_X9_isPart
set_option maxRecDepth 20000 in
theorem ggX9_luck_X9_findOdds : GoodIn wsX9_luck wsX9_findOdds := goodIn_r _ [20, 3, 21, 4, 22, 1, 23, 24, 25, 26, 27, 7, 28, 29, 30, 31, 32, 33, 34, 35, 36, 37, 38, 39, 40, 41, 42, 43, 44, 45, 46, 47, 13, 48, 49, 50, 51, 52, 53, 54, 55, 56, 57, 58, 59, 60, 61, 62, 63, 64, 65, 66, 67, 68, 69, 70, 71, 72, 73, 74, 75, 76, 77, 78, 79, 80, 81, 88, 89, 90, 91, 92, 93, 94, 95, 96, 97, 98, 99, 100, 101, 102, 103, 104, 105, 106, 107, 108, 109, 110, 111, 112, 113, 114, 115, 116, 117, 118, 119, 120, 121, 122, 123, 124] (by decide +kernel) (by decide +kernel)
set_option maxRecDepth 20000 in
theorem gX9_luck_X9_findOdds : GoodIn wsX9_luck (wsV RX9 268 RX9 yX9_findOdds wsX9_findOdds) := goodIn_app (goodIn_of _ (by decide +kernel)) ggX9_luck_X9_findOdds
set_option maxRecDepth 20000 in
theorem ggX9_luck_X9_told : GoodIn wsX9_luck wsX9_told := goodIn_r _ [84, 85, 86, 7, 87] (by decide +kernel) (by decide +kernel)
set_option maxRecDepth 20000 in
theorem gX9_luck_X9_told : GoodIn wsX9_luck (va_wsS RX9 271 yX9_told wsX9_told) := goodIn_app (goodIn_of _ (by decide +kernel)) ggX9_luck_X9_told
theorem dX9_luck_0 : decode cX9_luck 0 = .ok (.iload_n 1, 1) := by decide +kernel
theorem dX9_luck_1 : decode cX9_luck 1 = .ok (.i2l, 1) := by decide +kernel
theorem dX9_luck_2 : decode cX9_luck 2 = .ok (.lconst 0, 1) := by decide +kernel
theorem dX9_luck_3 : decode cX9_luck 3 = .ok (.ldc2_w 264, 3) := by decide +kernel
theorem dX9_luck_6 : decode cX9_luck 6 = .ok (.invokestatic 89, 3) := by decide +kernel
theorem dX9_luck_9 : decode cX9_luck 9 = .ok (.ifCond .eq 18, 3) := by decide +kernel
theorem dX9_luck_12 : decode cX9_luck 12 = .ok (.aload_n 0, 1) := by decide +kernel
theorem dX9_luck_13 : decode cX9_luck 13 = .ok (.iload_n 2, 1) := by decide +kernel
theorem dX9_luck_14 : decode cX9_luck 14 = .ok (.invokevirtual 215, 3) := by decide +kernel
theorem dX9_luck_17 : decode cX9_luck 17 = .ok (.ifCond .eq 10, 3) := by decide +kernel
theorem dX9_luck_20 : decode cX9_luck 20 = .ok (.iload_n 3, 1) := by decide +kernel
theorem dX9_luck_21 : decode cX9_luck 21 = .ok (.invokestatic 220, 3) := by decide +kernel
theorem dX9_luck_24 : decode cX9_luck 24 = .ok (.ifCond .ne 7, 3) := by decide +kernel
theorem dX9_luck_27 : decode cX9_luck 27 = .ok (.ldc2_w 266, 3) := by decide +kernel
theorem dX9_luck_30 : decode cX9_luck 30 = .ok (.lreturn, 1) := by decide +kernel
theorem dX9_luck_31 : decode cX9_luck 31 = .ok (.aload_n 0, 1) := by decide +kernel
theorem dX9_luck_32 : decode cX9_luck 32 = .ok (.iload_n 1, 1) := by decide +kernel
theorem dX9_luck_33 : decode cX9_luck 33 = .ok (.iload_n 2, 1) := by decide +kernel
theorem dX9_luck_34 : decode cX9_luck 34 = .ok (.invokevirtual 268, 3) := by decide +kernel
theorem dX9_luck_37 : decode cX9_luck 37 = .ok (.aload_n 0, 1) := by decide +kernel
theorem dX9_luck_38 : decode cX9_luck 38 = .ok (.getfield 254, 3) := by decide +kernel
theorem dX9_luck_41 : decode cX9_luck 41 = .ok (.aload_n 0, 1) := by decide +kernel
theorem dX9_luck_42 : decode cX9_luck 42 = .ok (.getfield 261, 3) := by decide +kernel
theorem dX9_luck_45 : decode cX9_luck 45 = .ok (.iload_n 3, 1) := by decide +kernel
theorem dX9_luck_46 : decode cX9_luck 46 = .ok (.invokestatic 271, 3) := by decide +kernel
theorem dX9_luck_49 : decode cX9_luck 49 = .ok (.lreturn, 1) := by decide +kernel
set_option maxRecDepth 20000 in
theorem ggX9_mean_X9_in : GoodIn wsX9_mean wsX9_in := goodIn_r _ [8] (by decide +kernel) (by decide +kernel)
set_option maxRecDepth 20000 in
theorem gX9_mean_X9_in : GoodIn wsX9_mean (va_wsS RX9 89 yX9_in wsX9_in) := goodIn_app (goodIn_of _ (by decide +kernel)) ggX9_mean_X9_in
set_option maxRecDepth 20000 in
theorem ggX9_mean_X9_isPart : GoodIn wsX9_mean wsX9_isPart := goodIn_r _ [11, 5, 6, 7, 8] (by decide +kernel) (by decide +kernel)
set_option maxRecDepth 20000 in
theorem gX9_mean_X9_isPart : GoodIn wsX9_mean (va_wsS RX9 220 yX9_isPart wsX9_isPart) := goodIn_app (goodIn_of _ (by decide +kernel)) ggX9_mean_X9_isPart
set_option maxRecDepth 20000 in
theorem ggX9_mean_X9_findOdds : GoodIn wsX9_mean wsX9_findOdds := goodIn_r _ [15, 16, 3, 4, 17, 1, 18, 19, 20, 21, 22, 7, 23, 24, 25, 26, 27, 28, 29, 30, 31, 32, 33, 34, 35, 36, 37, 38, 39, 40, 41, 42, 43, 44, 45, 46, 47, 48, 49, 50, 51, 52, 53, 54, 55, 56, 57, 58, 59, 60, 61, 62, 63, 64, 65, 66, 67, 68, 69, 70, 71, 72, 73, 74, 75, 76, 77, 84, 85, 86, 87, 88, 89, 90, 91, 92, 93, 94, 95, 96, 97, 98, 99, 100, 101, 102, 103, 104, 105, 106, 107, 108, 109, 110, 111, 112, 113, 114, 115, 116, 117, 118, 119, 120] (by decide +kernel) (by decide +kernel)
set_option maxRecDepth 20000 in
theorem gX9_mean_X9_findOdds : GoodIn wsX9_mean (wsV RX9 268 RX9 yX9_findOdds wsX9_findOdds) := goodIn_app (goodIn_of _ (by decide +kernel)) ggX9_mean_X9_findOdds
set_option maxRecDepth 20000 in
theorem ggX9_mean_X9_told : GoodIn wsX9_mean wsX9_told := goodIn_r _ [80, 81, 82, 7, 83] (by decide +kernel) (by decide +kernel)
set_option maxRecDepth 20000 in
theorem gX9_mean_X9_told : GoodIn wsX9_mean (va_wsS RX9 271 yX9_told wsX9_told) := goodIn_app (goodIn_of _ (by decide +kernel)) ggX9_mean_X9_told
theorem dX9_mean_0 : decode cX9_mean 0 = .ok (.iload_n 1, 1) := by decide +kernel
theorem dX9_mean_1 : decode cX9_mean 1 = .ok (.i2l, 1) := by decide +kernel
theorem dX9_mean_2 : decode cX9_mean 2 = .ok (.lconst 0, 1) := by decide +kernel
theorem dX9_mean_3 : decode cX9_mean 3 = .ok (.ldc2_w 264, 3) := by decide +kernel
theorem dX9_mean_6 : decode cX9_mean 6 = .ok (.invokestatic 89, 3) := by decide +kernel
theorem dX9_mean_9 : decode cX9_mean 9 = .ok (.ifCond .eq 10, 3) := by decide +kernel
theorem dX9_mean_12 : decode cX9_mean 12 = .ok (.iload_n 2, 1) := by decide +kernel
theorem dX9_mean_13 : decode cX9_mean 13 = .ok (.invokestatic 220, 3) := by decide +kernel
theorem dX9_mean_16 : decode cX9_mean 16 = .ok (.ifCond .ne 7, 3) := by decide +kernel
theorem dX9_mean_19 : decode cX9_mean 19 = .ok (.ldc2_w 266, 3) := by decide +kernel
theorem dX9_mean_22 : decode cX9_mean 22 = .ok (.lreturn, 1) := by decide +kernel
theorem dX9_mean_23 : decode cX9_mean 23 = .ok (.aload_n 0, 1) := by decide +kernel
theorem dX9_mean_24 : decode cX9_mean 24 = .ok (.iload_n 1, 1) := by decide +kernel
theorem dX9_mean_25 : decode cX9_mean 25 = .ok (.iconst 0, 1) := by decide +kernel
theorem dX9_mean_26 : decode cX9_mean 26 = .ok (.invokevirtual 268, 3) := by decide +kernel
theorem dX9_mean_29 : decode cX9_mean 29 = .ok (.aload_n 0, 1) := by decide +kernel
theorem dX9_mean_30 : decode cX9_mean 30 = .ok (.getfield 258, 3) := by decide +kernel
theorem dX9_mean_33 : decode cX9_mean 33 = .ok (.aload_n 0, 1) := by decide +kernel
theorem dX9_mean_34 : decode cX9_mean 34 = .ok (.getfield 261, 3) := by decide +kernel
theorem dX9_mean_37 : decode cX9_mean 37 = .ok (.iload_n 2, 1) := by decide +kernel
theorem dX9_mean_38 : decode cX9_mean 38 = .ok (.invokestatic 271, 3) := by decide +kernel
theorem dX9_mean_41 : decode cX9_mean 41 = .ok (.lreturn, 1) := by decide +kernel
set_option maxRecDepth 20000 in
theorem ggX9_see_X9_isParty : GoodIn wsX9_see wsX9_isParty := goodIn_r _ [7, 8, 9, 10, 6, 11, 12, 13, 14, 15, 16, 17, 18, 19, 20, 21, 22, 23, 24, 25, 26, 27, 28, 29, 30, 31, 32, 33, 34, 35, 36, 37, 38, 39, 40, 41, 42, 43, 44, 45, 46, 47, 48] (by decide +kernel) (by decide +kernel)
set_option maxRecDepth 20000 in
theorem gX9_see_X9_isParty : GoodIn wsX9_see (wsV RX9 215 RX9 yX9_isParty wsX9_isParty) := goodIn_app (goodIn_of _ (by decide +kernel)) ggX9_see_X9_isParty
set_option maxRecDepth 20000 in
theorem ggX9_see_X9_in : GoodIn wsX9_see wsX9_in := goodIn_r _ [11] (by decide +kernel) (by decide +kernel)
set_option maxRecDepth 20000 in
theorem gX9_see_X9_in : GoodIn wsX9_see (va_wsS RX9 89 yX9_in wsX9_in) := goodIn_app (goodIn_of _ (by decide +kernel)) ggX9_see_X9_in
theorem dX9_see_0 : decode cX9_see 0 = .ok (.aload_n 0, 1) := by decide +kernel
theorem dX9_see_1 : decode cX9_see 1 = .ok (.iload_n 1, 1) := by decide +kernel
theorem dX9_see_2 : decode cX9_see 2 = .ok (.invokevirtual 215, 3) := by decide +kernel
theorem dX9_see_5 : decode cX9_see 5 = .ok (.ifCond .eq 21, 3) := by decide +kernel
theorem dX9_see_8 : decode cX9_see 8 = .ok (.iload_n 2, 1) := by decide +kernel
theorem dX9_see_9 : decode cX9_see 9 = .ok (.bipush (-4), 2) := by decide +kernel
theorem dX9_see_11 : decode cX9_see 11 = .ok (.if_icmp .eq 17, 3) := by decide +kernel
theorem dX9_see_14 : decode cX9_see 14 = .ok (.iload_n 2, 1) := by decide +kernel
theorem dX9_see_15 : decode cX9_see 15 = .ok (.i2l, 1) := by decide +kernel
theorem dX9_see_16 : decode cX9_see 16 = .ok (.lconst 0, 1) := by decide +kernel
theorem dX9_see_17 : decode cX9_see 17 = .ok (.ldc2_w 275, 3) := by decide +kernel
theorem dX9_see_20 : decode cX9_see 20 = .ok (.invokestatic 89, 3) := by decide +kernel
theorem dX9_see_23 : decode cX9_see 23 = .ok (.ifCond .ne 5, 3) := by decide +kernel
theorem dX9_see_26 : decode cX9_see 26 = .ok (.iconst (-1), 1) := by decide +kernel
theorem dX9_see_27 : decode cX9_see 27 = .ok (.ireturn, 1) := by decide +kernel
theorem dX9_see_28 : decode cX9_see 28 = .ok (.aload_n 0, 1) := by decide +kernel
theorem dX9_see_29 : decode cX9_see 29 = .ok (.getfield 7, 3) := by decide +kernel
theorem dX9_see_32 : decode cX9_see 32 = .ok (.bipush 46, 2) := by decide +kernel
theorem dX9_see_34 : decode cX9_see 34 = .ok (.iaload, 1) := by decide +kernel
theorem dX9_see_35 : decode cX9_see 35 = .ok (.bipush 6, 2) := by decide +kernel
theorem dX9_see_37 : decode cX9_see 37 = .ok (.if_icmp .ne 6, 3) := by decide +kernel
theorem dX9_see_40 : decode cX9_see 40 = .ok (.bipush (-3), 2) := by decide +kernel
theorem dX9_see_42 : decode cX9_see 42 = .ok (.ireturn, 1) := by decide +kernel
theorem dX9_see_43 : decode cX9_see 43 = .ok (.aload_n 0, 1) := by decide +kernel
theorem dX9_see_44 : decode cX9_see 44 = .ok (.getfield 7, 3) := by decide +kernel
theorem dX9_see_47 : decode cX9_see 47 = .ok (.bipush 47, 2) := by decide +kernel
theorem dX9_see_49 : decode cX9_see 49 = .ok (.iconst 2, 1) := by decide +kernel
theorem dX9_see_50 : decode cX9_see 50 = .ok (.aload_n 0, 1) := by decide +kernel
theorem dX9_see_51 : decode cX9_see 51 = .ok (.getfield 7, 3) := by decide +kernel
theorem dX9_see_54 : decode cX9_see 54 = .ok (.bipush 46, 2) := by decide +kernel
theorem dX9_see_56 : decode cX9_see 56 = .ok (.iaload, 1) := by decide +kernel
theorem dX9_see_57 : decode cX9_see 57 = .ok (.imul, 1) := by decide +kernel
theorem dX9_see_58 : decode cX9_see 58 = .ok (.iadd, 1) := by decide +kernel
theorem dX9_see_59 : decode cX9_see 59 = .ok (.iload_n 1, 1) := by decide +kernel
theorem dX9_see_60 : decode cX9_see 60 = .ok (.iastore, 1) := by decide +kernel
theorem dX9_see_61 : decode cX9_see 61 = .ok (.aload_n 0, 1) := by decide +kernel
theorem dX9_see_62 : decode cX9_see 62 = .ok (.getfield 7, 3) := by decide +kernel
theorem dX9_see_65 : decode cX9_see 65 = .ok (.bipush 47, 2) := by decide +kernel
theorem dX9_see_67 : decode cX9_see 67 = .ok (.iconst 2, 1) := by decide +kernel
theorem dX9_see_68 : decode cX9_see 68 = .ok (.aload_n 0, 1) := by decide +kernel
theorem dX9_see_69 : decode cX9_see 69 = .ok (.getfield 7, 3) := by decide +kernel
theorem dX9_see_72 : decode cX9_see 72 = .ok (.bipush 46, 2) := by decide +kernel
theorem dX9_see_74 : decode cX9_see 74 = .ok (.iaload, 1) := by decide +kernel
theorem dX9_see_75 : decode cX9_see 75 = .ok (.imul, 1) := by decide +kernel
theorem dX9_see_76 : decode cX9_see 76 = .ok (.iadd, 1) := by decide +kernel
theorem dX9_see_77 : decode cX9_see 77 = .ok (.iconst 1, 1) := by decide +kernel
theorem dX9_see_78 : decode cX9_see 78 = .ok (.iadd, 1) := by decide +kernel
theorem dX9_see_79 : decode cX9_see 79 = .ok (.iload_n 2, 1) := by decide +kernel
theorem dX9_see_80 : decode cX9_see 80 = .ok (.iastore, 1) := by decide +kernel
theorem dX9_see_81 : decode cX9_see 81 = .ok (.aload_n 0, 1) := by decide +kernel
theorem dX9_see_82 : decode cX9_see 82 = .ok (.getfield 7, 3) := by decide +kernel
theorem dX9_see_85 : decode cX9_see 85 = .ok (.bipush 46, 2) := by decide +kernel
theorem dX9_see_87 : decode cX9_see 87 = .ok (.dup2, 1) := by decide +kernel
theorem dX9_see_88 : decode cX9_see 88 = .ok (.iaload, 1) := by decide +kernel
theorem dX9_see_89 : decode cX9_see 89 = .ok (.iconst 1, 1) := by decide +kernel
theorem dX9_see_90 : decode cX9_see 90 = .ok (.iadd, 1) := by decide +kernel
theorem dX9_see_91 : decode cX9_see 91 = .ok (.iastore, 1) := by decide +kernel
theorem dX9_see_92 : decode cX9_see 92 = .ok (.aload_n 0, 1) := by decide +kernel
theorem dX9_see_93 : decode cX9_see 93 = .ok (.getfield 7, 3) := by decide +kernel
theorem dX9_see_96 : decode cX9_see 96 = .ok (.bipush 46, 2) := by decide +kernel
theorem dX9_see_98 : decode cX9_see 98 = .ok (.iaload, 1) := by decide +kernel
theorem dX9_see_99 : decode cX9_see 99 = .ok (.ireturn, 1) := by decide +kernel
set_option maxRecDepth 20000 in
theorem ggX9_forget_X9_in : GoodIn wsX9_forget wsX9_in := goodIn_r _ [5] (by decide +kernel) (by decide +kernel)
set_option maxRecDepth 20000 in
theorem gX9_forget_X9_in : GoodIn wsX9_forget (va_wsS RX9 89 yX9_in wsX9_in) := goodIn_app (goodIn_of _ (by decide +kernel)) ggX9_forget_X9_in
set_option maxRecDepth 20000 in
theorem ggX9_forget_X9_becomes : GoodIn wsX9_forget wsX9_becomes := goodIn_r _ [9, 1, 10, 11, 12, 13, 14, 15, 16, 17, 18, 19, 20, 21, 22, 23, 24, 25, 26, 27, 28, 29, 30, 31, 32, 33, 34, 35, 36, 37, 38, 39, 40, 41, 42, 43, 44, 45, 46] (by decide +kernel) (by decide +kernel)
set_option maxRecDepth 20000 in
theorem gX9_forget_X9_becomes : GoodIn wsX9_forget (wsV RX9 223 RX9 yX9_becomes wsX9_becomes) := goodIn_app (goodIn_of _ (by decide +kernel)) ggX9_forget_X9_becomes
theorem dX9_forget_0 : decode cX9_forget 0 = .ok (.iload_n 1, 1) := by decide +kernel
theorem dX9_forget_1 : decode cX9_forget 1 = .ok (.i2l, 1) := by decide +kernel
theorem dX9_forget_2 : decode cX9_forget 2 = .ok (.lconst 0, 1) := by decide +kernel
theorem dX9_forget_3 : decode cX9_forget 3 = .ok (.aload_n 0, 1) := by decide +kernel
theorem dX9_forget_4 : decode cX9_forget 4 = .ok (.getfield 7, 3) := by decide +kernel
theorem dX9_forget_7 : decode cX9_forget 7 = .ok (.bipush 46, 2) := by decide +kernel
theorem dX9_forget_9 : decode cX9_forget 9 = .ok (.iaload, 1) := by decide +kernel
theorem dX9_forget_10 : decode cX9_forget 10 = .ok (.i2l, 1) := by decide +kernel
theorem dX9_forget_11 : decode cX9_forget 11 = .ok (.invokestatic 89, 3) := by decide +kernel
theorem dX9_forget_14 : decode cX9_forget 14 = .ok (.ifCond .eq 13, 3) := by decide +kernel
theorem dX9_forget_17 : decode cX9_forget 17 = .ok (.aload_n 0, 1) := by decide +kernel
theorem dX9_forget_18 : decode cX9_forget 18 = .ok (.bipush 46, 2) := by decide +kernel
theorem dX9_forget_20 : decode cX9_forget 20 = .ok (.iload_n 1, 1) := by decide +kernel
theorem dX9_forget_21 : decode cX9_forget 21 = .ok (.invokevirtual 223, 3) := by decide +kernel
theorem dX9_forget_24 : decode cX9_forget 24 = .ok (.goto 4, 3) := by decide +kernel
theorem dX9_forget_27 : decode cX9_forget 27 = .ok (.iconst (-1), 1) := by decide +kernel
theorem dX9_forget_28 : decode cX9_forget 28 = .ok (.ireturn, 1) := by decide +kernel
set_option maxRecDepth 20000 in
theorem ggX9_isSo_X9_drives : GoodIn wsX9_isSo wsX9_drives := goodIn_r _ [7, 8, 2, 9, 10, 11, 12, 13, 14, 15, 16, 17, 18, 6, 19, 20, 21, 22, 23, 24, 25, 26, 27, 28, 29, 30, 31, 32, 33, 34, 35, 36, 37, 38, 39, 40, 41, 42, 43, 44, 45, 46, 47, 48, 49, 50, 51, 52, 53, 54, 55, 56, 57, 58, 59, 60, 61, 62, 63, 64, 65, 66, 67, 68, 69, 70, 71, 72, 73, 74, 75, 76, 77, 78, 79, 80, 81, 82, 83, 84, 85] (by decide +kernel) (by decide +kernel)
set_option maxRecDepth 20000 in
theorem gX9_isSo_X9_drives : GoodIn wsX9_isSo (wsV RX9 197 RX9 yX9_drives wsX9_drives) := goodIn_app (goodIn_of _ (by decide +kernel)) ggX9_isSo_X9_drives
theorem dX9_isSo_0 : decode cX9_isSo 0 = .ok (.iconst 1, 1) := by decide +kernel
theorem dX9_isSo_1 : decode cX9_isSo 1 = .ok (.istore_n 1, 1) := by decide +kernel
theorem dX9_isSo_2 : decode cX9_isSo 2 = .ok (.aload_n 0, 1) := by decide +kernel
theorem dX9_isSo_3 : decode cX9_isSo 3 = .ok (.invokevirtual 197, 3) := by decide +kernel
theorem dX9_isSo_6 : decode cX9_isSo 6 = .ok (.iconst 0, 1) := by decide +kernel
theorem dX9_isSo_7 : decode cX9_isSo 7 = .ok (.istore_n 2, 1) := by decide +kernel
theorem dX9_isSo_8 : decode cX9_isSo 8 = .ok (.iload_n 2, 1) := by decide +kernel
theorem dX9_isSo_9 : decode cX9_isSo 9 = .ok (.aload_n 0, 1) := by decide +kernel
theorem dX9_isSo_10 : decode cX9_isSo 10 = .ok (.getfield 7, 3) := by decide +kernel
theorem dX9_isSo_13 : decode cX9_isSo 13 = .ok (.bipush 46, 2) := by decide +kernel
theorem dX9_isSo_15 : decode cX9_isSo 15 = .ok (.iaload, 1) := by decide +kernel
theorem dX9_isSo_16 : decode cX9_isSo 16 = .ok (.if_icmp .ge 51, 3) := by decide +kernel
theorem dX9_isSo_19 : decode cX9_isSo 19 = .ok (.iload_n 1, 1) := by decide +kernel
theorem dX9_isSo_20 : decode cX9_isSo 20 = .ok (.ifCond .eq 39, 3) := by decide +kernel
theorem dX9_isSo_23 : decode cX9_isSo 23 = .ok (.aload_n 0, 1) := by decide +kernel
theorem dX9_isSo_24 : decode cX9_isSo 24 = .ok (.getfield 26, 3) := by decide +kernel
theorem dX9_isSo_27 : decode cX9_isSo 27 = .ok (.aload_n 0, 1) := by decide +kernel
theorem dX9_isSo_28 : decode cX9_isSo 28 = .ok (.getfield 7, 3) := by decide +kernel
theorem dX9_isSo_31 : decode cX9_isSo 31 = .ok (.bipush 47, 2) := by decide +kernel
theorem dX9_isSo_33 : decode cX9_isSo 33 = .ok (.iconst 2, 1) := by decide +kernel
theorem dX9_isSo_34 : decode cX9_isSo 34 = .ok (.iload_n 2, 1) := by decide +kernel
theorem dX9_isSo_35 : decode cX9_isSo 35 = .ok (.imul, 1) := by decide +kernel
theorem dX9_isSo_36 : decode cX9_isSo 36 = .ok (.iadd, 1) := by decide +kernel
theorem dX9_isSo_37 : decode cX9_isSo 37 = .ok (.iaload, 1) := by decide +kernel
theorem dX9_isSo_38 : decode cX9_isSo 38 = .ok (.iaload, 1) := by decide +kernel
theorem dX9_isSo_39 : decode cX9_isSo 39 = .ok (.aload_n 0, 1) := by decide +kernel
theorem dX9_isSo_40 : decode cX9_isSo 40 = .ok (.getfield 7, 3) := by decide +kernel
theorem dX9_isSo_43 : decode cX9_isSo 43 = .ok (.bipush 47, 2) := by decide +kernel
theorem dX9_isSo_45 : decode cX9_isSo 45 = .ok (.iconst 2, 1) := by decide +kernel
theorem dX9_isSo_46 : decode cX9_isSo 46 = .ok (.iload_n 2, 1) := by decide +kernel
theorem dX9_isSo_47 : decode cX9_isSo 47 = .ok (.imul, 1) := by decide +kernel
theorem dX9_isSo_48 : decode cX9_isSo 48 = .ok (.iadd, 1) := by decide +kernel
theorem dX9_isSo_49 : decode cX9_isSo 49 = .ok (.iconst 1, 1) := by decide +kernel
theorem dX9_isSo_50 : decode cX9_isSo 50 = .ok (.iadd, 1) := by decide +kernel
theorem dX9_isSo_51 : decode cX9_isSo 51 = .ok (.iaload, 1) := by decide +kernel
theorem dX9_isSo_52 : decode cX9_isSo 52 = .ok (.if_icmp .ne 7, 3) := by decide +kernel
theorem dX9_isSo_55 : decode cX9_isSo 55 = .ok (.iconst 1, 1) := by decide +kernel
theorem dX9_isSo_56 : decode cX9_isSo 56 = .ok (.goto 4, 3) := by decide +kernel
theorem dX9_isSo_59 : decode cX9_isSo 59 = .ok (.iconst 0, 1) := by decide +kernel
theorem dX9_isSo_60 : decode cX9_isSo 60 = .ok (.istore_n 1, 1) := by decide +kernel
theorem dX9_isSo_61 : decode cX9_isSo 61 = .ok (.iinc 2 1, 3) := by decide +kernel
theorem dX9_isSo_64 : decode cX9_isSo 64 = .ok (.goto (-56), 3) := by decide +kernel
theorem dX9_isSo_67 : decode cX9_isSo 67 = .ok (.iload_n 1, 1) := by decide +kernel
theorem dX9_isSo_68 : decode cX9_isSo 68 = .ok (.ireturn, 1) := by decide +kernel
theorem dX9_signs_0 : decode cX9_signs 0 = .ok (.aload_n 0, 1) := by decide +kernel
theorem dX9_signs_1 : decode cX9_signs 1 = .ok (.getfield 81, 3) := by decide +kernel
theorem dX9_signs_4 : decode cX9_signs 4 = .ok (.ifCond .le 10, 3) := by decide +kernel
theorem dX9_signs_7 : decode cX9_signs 7 = .ok (.aload_n 0, 1) := by decide +kernel
theorem dX9_signs_8 : decode cX9_signs 8 = .ok (.getfield 81, 3) := by decide +kernel
theorem dX9_signs_11 : decode cX9_signs 11 = .ok (.goto 4, 3) := by decide +kernel
theorem dX9_signs_14 : decode cX9_signs 14 = .ok (.iconst 1, 1) := by decide +kernel
theorem dX9_signs_15 : decode cX9_signs 15 = .ok (.ireturn, 1) := by decide +kernel
set_option maxRecDepth 20000 in
theorem ggX9_startsTurned_X9_starts : GoodIn wsX9_startsTurned wsX9_starts := goodIn_r _ [7, 2, 8, 9, 10, 11, 12, 13, 14, 15, 16, 17, 18, 19, 20, 21, 22, 23, 24, 25, 26, 27, 28, 29, 30, 31, 32, 33, 34, 35, 36, 37, 38, 39, 40, 41, 42, 43, 44, 45] (by decide +kernel) (by decide +kernel)
set_option maxRecDepth 20000 in
theorem gX9_startsTurned_X9_starts : GoodIn wsX9_startsTurned (wsV RX9 206 RX9 yX9_starts wsX9_starts) := goodIn_app (goodIn_of _ (by decide +kernel)) ggX9_startsTurned_X9_starts
theorem dX9_startsTurned_0 : decode cX9_startsTurned 0 = .ok (.aload_n 0, 1) := by decide +kernel
theorem dX9_startsTurned_1 : decode cX9_startsTurned 1 = .ok (.invokevirtual 206, 3) := by decide +kernel
theorem dX9_startsTurned_4 : decode cX9_startsTurned 4 = .ok (.iload_n 1, 1) := by decide +kernel
theorem dX9_startsTurned_5 : decode cX9_startsTurned 5 = .ok (.aload_n 0, 1) := by decide +kernel
theorem dX9_startsTurned_6 : decode cX9_startsTurned 6 = .ok (.getfield 81, 3) := by decide +kernel
theorem dX9_startsTurned_9 : decode cX9_startsTurned 9 = .ok (.iconst 1, 1) := by decide +kernel
theorem dX9_startsTurned_10 : decode cX9_startsTurned 10 = .ok (.isub, 1) := by decide +kernel
theorem dX9_startsTurned_11 : decode cX9_startsTurned 11 = .ok (.if_icmp .ge 39, 3) := by decide +kernel
theorem dX9_startsTurned_14 : decode cX9_startsTurned 14 = .ok (.iconst 3, 1) := by decide +kernel
theorem dX9_startsTurned_15 : decode cX9_startsTurned 15 = .ok (.iload_n 1, 1) := by decide +kernel
theorem dX9_startsTurned_16 : decode cX9_startsTurned 16 = .ok (.imul, 1) := by decide +kernel
theorem dX9_startsTurned_17 : decode cX9_startsTurned 17 = .ok (.iconst 0, 1) := by decide +kernel
theorem dX9_startsTurned_18 : decode cX9_startsTurned 18 = .ok (.iadd, 1) := by decide +kernel
theorem dX9_startsTurned_19 : decode cX9_startsTurned 19 = .ok (.istore_n 2, 1) := by decide +kernel
theorem dX9_startsTurned_20 : decode cX9_startsTurned 20 = .ok (.aload_n 0, 1) := by decide +kernel
theorem dX9_startsTurned_21 : decode cX9_startsTurned 21 = .ok (.getfield 13, 3) := by decide +kernel
theorem dX9_startsTurned_24 : decode cX9_startsTurned 24 = .ok (.iload_n 2, 1) := by decide +kernel
theorem dX9_startsTurned_25 : decode cX9_startsTurned 25 = .ok (.iaload, 1) := by decide +kernel
theorem dX9_startsTurned_26 : decode cX9_startsTurned 26 = .ok (.istore_n 3, 1) := by decide +kernel
theorem dX9_startsTurned_27 : decode cX9_startsTurned 27 = .ok (.aload_n 0, 1) := by decide +kernel
theorem dX9_startsTurned_28 : decode cX9_startsTurned 28 = .ok (.getfield 13, 3) := by decide +kernel
theorem dX9_startsTurned_31 : decode cX9_startsTurned 31 = .ok (.iload_n 2, 1) := by decide +kernel
theorem dX9_startsTurned_32 : decode cX9_startsTurned 32 = .ok (.aload_n 0, 1) := by decide +kernel
theorem dX9_startsTurned_33 : decode cX9_startsTurned 33 = .ok (.getfield 13, 3) := by decide +kernel
theorem dX9_startsTurned_36 : decode cX9_startsTurned 36 = .ok (.iload_n 2, 1) := by decide +kernel
theorem dX9_startsTurned_37 : decode cX9_startsTurned 37 = .ok (.iconst 3, 1) := by decide +kernel
theorem dX9_startsTurned_38 : decode cX9_startsTurned 38 = .ok (.iadd, 1) := by decide +kernel
theorem dX9_startsTurned_39 : decode cX9_startsTurned 39 = .ok (.iaload, 1) := by decide +kernel
theorem dX9_startsTurned_40 : decode cX9_startsTurned 40 = .ok (.iastore, 1) := by decide +kernel
theorem dX9_startsTurned_41 : decode cX9_startsTurned 41 = .ok (.aload_n 0, 1) := by decide +kernel
theorem dX9_startsTurned_42 : decode cX9_startsTurned 42 = .ok (.getfield 13, 3) := by decide +kernel
theorem dX9_startsTurned_45 : decode cX9_startsTurned 45 = .ok (.iload_n 2, 1) := by decide +kernel
theorem dX9_startsTurned_46 : decode cX9_startsTurned 46 = .ok (.iconst 3, 1) := by decide +kernel
theorem dX9_startsTurned_47 : decode cX9_startsTurned 47 = .ok (.iadd, 1) := by decide +kernel
theorem dX9_startsTurned_48 : decode cX9_startsTurned 48 = .ok (.iload_n 3, 1) := by decide +kernel
theorem dX9_startsTurned_49 : decode cX9_startsTurned 49 = .ok (.iastore, 1) := by decide +kernel
theorem dX9_startsTurned_50 : decode cX9_startsTurned 50 = .ok (.return_, 1) := by decide +kernel
theorem dX9_signBit_0 : decode cX9_signBit 0 = .ok (.iload_n 1, 1) := by decide +kernel
theorem dX9_signBit_1 : decode cX9_signBit 1 = .ok (.aload_n 0, 1) := by decide +kernel
theorem dX9_signBit_2 : decode cX9_signBit 2 = .ok (.getfield 81, 3) := by decide +kernel
theorem dX9_signBit_5 : decode cX9_signBit 5 = .ok (.iconst 1, 1) := by decide +kernel
theorem dX9_signBit_6 : decode cX9_signBit 6 = .ok (.isub, 1) := by decide +kernel
theorem dX9_signBit_7 : decode cX9_signBit 7 = .ok (.if_icmp .ge 9, 3) := by decide +kernel
theorem dX9_signBit_10 : decode cX9_signBit 10 = .ok (.iconst 1, 1) := by decide +kernel
theorem dX9_signBit_11 : decode cX9_signBit 11 = .ok (.iload_n 1, 1) := by decide +kernel
theorem dX9_signBit_12 : decode cX9_signBit 12 = .ok (.ishl, 1) := by decide +kernel
theorem dX9_signBit_13 : decode cX9_signBit 13 = .ok (.goto 6, 3) := by decide +kernel
theorem dX9_signBit_16 : decode cX9_signBit 16 = .ok (.sipush 256, 3) := by decide +kernel
theorem dX9_signBit_19 : decode cX9_signBit 19 = .ok (.ireturn, 1) := by decide +kernel
set_option maxRecDepth 20000 in
theorem ggX9_turned_X9_signs : GoodIn wsX9_turned wsX9_signs := goodIn_r _ [5, 6, 69, 70, 71, 72, 73, 74, 75, 76, 77, 78, 79, 80, 81, 82, 83, 84, 85, 86, 87, 88, 89, 90, 91, 92, 93, 94, 95, 96, 97, 98, 99, 100, 101, 102, 103, 104, 105] (by decide +kernel) (by decide +kernel)
set_option maxRecDepth 20000 in
theorem gX9_turned_X9_signs : GoodIn wsX9_turned (wsV RX9 277 RX9 yX9_signs wsX9_signs) := goodIn_app (goodIn_of _ (by decide +kernel)) ggX9_turned_X9_signs
set_option maxRecDepth 20000 in
theorem ggX9_turned_X9_startsTurned : GoodIn wsX9_turned wsX9_startsTurned := goodIn_r _ [10, 6, 11, 12, 13, 14, 4, 15, 16, 69, 70, 71, 72, 73, 74, 75, 76, 77, 78, 79, 80, 81, 82, 83, 84, 85, 86, 87, 88, 89, 90, 91, 92, 93, 94, 95, 96, 97, 98, 99, 100, 101, 102, 103, 104, 105] (by decide +kernel) (by decide +kernel)
set_option maxRecDepth 20000 in
theorem gX9_turned_X9_startsTurned : GoodIn wsX9_turned (wsV RX9 280 RX9 yX9_startsTurned wsX9_startsTurned) := goodIn_app (goodIn_of _ (by decide +kernel)) ggX9_turned_X9_startsTurned
set_option maxRecDepth 20000 in
theorem ggX9_turned_X9_isSo : GoodIn wsX9_turned wsX9_isSo := goodIn_r _ [20, 16, 21, 22, 23, 24, 4, 25, 26, 27, 28, 29, 30, 31, 6, 11, 32, 33, 34, 35, 36, 37, 38, 39, 40, 41, 42, 43, 44, 45, 46, 47, 48, 49, 50, 51, 52, 53, 54, 55, 56, 57, 58, 59, 60, 61, 62, 63, 64, 69, 70, 71, 72, 73, 74, 75, 76, 77, 78, 79, 80, 81, 82, 83, 84, 85, 86, 87, 88, 89, 90, 91, 92, 93, 94, 95, 96, 97, 98, 99, 100, 101, 102, 103, 104, 105] (by decide +kernel) (by decide +kernel)
set_option maxRecDepth 20000 in
theorem gX9_turned_X9_isSo : GoodIn wsX9_turned (wsV RX9 283 RX9 yX9_isSo wsX9_isSo) := goodIn_app (goodIn_of _ (by decide +kernel)) ggX9_turned_X9_isSo
set_option maxRecDepth 20000 in
theorem ggX9_turned_X9_signBit : GoodIn wsX9_turned wsX9_signBit := goodIn_r _ [68, 6, 69, 70, 71, 72, 73, 74, 75, 76, 77, 78, 79, 80, 81, 82, 83, 84, 85, 86, 87, 88, 89, 90, 91, 92, 93, 94, 95, 96, 97, 98, 99, 100, 101, 102, 103, 104, 105] (by decide +kernel) (by decide +kernel)
set_option maxRecDepth 20000 in
theorem gX9_turned_X9_signBit : GoodIn wsX9_turned (wsV RX9 287 RX9 yX9_signBit wsX9_signBit) := goodIn_app (goodIn_of _ (by decide +kernel)) ggX9_turned_X9_signBit
theorem dX9_turned_0 : decode cX9_turned 0 = .ok (.iconst 0, 1) := by decide +kernel
theorem dX9_turned_1 : decode cX9_turned 1 = .ok (.istore_n 1, 1) := by decide +kernel
theorem dX9_turned_2 : decode cX9_turned 2 = .ok (.iconst 0, 1) := by decide +kernel
theorem dX9_turned_3 : decode cX9_turned 3 = .ok (.istore_n 2, 1) := by decide +kernel
theorem dX9_turned_4 : decode cX9_turned 4 = .ok (.iload_n 2, 1) := by decide +kernel
theorem dX9_turned_5 : decode cX9_turned 5 = .ok (.aload_n 0, 1) := by decide +kernel
theorem dX9_turned_6 : decode cX9_turned 6 = .ok (.invokevirtual 277, 3) := by decide +kernel
theorem dX9_turned_9 : decode cX9_turned 9 = .ok (.if_icmp .ge 33, 3) := by decide +kernel
theorem dX9_turned_12 : decode cX9_turned 12 = .ok (.aload_n 0, 1) := by decide +kernel
theorem dX9_turned_13 : decode cX9_turned 13 = .ok (.iload_n 2, 1) := by decide +kernel
theorem dX9_turned_14 : decode cX9_turned 14 = .ok (.invokevirtual 280, 3) := by decide +kernel
theorem dX9_turned_17 : decode cX9_turned 17 = .ok (.iload_n 1, 1) := by decide +kernel
theorem dX9_turned_18 : decode cX9_turned 18 = .ok (.aload_n 0, 1) := by decide +kernel
theorem dX9_turned_19 : decode cX9_turned 19 = .ok (.invokevirtual 283, 3) := by decide +kernel
theorem dX9_turned_22 : decode cX9_turned 22 = .ok (.ifCond .eq 11, 3) := by decide +kernel
theorem dX9_turned_25 : decode cX9_turned 25 = .ok (.aload_n 0, 1) := by decide +kernel
theorem dX9_turned_26 : decode cX9_turned 26 = .ok (.iload_n 2, 1) := by decide +kernel
theorem dX9_turned_27 : decode cX9_turned 27 = .ok (.invokevirtual 287, 3) := by decide +kernel
theorem dX9_turned_30 : decode cX9_turned 30 = .ok (.goto 4, 3) := by decide +kernel
theorem dX9_turned_33 : decode cX9_turned 33 = .ok (.iconst 0, 1) := by decide +kernel
theorem dX9_turned_34 : decode cX9_turned 34 = .ok (.ior, 1) := by decide +kernel
theorem dX9_turned_35 : decode cX9_turned 35 = .ok (.istore_n 1, 1) := by decide +kernel
theorem dX9_turned_36 : decode cX9_turned 36 = .ok (.iinc 2 1, 3) := by decide +kernel
theorem dX9_turned_39 : decode cX9_turned 39 = .ok (.goto (-35), 3) := by decide +kernel
theorem dX9_turned_42 : decode cX9_turned 42 = .ok (.iload_n 1, 1) := by decide +kernel
theorem dX9_turned_43 : decode cX9_turned 43 = .ok (.ireturn, 1) := by decide +kernel
set_option maxRecDepth 20000 in
theorem ggX9_laws_X9_isParty : GoodIn wsX9_laws wsX9_isParty := goodIn_r _ [6, 7, 8, 9, 5, 10, 67, 68, 69, 70, 71, 72, 73, 74, 75, 76, 77, 78, 79, 80, 81, 82, 83, 84, 85, 86, 87, 88, 89, 90, 91, 92, 93, 94, 95, 96, 97, 98, 99, 100, 101, 102, 103] (by decide +kernel) (by decide +kernel)
set_option maxRecDepth 20000 in
theorem gX9_laws_X9_isParty : GoodIn wsX9_laws (wsV RX9 215 RX9 yX9_isParty wsX9_isParty) := goodIn_app (goodIn_of _ (by decide +kernel)) ggX9_laws_X9_isParty
set_option maxRecDepth 20000 in
theorem ggX9_laws_X9_starts : GoodIn wsX9_laws wsX9_starts := goodIn_r _ [14, 1, 15, 67, 68, 69, 70, 71, 72, 73, 74, 75, 76, 77, 78, 79, 80, 81, 82, 83, 84, 85, 86, 87, 88, 89, 90, 91, 92, 93, 94, 95, 96, 97, 98, 99, 100, 101, 102, 103] (by decide +kernel) (by decide +kernel)
set_option maxRecDepth 20000 in
theorem gX9_laws_X9_starts : GoodIn wsX9_laws (wsV RX9 206 RX9 yX9_starts wsX9_starts) := goodIn_app (goodIn_of _ (by decide +kernel)) ggX9_laws_X9_starts
set_option maxRecDepth 20000 in
theorem ggX9_laws_X9_isSo : GoodIn wsX9_laws wsX9_isSo := goodIn_r _ [19, 15, 20, 21, 22, 23, 5, 24, 25, 26, 27, 28, 29, 30, 31, 1, 32, 33, 34, 35, 36, 37, 38, 39, 7, 40, 41, 42, 43, 44, 45, 46, 47, 48, 49, 50, 51, 52, 53, 54, 55, 56, 57, 58, 59, 60, 61, 62, 63, 67, 68, 69, 70, 71, 72, 73, 74, 75, 76, 77, 78, 79, 80, 81, 82, 83, 84, 85, 86, 87, 88, 89, 90, 91, 92, 93, 94, 95, 96, 97, 98, 99, 100, 101, 102, 103] (by decide +kernel) (by decide +kernel)
set_option maxRecDepth 20000 in
theorem gX9_laws_X9_isSo : GoodIn wsX9_laws (wsV RX9 283 RX9 yX9_isSo wsX9_isSo) := goodIn_app (goodIn_of _ (by decide +kernel)) ggX9_laws_X9_isSo
set_option maxRecDepth 20000 in
theorem ggX9_laws_X9_flag : GoodIn wsX9_laws wsX9_flag := goodIn_r _ [66] (by decide +kernel) (by decide +kernel)
set_option maxRecDepth 20000 in
theorem gX9_laws_X9_flag : GoodIn wsX9_laws (va_wsS RX9 193 yX9_flag wsX9_flag) := goodIn_app (goodIn_of _ (by decide +kernel)) ggX9_laws_X9_flag
theorem dX9_laws_0 : decode cX9_laws 0 = .ok (.aload_n 0, 1) := by decide +kernel
theorem dX9_laws_1 : decode cX9_laws 1 = .ok (.iload_n 1, 1) := by decide +kernel
theorem dX9_laws_2 : decode cX9_laws 2 = .ok (.invokevirtual 215, 3) := by decide +kernel
theorem dX9_laws_5 : decode cX9_laws 5 = .ok (.ifCond .ne 5, 3) := by decide +kernel
theorem dX9_laws_8 : decode cX9_laws 8 = .ok (.iconst (-1), 1) := by decide +kernel
theorem dX9_laws_9 : decode cX9_laws 9 = .ok (.ireturn, 1) := by decide +kernel
theorem dX9_laws_10 : decode cX9_laws 10 = .ok (.iconst 0, 1) := by decide +kernel
theorem dX9_laws_11 : decode cX9_laws 11 = .ok (.istore_n 2, 1) := by decide +kernel
theorem dX9_laws_12 : decode cX9_laws 12 = .ok (.aload_n 0, 1) := by decide +kernel
theorem dX9_laws_13 : decode cX9_laws 13 = .ok (.invokevirtual 206, 3) := by decide +kernel
theorem dX9_laws_16 : decode cX9_laws 16 = .ok (.iconst 0, 1) := by decide +kernel
theorem dX9_laws_17 : decode cX9_laws 17 = .ok (.istore_n 3, 1) := by decide +kernel
theorem dX9_laws_18 : decode cX9_laws 18 = .ok (.iload_n 3, 1) := by decide +kernel
theorem dX9_laws_19 : decode cX9_laws 19 = .ok (.iconst 4, 1) := by decide +kernel
theorem dX9_laws_20 : decode cX9_laws 20 = .ok (.if_icmp .ge 35, 3) := by decide +kernel
theorem dX9_laws_23 : decode cX9_laws 23 = .ok (.aload_n 0, 1) := by decide +kernel
theorem dX9_laws_24 : decode cX9_laws 24 = .ok (.getfield 13, 3) := by decide +kernel
theorem dX9_laws_27 : decode cX9_laws 27 = .ok (.bipush 24, 2) := by decide +kernel
theorem dX9_laws_29 : decode cX9_laws 29 = .ok (.iconst 5, 1) := by decide +kernel
theorem dX9_laws_30 : decode cX9_laws 30 = .ok (.iload_n 1, 1) := by decide +kernel
theorem dX9_laws_31 : decode cX9_laws 31 = .ok (.imul, 1) := by decide +kernel
theorem dX9_laws_32 : decode cX9_laws 32 = .ok (.iadd, 1) := by decide +kernel
theorem dX9_laws_33 : decode cX9_laws 33 = .ok (.iconst 3, 1) := by decide +kernel
theorem dX9_laws_34 : decode cX9_laws 34 = .ok (.iadd, 1) := by decide +kernel
theorem dX9_laws_35 : decode cX9_laws 35 = .ok (.iload_n 3, 1) := by decide +kernel
theorem dX9_laws_36 : decode cX9_laws 36 = .ok (.iastore, 1) := by decide +kernel
theorem dX9_laws_37 : decode cX9_laws 37 = .ok (.iload_n 2, 1) := by decide +kernel
theorem dX9_laws_38 : decode cX9_laws 38 = .ok (.aload_n 0, 1) := by decide +kernel
theorem dX9_laws_39 : decode cX9_laws 39 = .ok (.invokevirtual 283, 3) := by decide +kernel
theorem dX9_laws_42 : decode cX9_laws 42 = .ok (.invokestatic 193, 3) := by decide +kernel
theorem dX9_laws_45 : decode cX9_laws 45 = .ok (.iload_n 3, 1) := by decide +kernel
theorem dX9_laws_46 : decode cX9_laws 46 = .ok (.ishl, 1) := by decide +kernel
theorem dX9_laws_47 : decode cX9_laws 47 = .ok (.ior, 1) := by decide +kernel
theorem dX9_laws_48 : decode cX9_laws 48 = .ok (.istore_n 2, 1) := by decide +kernel
theorem dX9_laws_49 : decode cX9_laws 49 = .ok (.iinc 3 1, 3) := by decide +kernel
theorem dX9_laws_52 : decode cX9_laws 52 = .ok (.goto (-34), 3) := by decide +kernel
theorem dX9_laws_55 : decode cX9_laws 55 = .ok (.iload_n 2, 1) := by decide +kernel
theorem dX9_laws_56 : decode cX9_laws 56 = .ok (.ireturn, 1) := by decide +kernel
set_option maxRecDepth 20000 in
theorem ggX9_look_X9_isPart : GoodIn wsX9_look wsX9_isPart := goodIn_r _ [7, 8, 9, 6, 10] (by decide +kernel) (by decide +kernel)
set_option maxRecDepth 20000 in
theorem gX9_look_X9_isPart : GoodIn wsX9_look (va_wsS RX9 220 yX9_isPart wsX9_isPart) := goodIn_app (goodIn_of _ (by decide +kernel)) ggX9_look_X9_isPart
set_option maxRecDepth 20000 in
theorem ggX9_look_X9_signs : GoodIn wsX9_look wsX9_signs := goodIn_r _ [14, 15, 72, 73, 74, 75, 76, 77, 78, 79, 80, 81, 82, 83, 84, 85, 86, 87, 88, 89, 90, 91, 92, 93, 94, 95, 96, 97, 98, 99, 100, 101, 102, 103, 104, 105, 106, 107, 108] (by decide +kernel) (by decide +kernel)
set_option maxRecDepth 20000 in
theorem gX9_look_X9_signs : GoodIn wsX9_look (wsV RX9 277 RX9 yX9_signs wsX9_signs) := goodIn_app (goodIn_of _ (by decide +kernel)) ggX9_look_X9_signs
set_option maxRecDepth 20000 in
theorem ggX9_look_X9_startsTurned : GoodIn wsX9_look wsX9_startsTurned := goodIn_r _ [19, 15, 20, 21, 22, 23, 6, 24, 25, 72, 73, 74, 75, 76, 77, 78, 79, 80, 81, 82, 83, 84, 85, 86, 87, 88, 89, 90, 91, 92, 93, 94, 95, 96, 97, 98, 99, 100, 101, 102, 103, 104, 105, 106, 107, 108] (by decide +kernel) (by decide +kernel)
set_option maxRecDepth 20000 in
theorem gX9_look_X9_startsTurned : GoodIn wsX9_look (wsV RX9 280 RX9 yX9_startsTurned wsX9_startsTurned) := goodIn_app (goodIn_of _ (by decide +kernel)) ggX9_look_X9_startsTurned
set_option maxRecDepth 20000 in
theorem ggX9_look_X9_isSo : GoodIn wsX9_look wsX9_isSo := goodIn_r _ [29, 25, 3, 30, 31, 32, 6, 33, 34, 35, 36, 37, 38, 39, 15, 20, 40, 41, 42, 43, 44, 45, 46, 47, 2, 48, 49, 50, 51, 52, 53, 54, 55, 56, 57, 58, 59, 60, 61, 62, 63, 64, 65, 66, 67, 68, 69, 70, 71, 72, 73, 74, 75, 76, 77, 78, 79, 80, 81, 82, 83, 84, 85, 86, 87, 88, 89, 90, 91, 92, 93, 94, 95, 96, 97, 98, 99, 100, 101, 102, 103, 104, 105, 106, 107, 108] (by decide +kernel) (by decide +kernel)
set_option maxRecDepth 20000 in
theorem gX9_look_X9_isSo : GoodIn wsX9_look (wsV RX9 283 RX9 yX9_isSo wsX9_isSo) := goodIn_app (goodIn_of _ (by decide +kernel)) ggX9_look_X9_isSo
theorem dX9_look_0 : decode cX9_look 0 = .ok (.iload_n 1, 1) := by decide +kernel
theorem dX9_look_1 : decode cX9_look 1 = .ok (.invokestatic 220, 3) := by decide +kernel
theorem dX9_look_4 : decode cX9_look 4 = .ok (.ifCond .ne 5, 3) := by decide +kernel
theorem dX9_look_7 : decode cX9_look 7 = .ok (.iconst (-1), 1) := by decide +kernel
theorem dX9_look_8 : decode cX9_look 8 = .ok (.ireturn, 1) := by decide +kernel
theorem dX9_look_9 : decode cX9_look 9 = .ok (.iconst 0, 1) := by decide +kernel
theorem dX9_look_10 : decode cX9_look 10 = .ok (.istore_n 2, 1) := by decide +kernel
theorem dX9_look_11 : decode cX9_look 11 = .ok (.bipush (-4), 2) := by decide +kernel
theorem dX9_look_13 : decode cX9_look 13 = .ok (.istore_n 3, 1) := by decide +kernel
theorem dX9_look_14 : decode cX9_look 14 = .ok (.iconst 0, 1) := by decide +kernel
theorem dX9_look_15 : decode cX9_look 15 = .ok (.istore 4, 2) := by decide +kernel
theorem dX9_look_17 : decode cX9_look 17 = .ok (.iload 4, 2) := by decide +kernel
theorem dX9_look_19 : decode cX9_look 19 = .ok (.bipush 36, 2) := by decide +kernel
theorem dX9_look_21 : decode cX9_look 21 = .ok (.if_icmp .ge 17, 3) := by decide +kernel
theorem dX9_look_24 : decode cX9_look 24 = .ok (.aload_n 0, 1) := by decide +kernel
theorem dX9_look_25 : decode cX9_look 25 = .ok (.getfield 44, 3) := by decide +kernel
theorem dX9_look_28 : decode cX9_look 28 = .ok (.iload 4, 2) := by decide +kernel
theorem dX9_look_30 : decode cX9_look 30 = .ok (.iconst 0, 1) := by decide +kernel
theorem dX9_look_31 : decode cX9_look 31 = .ok (.iastore, 1) := by decide +kernel
theorem dX9_look_32 : decode cX9_look 32 = .ok (.iinc 4 1, 3) := by decide +kernel
theorem dX9_look_35 : decode cX9_look 35 = .ok (.goto (-18), 3) := by decide +kernel
theorem dX9_look_38 : decode cX9_look 38 = .ok (.iconst 0, 1) := by decide +kernel
theorem dX9_look_39 : decode cX9_look 39 = .ok (.istore 4, 2) := by decide +kernel
theorem dX9_look_41 : decode cX9_look 41 = .ok (.iload 4, 2) := by decide +kernel
theorem dX9_look_43 : decode cX9_look 43 = .ok (.aload_n 0, 1) := by decide +kernel
theorem dX9_look_44 : decode cX9_look 44 = .ok (.invokevirtual 277, 3) := by decide +kernel
theorem dX9_look_47 : decode cX9_look 47 = .ok (.if_icmp .ge 82, 3) := by decide +kernel
theorem dX9_look_50 : decode cX9_look 50 = .ok (.aload_n 0, 1) := by decide +kernel
theorem dX9_look_51 : decode cX9_look 51 = .ok (.iload 4, 2) := by decide +kernel
theorem dX9_look_53 : decode cX9_look 53 = .ok (.invokevirtual 280, 3) := by decide +kernel
theorem dX9_look_56 : decode cX9_look 56 = .ok (.aload_n 0, 1) := by decide +kernel
theorem dX9_look_57 : decode cX9_look 57 = .ok (.invokevirtual 283, 3) := by decide +kernel
theorem dX9_look_60 : decode cX9_look 60 = .ok (.ifCond .eq 63, 3) := by decide +kernel
theorem dX9_look_63 : decode cX9_look 63 = .ok (.iinc 2 1, 3) := by decide +kernel
theorem dX9_look_66 : decode cX9_look 66 = .ok (.iconst 0, 1) := by decide +kernel
theorem dX9_look_67 : decode cX9_look 67 = .ok (.istore 5, 2) := by decide +kernel
theorem dX9_look_69 : decode cX9_look 69 = .ok (.iload 5, 2) := by decide +kernel
theorem dX9_look_71 : decode cX9_look 71 = .ok (.aload_n 0, 1) := by decide +kernel
theorem dX9_look_72 : decode cX9_look 72 = .ok (.getfield 84, 3) := by decide +kernel
theorem dX9_look_75 : decode cX9_look 75 = .ok (.if_icmp .ge 48, 3) := by decide +kernel
theorem dX9_look_78 : decode cX9_look 78 = .ok (.aload_n 0, 1) := by decide +kernel
theorem dX9_look_79 : decode cX9_look 79 = .ok (.getfield 44, 3) := by decide +kernel
theorem dX9_look_82 : decode cX9_look 82 = .ok (.bipush 9, 2) := by decide +kernel
theorem dX9_look_84 : decode cX9_look 84 = .ok (.iload 5, 2) := by decide +kernel
theorem dX9_look_86 : decode cX9_look 86 = .ok (.imul, 1) := by decide +kernel
theorem dX9_look_87 : decode cX9_look 87 = .ok (.aload_n 0, 1) := by decide +kernel
theorem dX9_look_88 : decode cX9_look 88 = .ok (.getfield 26, 3) := by decide +kernel
theorem dX9_look_91 : decode cX9_look 91 = .ok (.iload 5, 2) := by decide +kernel
theorem dX9_look_93 : decode cX9_look 93 = .ok (.iaload, 1) := by decide +kernel
theorem dX9_look_94 : decode cX9_look 94 = .ok (.bipush (-4), 2) := by decide +kernel
theorem dX9_look_96 : decode cX9_look 96 = .ok (.if_icmp .ne 8, 3) := by decide +kernel
theorem dX9_look_99 : decode cX9_look 99 = .ok (.bipush 8, 2) := by decide +kernel
theorem dX9_look_101 : decode cX9_look 101 = .ok (.goto 10, 3) := by decide +kernel
theorem dX9_look_104 : decode cX9_look 104 = .ok (.aload_n 0, 1) := by decide +kernel
theorem dX9_look_105 : decode cX9_look 105 = .ok (.getfield 26, 3) := by decide +kernel
theorem dX9_look_108 : decode cX9_look 108 = .ok (.iload 5, 2) := by decide +kernel
theorem dX9_look_110 : decode cX9_look 110 = .ok (.iaload, 1) := by decide +kernel
theorem dX9_look_111 : decode cX9_look 111 = .ok (.iadd, 1) := by decide +kernel
theorem dX9_look_112 : decode cX9_look 112 = .ok (.dup2, 1) := by decide +kernel
theorem dX9_look_113 : decode cX9_look 113 = .ok (.iaload, 1) := by decide +kernel
theorem dX9_look_114 : decode cX9_look 114 = .ok (.iconst 1, 1) := by decide +kernel
theorem dX9_look_115 : decode cX9_look 115 = .ok (.iadd, 1) := by decide +kernel
theorem dX9_look_116 : decode cX9_look 116 = .ok (.iastore, 1) := by decide +kernel
theorem dX9_look_117 : decode cX9_look 117 = .ok (.iinc 5 1, 3) := by decide +kernel
theorem dX9_look_120 : decode cX9_look 120 = .ok (.goto (-51), 3) := by decide +kernel
theorem dX9_look_123 : decode cX9_look 123 = .ok (.iinc 4 1, 3) := by decide +kernel
theorem dX9_look_126 : decode cX9_look 126 = .ok (.goto (-85), 3) := by decide +kernel
theorem dX9_look_129 : decode cX9_look 129 = .ok (.iconst 0, 1) := by decide +kernel
theorem dX9_look_130 : decode cX9_look 130 = .ok (.istore 4, 2) := by decide +kernel
theorem dX9_look_132 : decode cX9_look 132 = .ok (.iload 4, 2) := by decide +kernel
theorem dX9_look_134 : decode cX9_look 134 = .ok (.aload_n 0, 1) := by decide +kernel
theorem dX9_look_135 : decode cX9_look 135 = .ok (.getfield 84, 3) := by decide +kernel
theorem dX9_look_138 : decode cX9_look 138 = .ok (.if_icmp .ge 92, 3) := by decide +kernel
theorem dX9_look_141 : decode cX9_look 141 = .ok (.iconst 0, 1) := by decide +kernel
theorem dX9_look_142 : decode cX9_look 142 = .ok (.istore 5, 2) := by decide +kernel
theorem dX9_look_144 : decode cX9_look 144 = .ok (.iconst 0, 1) := by decide +kernel
theorem dX9_look_145 : decode cX9_look 145 = .ok (.istore 6, 2) := by decide +kernel
theorem dX9_look_147 : decode cX9_look 147 = .ok (.iload 6, 2) := by decide +kernel
theorem dX9_look_149 : decode cX9_look 149 = .ok (.bipush 8, 2) := by decide +kernel
theorem dX9_look_151 : decode cX9_look 151 = .ok (.if_icmp .gt 47, 3) := by decide +kernel
theorem dX9_look_154 : decode cX9_look 154 = .ok (.aload_n 0, 1) := by decide +kernel
theorem dX9_look_155 : decode cX9_look 155 = .ok (.getfield 44, 3) := by decide +kernel
theorem dX9_look_158 : decode cX9_look 158 = .ok (.bipush 9, 2) := by decide +kernel
theorem dX9_look_160 : decode cX9_look 160 = .ok (.iload 4, 2) := by decide +kernel
theorem dX9_look_162 : decode cX9_look 162 = .ok (.imul, 1) := by decide +kernel
theorem dX9_look_163 : decode cX9_look 163 = .ok (.iload 6, 2) := by decide +kernel
theorem dX9_look_165 : decode cX9_look 165 = .ok (.iadd, 1) := by decide +kernel
theorem dX9_look_166 : decode cX9_look 166 = .ok (.iaload, 1) := by decide +kernel
theorem dX9_look_167 : decode cX9_look 167 = .ok (.iload 5, 2) := by decide +kernel
theorem dX9_look_169 : decode cX9_look 169 = .ok (.if_icmp .le 19, 3) := by decide +kernel
theorem dX9_look_172 : decode cX9_look 172 = .ok (.aload_n 0, 1) := by decide +kernel
theorem dX9_look_173 : decode cX9_look 173 = .ok (.getfield 44, 3) := by decide +kernel
theorem dX9_look_176 : decode cX9_look 176 = .ok (.bipush 9, 2) := by decide +kernel
theorem dX9_look_178 : decode cX9_look 178 = .ok (.iload 4, 2) := by decide +kernel
theorem dX9_look_180 : decode cX9_look 180 = .ok (.imul, 1) := by decide +kernel
theorem dX9_look_181 : decode cX9_look 181 = .ok (.iload 6, 2) := by decide +kernel
theorem dX9_look_183 : decode cX9_look 183 = .ok (.iadd, 1) := by decide +kernel
theorem dX9_look_184 : decode cX9_look 184 = .ok (.iaload, 1) := by decide +kernel
theorem dX9_look_185 : decode cX9_look 185 = .ok (.goto 5, 3) := by decide +kernel
theorem dX9_look_188 : decode cX9_look 188 = .ok (.iload 5, 2) := by decide +kernel
theorem dX9_look_190 : decode cX9_look 190 = .ok (.istore 5, 2) := by decide +kernel
theorem dX9_look_192 : decode cX9_look 192 = .ok (.iinc 6 1, 3) := by decide +kernel
theorem dX9_look_195 : decode cX9_look 195 = .ok (.goto (-48), 3) := by decide +kernel
theorem dX9_look_198 : decode cX9_look 198 = .ok (.iload 5, 2) := by decide +kernel
theorem dX9_look_200 : decode cX9_look 200 = .ok (.iload_n 2, 1) := by decide +kernel
theorem dX9_look_201 : decode cX9_look 201 = .ok (.if_icmp .ge 8, 3) := by decide +kernel
theorem dX9_look_204 : decode cX9_look 204 = .ok (.iload 4, 2) := by decide +kernel
theorem dX9_look_206 : decode cX9_look 206 = .ok (.goto 4, 3) := by decide +kernel
theorem dX9_look_209 : decode cX9_look 209 = .ok (.iload_n 3, 1) := by decide +kernel
theorem dX9_look_210 : decode cX9_look 210 = .ok (.istore_n 3, 1) := by decide +kernel
theorem dX9_look_211 : decode cX9_look 211 = .ok (.iload 5, 2) := by decide +kernel
theorem dX9_look_213 : decode cX9_look 213 = .ok (.iload_n 2, 1) := by decide +kernel
theorem dX9_look_214 : decode cX9_look 214 = .ok (.if_icmp .ge 8, 3) := by decide +kernel
theorem dX9_look_217 : decode cX9_look 217 = .ok (.iload 5, 2) := by decide +kernel
theorem dX9_look_219 : decode cX9_look 219 = .ok (.goto 4, 3) := by decide +kernel
theorem dX9_look_222 : decode cX9_look 222 = .ok (.iload_n 2, 1) := by decide +kernel
theorem dX9_look_223 : decode cX9_look 223 = .ok (.istore_n 2, 1) := by decide +kernel
theorem dX9_look_224 : decode cX9_look 224 = .ok (.iinc 4 1, 3) := by decide +kernel
theorem dX9_look_227 : decode cX9_look 227 = .ok (.goto (-95), 3) := by decide +kernel
theorem dX9_look_230 : decode cX9_look 230 = .ok (.iload_n 3, 1) := by decide +kernel
theorem dX9_look_231 : decode cX9_look 231 = .ok (.bipush (-4), 2) := by decide +kernel
theorem dX9_look_233 : decode cX9_look 233 = .ok (.if_icmp .ne 8, 3) := by decide +kernel
theorem dX9_look_236 : decode cX9_look 236 = .ok (.bipush (-4), 2) := by decide +kernel
theorem dX9_look_238 : decode cX9_look 238 = .ok (.goto 12, 3) := by decide +kernel
theorem dX9_look_241 : decode cX9_look 241 = .ok (.iload_n 1, 1) := by decide +kernel
theorem dX9_look_242 : decode cX9_look 242 = .ok (.ifCond .ne 7, 3) := by decide +kernel
theorem dX9_look_245 : decode cX9_look 245 = .ok (.iload_n 3, 1) := by decide +kernel
theorem dX9_look_246 : decode cX9_look 246 = .ok (.goto 4, 3) := by decide +kernel
theorem dX9_look_249 : decode cX9_look 249 = .ok (.iload_n 2, 1) := by decide +kernel
theorem dX9_look_250 : decode cX9_look 250 = .ok (.ireturn, 1) := by decide +kernel
set_option maxRecDepth 20000 in
theorem ggX9_drift_X9_in : GoodIn wsX9_drift wsX9_in := goodIn_r _ [9] (by decide +kernel) (by decide +kernel)
set_option maxRecDepth 20000 in
theorem gX9_drift_X9_in : GoodIn wsX9_drift (va_wsS RX9 89 yX9_in wsX9_in) := goodIn_app (goodIn_of _ (by decide +kernel)) ggX9_drift_X9_in
set_option maxRecDepth 20000 in
theorem ggX9_drift_X9_isPart : GoodIn wsX9_drift wsX9_isPart := goodIn_r _ [12, 6, 7, 8, 9] (by decide +kernel) (by decide +kernel)
set_option maxRecDepth 20000 in
theorem gX9_drift_X9_isPart : GoodIn wsX9_drift (va_wsS RX9 220 yX9_isPart wsX9_isPart) := goodIn_app (goodIn_of _ (by decide +kernel)) ggX9_drift_X9_isPart
set_option maxRecDepth 20000 in
theorem ggX9_drift_X9_starts : GoodIn wsX9_drift wsX9_starts := goodIn_r _ [16, 5, 17, 75, 76, 77, 78, 79, 80, 81, 82, 83, 84, 85, 86, 87, 88, 89, 90, 91, 92, 93, 94, 95, 96, 97, 98, 99, 100, 101, 102, 103, 104, 105, 106, 107, 108, 109, 110, 111] (by decide +kernel) (by decide +kernel)
set_option maxRecDepth 20000 in
theorem gX9_drift_X9_starts : GoodIn wsX9_drift (wsV RX9 206 RX9 yX9_starts wsX9_starts) := goodIn_app (goodIn_of _ (by decide +kernel)) ggX9_drift_X9_starts
set_option maxRecDepth 20000 in
theorem ggX9_drift_X9_howMany : GoodIn wsX9_drift wsX9_howMany := goodIn_r _ [21, 22, 23, 24, 8, 25, 26, 27, 28, 29, 30, 31, 32, 2, 5, 33, 34, 35, 36, 37, 38, 39, 40, 3, 41, 42, 43, 44, 45, 46, 47, 48, 49, 50, 51, 52, 53, 54, 55, 56, 57, 58, 59, 60, 61, 62, 63, 64, 65, 66, 67, 68, 69, 70, 71, 72, 73, 74, 75, 76, 77, 78, 79, 80, 81, 82, 83, 84, 85, 86, 87, 88, 89, 90, 91, 92, 93, 94, 95, 96, 97, 98, 99, 100, 101, 102, 103, 104, 105, 106, 107, 108, 109, 110, 111] (by decide +kernel) (by decide +kernel)
set_option maxRecDepth 20000 in
theorem gX9_drift_X9_howMany : GoodIn wsX9_drift (wsV RX9 233 RX9 yX9_howMany wsX9_howMany) := goodIn_app (goodIn_of _ (by decide +kernel)) ggX9_drift_X9_howMany
set_option maxRecDepth 20000 in
theorem ggX9_drift_X9_verdicts : GoodIn wsX9_drift wsX9_verdicts := goodIn_r _ [68, 3, 27, 69, 70, 8, 71, 75, 76, 77, 78, 79, 80, 81, 82, 83, 84, 85, 86, 87, 88, 89, 90, 91, 92, 93, 94, 95, 96, 97, 98, 99, 100, 101, 102, 103, 104, 105, 106, 107, 108, 109, 110, 111] (by decide +kernel) (by decide +kernel)
set_option maxRecDepth 20000 in
theorem gX9_drift_X9_verdicts : GoodIn wsX9_drift (wsV RX9 200 RX9 yX9_verdicts wsX9_verdicts) := goodIn_app (goodIn_of _ (by decide +kernel)) ggX9_drift_X9_verdicts
theorem dX9_drift_0 : decode cX9_drift 0 = .ok (.iload_n 2, 1) := by decide +kernel
theorem dX9_drift_1 : decode cX9_drift 1 = .ok (.i2l, 1) := by decide +kernel
theorem dX9_drift_2 : decode cX9_drift 2 = .ok (.lconst 1, 1) := by decide +kernel
theorem dX9_drift_3 : decode cX9_drift 3 = .ok (.ldc2_w 290, 3) := by decide +kernel
theorem dX9_drift_6 : decode cX9_drift 6 = .ok (.invokestatic 89, 3) := by decide +kernel
theorem dX9_drift_9 : decode cX9_drift 9 = .ok (.ifCond .eq 10, 3) := by decide +kernel
theorem dX9_drift_12 : decode cX9_drift 12 = .ok (.iload_n 3, 1) := by decide +kernel
theorem dX9_drift_13 : decode cX9_drift 13 = .ok (.invokestatic 220, 3) := by decide +kernel
theorem dX9_drift_16 : decode cX9_drift 16 = .ok (.ifCond .ne 5, 3) := by decide +kernel
theorem dX9_drift_19 : decode cX9_drift 19 = .ok (.iconst (-1), 1) := by decide +kernel
theorem dX9_drift_20 : decode cX9_drift 20 = .ok (.ireturn, 1) := by decide +kernel
theorem dX9_drift_21 : decode cX9_drift 21 = .ok (.aload_n 0, 1) := by decide +kernel
theorem dX9_drift_22 : decode cX9_drift 22 = .ok (.getfield 81, 3) := by decide +kernel
theorem dX9_drift_25 : decode cX9_drift 25 = .ok (.ifCond .eq 10, 3) := by decide +kernel
theorem dX9_drift_28 : decode cX9_drift 28 = .ok (.aload_n 0, 1) := by decide +kernel
theorem dX9_drift_29 : decode cX9_drift 29 = .ok (.getfield 84, 3) := by decide +kernel
theorem dX9_drift_32 : decode cX9_drift 32 = .ok (.ifCond .ne 6, 3) := by decide +kernel
theorem dX9_drift_35 : decode cX9_drift 35 = .ok (.bipush (-2), 2) := by decide +kernel
theorem dX9_drift_37 : decode cX9_drift 37 = .ok (.ireturn, 1) := by decide +kernel
theorem dX9_drift_38 : decode cX9_drift 38 = .ok (.iload_n 1, 1) := by decide +kernel
theorem dX9_drift_39 : decode cX9_drift 39 = .ok (.istore 4, 2) := by decide +kernel
theorem dX9_drift_41 : decode cX9_drift 41 = .ok (.iconst 0, 1) := by decide +kernel
theorem dX9_drift_42 : decode cX9_drift 42 = .ok (.istore 5, 2) := by decide +kernel
theorem dX9_drift_44 : decode cX9_drift 44 = .ok (.aload_n 0, 1) := by decide +kernel
theorem dX9_drift_45 : decode cX9_drift 45 = .ok (.invokevirtual 206, 3) := by decide +kernel
theorem dX9_drift_48 : decode cX9_drift 48 = .ok (.iconst 0, 1) := by decide +kernel
theorem dX9_drift_49 : decode cX9_drift 49 = .ok (.istore 6, 2) := by decide +kernel
theorem dX9_drift_51 : decode cX9_drift 51 = .ok (.iload 6, 2) := by decide +kernel
theorem dX9_drift_53 : decode cX9_drift 53 = .ok (.iload_n 2, 1) := by decide +kernel
theorem dX9_drift_54 : decode cX9_drift 54 = .ok (.if_icmp .ge 86, 3) := by decide +kernel
theorem dX9_drift_57 : decode cX9_drift 57 = .ok (.iload 4, 2) := by decide +kernel
theorem dX9_drift_59 : decode cX9_drift 59 = .ok (.ldc_w 292, 3) := by decide +kernel
theorem dX9_drift_62 : decode cX9_drift 62 = .ok (.imul, 1) := by decide +kernel
theorem dX9_drift_63 : decode cX9_drift 63 = .ok (.sipush 12345, 3) := by decide +kernel
theorem dX9_drift_66 : decode cX9_drift 66 = .ok (.iadd, 1) := by decide +kernel
theorem dX9_drift_67 : decode cX9_drift 67 = .ok (.istore 4, 2) := by decide +kernel
theorem dX9_drift_69 : decode cX9_drift 69 = .ok (.iload 4, 2) := by decide +kernel
theorem dX9_drift_71 : decode cX9_drift 71 = .ok (.bipush 16, 2) := by decide +kernel
theorem dX9_drift_73 : decode cX9_drift 73 = .ok (.ishr, 1) := by decide +kernel
theorem dX9_drift_74 : decode cX9_drift 74 = .ok (.sipush 32767, 3) := by decide +kernel
theorem dX9_drift_77 : decode cX9_drift 77 = .ok (.iand, 1) := by decide +kernel
theorem dX9_drift_78 : decode cX9_drift 78 = .ok (.aload_n 0, 1) := by decide +kernel
theorem dX9_drift_79 : decode cX9_drift 79 = .ok (.getfield 84, 3) := by decide +kernel
theorem dX9_drift_82 : decode cX9_drift 82 = .ok (.irem, 1) := by decide +kernel
theorem dX9_drift_83 : decode cX9_drift 83 = .ok (.istore 7, 2) := by decide +kernel
theorem dX9_drift_85 : decode cX9_drift 85 = .ok (.iload 4, 2) := by decide +kernel
theorem dX9_drift_87 : decode cX9_drift 87 = .ok (.ldc_w 292, 3) := by decide +kernel
theorem dX9_drift_90 : decode cX9_drift 90 = .ok (.imul, 1) := by decide +kernel
theorem dX9_drift_91 : decode cX9_drift 91 = .ok (.sipush 12345, 3) := by decide +kernel
theorem dX9_drift_94 : decode cX9_drift 94 = .ok (.iadd, 1) := by decide +kernel
theorem dX9_drift_95 : decode cX9_drift 95 = .ok (.istore 4, 2) := by decide +kernel
theorem dX9_drift_97 : decode cX9_drift 97 = .ok (.aload_n 0, 1) := by decide +kernel
theorem dX9_drift_98 : decode cX9_drift 98 = .ok (.getfield 13, 3) := by decide +kernel
theorem dX9_drift_101 : decode cX9_drift 101 = .ok (.bipush 24, 2) := by decide +kernel
theorem dX9_drift_103 : decode cX9_drift 103 = .ok (.iconst 5, 1) := by decide +kernel
theorem dX9_drift_104 : decode cX9_drift 104 = .ok (.iload 7, 2) := by decide +kernel
theorem dX9_drift_106 : decode cX9_drift 106 = .ok (.imul, 1) := by decide +kernel
theorem dX9_drift_107 : decode cX9_drift 107 = .ok (.iadd, 1) := by decide +kernel
theorem dX9_drift_108 : decode cX9_drift 108 = .ok (.iconst 4, 1) := by decide +kernel
theorem dX9_drift_109 : decode cX9_drift 109 = .ok (.iadd, 1) := by decide +kernel
theorem dX9_drift_110 : decode cX9_drift 110 = .ok (.iload 4, 2) := by decide +kernel
theorem dX9_drift_112 : decode cX9_drift 112 = .ok (.bipush 16, 2) := by decide +kernel
theorem dX9_drift_114 : decode cX9_drift 114 = .ok (.ishr, 1) := by decide +kernel
theorem dX9_drift_115 : decode cX9_drift 115 = .ok (.sipush 32767, 3) := by decide +kernel
theorem dX9_drift_118 : decode cX9_drift 118 = .ok (.iand, 1) := by decide +kernel
theorem dX9_drift_119 : decode cX9_drift 119 = .ok (.aload_n 0, 1) := by decide +kernel
theorem dX9_drift_120 : decode cX9_drift 120 = .ok (.getfield 81, 3) := by decide +kernel
theorem dX9_drift_123 : decode cX9_drift 123 = .ok (.irem, 1) := by decide +kernel
theorem dX9_drift_124 : decode cX9_drift 124 = .ok (.iastore, 1) := by decide +kernel
theorem dX9_drift_125 : decode cX9_drift 125 = .ok (.iload 5, 2) := by decide +kernel
theorem dX9_drift_127 : decode cX9_drift 127 = .ok (.aload_n 0, 1) := by decide +kernel
theorem dX9_drift_128 : decode cX9_drift 128 = .ok (.invokevirtual 233, 3) := by decide +kernel
theorem dX9_drift_131 : decode cX9_drift 131 = .ok (.iadd, 1) := by decide +kernel
theorem dX9_drift_132 : decode cX9_drift 132 = .ok (.istore 5, 2) := by decide +kernel
theorem dX9_drift_134 : decode cX9_drift 134 = .ok (.iinc 6 1, 3) := by decide +kernel
theorem dX9_drift_137 : decode cX9_drift 137 = .ok (.goto (-86), 3) := by decide +kernel
theorem dX9_drift_140 : decode cX9_drift 140 = .ok (.iload_n 3, 1) := by decide +kernel
theorem dX9_drift_141 : decode cX9_drift 141 = .ok (.ifCond .ne 8, 3) := by decide +kernel
theorem dX9_drift_144 : decode cX9_drift 144 = .ok (.iload 5, 2) := by decide +kernel
theorem dX9_drift_146 : decode cX9_drift 146 = .ok (.goto 7, 3) := by decide +kernel
theorem dX9_drift_149 : decode cX9_drift 149 = .ok (.aload_n 0, 1) := by decide +kernel
theorem dX9_drift_150 : decode cX9_drift 150 = .ok (.invokevirtual 200, 3) := by decide +kernel
theorem dX9_drift_153 : decode cX9_drift 153 = .ok (.ireturn, 1) := by decide +kernel
theorem dX9_copies_0 : decode cX9_copies 0 = .ok (.iconst 0, 1) := by decide +kernel
theorem dX9_copies_1 : decode cX9_copies 1 = .ok (.istore_n 3, 1) := by decide +kernel
theorem dX9_copies_2 : decode cX9_copies 2 = .ok (.iload_n 3, 1) := by decide +kernel
theorem dX9_copies_3 : decode cX9_copies 3 = .ok (.bipush 59, 2) := by decide +kernel
theorem dX9_copies_5 : decode cX9_copies 5 = .ok (.if_icmp .ge 25, 3) := by decide +kernel
theorem dX9_copies_8 : decode cX9_copies 8 = .ok (.aload_n 0, 1) := by decide +kernel
theorem dX9_copies_9 : decode cX9_copies 9 = .ok (.getfield 7, 3) := by decide +kernel
theorem dX9_copies_12 : decode cX9_copies 12 = .ok (.iload_n 1, 1) := by decide +kernel
theorem dX9_copies_13 : decode cX9_copies 13 = .ok (.iload_n 3, 1) := by decide +kernel
theorem dX9_copies_14 : decode cX9_copies 14 = .ok (.iadd, 1) := by decide +kernel
theorem dX9_copies_15 : decode cX9_copies 15 = .ok (.aload_n 0, 1) := by decide +kernel
theorem dX9_copies_16 : decode cX9_copies 16 = .ok (.getfield 7, 3) := by decide +kernel
theorem dX9_copies_19 : decode cX9_copies 19 = .ok (.iload_n 2, 1) := by decide +kernel
theorem dX9_copies_20 : decode cX9_copies 20 = .ok (.iload_n 3, 1) := by decide +kernel
theorem dX9_copies_21 : decode cX9_copies 21 = .ok (.iadd, 1) := by decide +kernel
theorem dX9_copies_22 : decode cX9_copies 22 = .ok (.iaload, 1) := by decide +kernel
theorem dX9_copies_23 : decode cX9_copies 23 = .ok (.iastore, 1) := by decide +kernel
theorem dX9_copies_24 : decode cX9_copies 24 = .ok (.iinc 3 1, 3) := by decide +kernel
theorem dX9_copies_27 : decode cX9_copies 27 = .ok (.goto (-25), 3) := by decide +kernel
theorem dX9_copies_30 : decode cX9_copies 30 = .ok (.return_, 1) := by decide +kernel
set_option maxRecDepth 20000 in
theorem ggX9_keep_X9_in : GoodIn wsX9_keep wsX9_in := goodIn_r _ [5] (by decide +kernel) (by decide +kernel)
set_option maxRecDepth 20000 in
theorem gX9_keep_X9_in : GoodIn wsX9_keep (va_wsS RX9 89 yX9_in wsX9_in) := goodIn_app (goodIn_of _ (by decide +kernel)) ggX9_keep_X9_in
set_option maxRecDepth 20000 in
theorem ggX9_keep_X9_flag : GoodIn wsX9_keep wsX9_flag := goodIn_r _ [8] (by decide +kernel) (by decide +kernel)
set_option maxRecDepth 20000 in
theorem gX9_keep_X9_flag : GoodIn wsX9_keep (va_wsS RX9 193 yX9_flag wsX9_flag) := goodIn_app (goodIn_of _ (by decide +kernel)) ggX9_keep_X9_flag
set_option maxRecDepth 20000 in
theorem ggX9_keep_X9_copies : GoodIn wsX9_keep wsX9_copies := goodIn_r _ [12, 13, 14, 15, 16, 17, 18, 19, 20, 21, 22, 23, 24, 25, 26, 27, 28, 29, 30, 31, 32, 33, 34, 35, 36, 37, 38, 39, 40, 41, 42, 43, 44, 45, 46, 47, 48, 49, 50] (by decide +kernel) (by decide +kernel)
set_option maxRecDepth 20000 in
theorem gX9_keep_X9_copies : GoodIn wsX9_keep (wsV RX9 293 RX9 yX9_copies wsX9_copies) := goodIn_app (goodIn_of _ (by decide +kernel)) ggX9_keep_X9_copies
theorem dX9_keep_0 : decode cX9_keep 0 = .ok (.iload_n 1, 1) := by decide +kernel
theorem dX9_keep_1 : decode cX9_keep 1 = .ok (.i2l, 1) := by decide +kernel
theorem dX9_keep_2 : decode cX9_keep 2 = .ok (.lconst 0, 1) := by decide +kernel
theorem dX9_keep_3 : decode cX9_keep 3 = .ok (.lconst 1, 1) := by decide +kernel
theorem dX9_keep_4 : decode cX9_keep 4 = .ok (.invokestatic 89, 3) := by decide +kernel
theorem dX9_keep_7 : decode cX9_keep 7 = .ok (.ifCond .ne 5, 3) := by decide +kernel
theorem dX9_keep_10 : decode cX9_keep 10 = .ok (.iconst (-1), 1) := by decide +kernel
theorem dX9_keep_11 : decode cX9_keep 11 = .ok (.ireturn, 1) := by decide +kernel
theorem dX9_keep_12 : decode cX9_keep 12 = .ok (.aload_n 0, 1) := by decide +kernel
theorem dX9_keep_13 : decode cX9_keep 13 = .ok (.getfield 16, 3) := by decide +kernel
theorem dX9_keep_16 : decode cX9_keep 16 = .ok (.iload_n 1, 1) := by decide +kernel
theorem dX9_keep_17 : decode cX9_keep 17 = .ok (.baload, 1) := by decide +kernel
theorem dX9_keep_18 : decode cX9_keep 18 = .ok (.invokestatic 193, 3) := by decide +kernel
theorem dX9_keep_21 : decode cX9_keep 21 = .ok (.istore_n 2, 1) := by decide +kernel
theorem dX9_keep_22 : decode cX9_keep 22 = .ok (.aload_n 0, 1) := by decide +kernel
theorem dX9_keep_23 : decode cX9_keep 23 = .ok (.getfield 16, 3) := by decide +kernel
theorem dX9_keep_26 : decode cX9_keep 26 = .ok (.iload_n 1, 1) := by decide +kernel
theorem dX9_keep_27 : decode cX9_keep 27 = .ok (.iconst 1, 1) := by decide +kernel
theorem dX9_keep_28 : decode cX9_keep 28 = .ok (.bastore, 1) := by decide +kernel
theorem dX9_keep_29 : decode cX9_keep 29 = .ok (.aload_n 0, 1) := by decide +kernel
theorem dX9_keep_30 : decode cX9_keep 30 = .ok (.bipush 59, 2) := by decide +kernel
theorem dX9_keep_32 : decode cX9_keep 32 = .ok (.iload_n 1, 1) := by decide +kernel
theorem dX9_keep_33 : decode cX9_keep 33 = .ok (.iconst 1, 1) := by decide +kernel
theorem dX9_keep_34 : decode cX9_keep 34 = .ok (.iadd, 1) := by decide +kernel
theorem dX9_keep_35 : decode cX9_keep 35 = .ok (.imul, 1) := by decide +kernel
theorem dX9_keep_36 : decode cX9_keep 36 = .ok (.iconst 0, 1) := by decide +kernel
theorem dX9_keep_37 : decode cX9_keep 37 = .ok (.invokevirtual 293, 3) := by decide +kernel
theorem dX9_keep_40 : decode cX9_keep 40 = .ok (.iload_n 2, 1) := by decide +kernel
theorem dX9_keep_41 : decode cX9_keep 41 = .ok (.ireturn, 1) := by decide +kernel
set_option maxRecDepth 20000 in
theorem ggX9_back_X9_in : GoodIn wsX9_back wsX9_in := goodIn_r _ [5] (by decide +kernel) (by decide +kernel)
set_option maxRecDepth 20000 in
theorem gX9_back_X9_in : GoodIn wsX9_back (va_wsS RX9 89 yX9_in wsX9_in) := goodIn_app (goodIn_of _ (by decide +kernel)) ggX9_back_X9_in
set_option maxRecDepth 20000 in
theorem ggX9_back_X9_copies : GoodIn wsX9_back wsX9_copies := goodIn_r _ [9, 10, 75, 76, 77, 78, 79, 80, 81, 82, 83, 84, 85, 86, 87, 88, 89, 90, 91, 92, 93, 94, 95, 96, 97, 98, 99, 100, 101, 102, 103, 104, 105, 106, 107, 108, 109, 110, 111] (by decide +kernel) (by decide +kernel)
set_option maxRecDepth 20000 in
theorem gX9_back_X9_copies : GoodIn wsX9_back (wsV RX9 293 RX9 yX9_copies wsX9_copies) := goodIn_app (goodIn_of _ (by decide +kernel)) ggX9_back_X9_copies
set_option maxRecDepth 20000 in
theorem ggX9_back_X9_starts : GoodIn wsX9_back wsX9_starts := goodIn_r _ [14, 15, 10, 75, 76, 77, 78, 79, 80, 81, 82, 83, 84, 85, 86, 87, 88, 89, 90, 91, 92, 93, 94, 95, 96, 97, 98, 99, 100, 101, 102, 103, 104, 105, 106, 107, 108, 109, 110, 111] (by decide +kernel) (by decide +kernel)
set_option maxRecDepth 20000 in
theorem gX9_back_X9_starts : GoodIn wsX9_back (wsV RX9 206 RX9 yX9_starts wsX9_starts) := goodIn_app (goodIn_of _ (by decide +kernel)) ggX9_back_X9_starts
set_option maxRecDepth 20000 in
theorem ggX9_back_X9_howMany : GoodIn wsX9_back wsX9_howMany := goodIn_r _ [19, 20, 21, 22, 4, 23, 24, 25, 26, 27, 28, 29, 30, 31, 15, 32, 33, 34, 35, 36, 37, 38, 39, 40, 41, 42, 43, 44, 45, 46, 47, 48, 49, 50, 51, 52, 53, 54, 55, 56, 57, 58, 59, 60, 61, 62, 63, 64, 65, 66, 67, 68, 69, 70, 71, 72, 73, 74, 75, 76, 77, 78, 79, 80, 81, 82, 83, 84, 85, 86, 87, 88, 89, 90, 91, 92, 93, 94, 95, 96, 97, 98, 99, 100, 101, 102, 103, 104, 105, 106, 107, 108, 109, 110, 111] (by decide +kernel) (by decide +kernel)
set_option maxRecDepth 20000 in
theorem gX9_back_X9_howMany : GoodIn wsX9_back (wsV RX9 233 RX9 yX9_howMany wsX9_howMany) := goodIn_app (goodIn_of _ (by decide +kernel)) ggX9_back_X9_howMany
theorem dX9_back_0 : decode cX9_back 0 = .ok (.iload_n 1, 1) := by decide +kernel
theorem dX9_back_1 : decode cX9_back 1 = .ok (.i2l, 1) := by decide +kernel
theorem dX9_back_2 : decode cX9_back 2 = .ok (.lconst 0, 1) := by decide +kernel
theorem dX9_back_3 : decode cX9_back 3 = .ok (.lconst 1, 1) := by decide +kernel
theorem dX9_back_4 : decode cX9_back 4 = .ok (.invokestatic 89, 3) := by decide +kernel
theorem dX9_back_7 : decode cX9_back 7 = .ok (.ifCond .ne 5, 3) := by decide +kernel
theorem dX9_back_10 : decode cX9_back 10 = .ok (.iconst (-1), 1) := by decide +kernel
theorem dX9_back_11 : decode cX9_back 11 = .ok (.ireturn, 1) := by decide +kernel
theorem dX9_back_12 : decode cX9_back 12 = .ok (.aload_n 0, 1) := by decide +kernel
theorem dX9_back_13 : decode cX9_back 13 = .ok (.getfield 16, 3) := by decide +kernel
theorem dX9_back_16 : decode cX9_back 16 = .ok (.iload_n 1, 1) := by decide +kernel
theorem dX9_back_17 : decode cX9_back 17 = .ok (.baload, 1) := by decide +kernel
theorem dX9_back_18 : decode cX9_back 18 = .ok (.ifCond .ne 6, 3) := by decide +kernel
theorem dX9_back_21 : decode cX9_back 21 = .ok (.bipush (-2), 2) := by decide +kernel
theorem dX9_back_23 : decode cX9_back 23 = .ok (.ireturn, 1) := by decide +kernel
theorem dX9_back_24 : decode cX9_back 24 = .ok (.aload_n 0, 1) := by decide +kernel
theorem dX9_back_25 : decode cX9_back 25 = .ok (.iconst 0, 1) := by decide +kernel
theorem dX9_back_26 : decode cX9_back 26 = .ok (.bipush 59, 2) := by decide +kernel
theorem dX9_back_28 : decode cX9_back 28 = .ok (.iload_n 1, 1) := by decide +kernel
theorem dX9_back_29 : decode cX9_back 29 = .ok (.iconst 1, 1) := by decide +kernel
theorem dX9_back_30 : decode cX9_back 30 = .ok (.iadd, 1) := by decide +kernel
theorem dX9_back_31 : decode cX9_back 31 = .ok (.imul, 1) := by decide +kernel
theorem dX9_back_32 : decode cX9_back 32 = .ok (.invokevirtual 293, 3) := by decide +kernel
theorem dX9_back_35 : decode cX9_back 35 = .ok (.aload_n 0, 1) := by decide +kernel
theorem dX9_back_36 : decode cX9_back 36 = .ok (.invokevirtual 206, 3) := by decide +kernel
theorem dX9_back_39 : decode cX9_back 39 = .ok (.aload_n 0, 1) := by decide +kernel
theorem dX9_back_40 : decode cX9_back 40 = .ok (.invokevirtual 233, 3) := by decide +kernel
theorem dX9_back_43 : decode cX9_back 43 = .ok (.ireturn, 1) := by decide +kernel
set_option maxRecDepth 20000 in
theorem ggX9_isSheet_X9_in : GoodIn wsX9_isSheet wsX9_in := goodIn_r _ [6] (by decide +kernel) (by decide +kernel)
set_option maxRecDepth 20000 in
theorem gX9_isSheet_X9_in : GoodIn wsX9_isSheet (va_wsS RX9 89 yX9_in wsX9_in) := goodIn_app (goodIn_of _ (by decide +kernel)) ggX9_isSheet_X9_in
theorem dX9_isSheet_0 : decode cX9_isSheet 0 = .ok (.iload_n 0, 1) := by decide +kernel
theorem dX9_isSheet_1 : decode cX9_isSheet 1 = .ok (.i2l, 1) := by decide +kernel
theorem dX9_isSheet_2 : decode cX9_isSheet 2 = .ok (.lconst 0, 1) := by decide +kernel
theorem dX9_isSheet_3 : decode cX9_isSheet 3 = .ok (.ldc2_w 218, 3) := by decide +kernel
theorem dX9_isSheet_6 : decode cX9_isSheet 6 = .ok (.invokestatic 89, 3) := by decide +kernel
theorem dX9_isSheet_9 : decode cX9_isSheet 9 = .ok (.ifCond .eq 19, 3) := by decide +kernel
theorem dX9_isSheet_12 : decode cX9_isSheet 12 = .ok (.iload_n 1, 1) := by decide +kernel
theorem dX9_isSheet_13 : decode cX9_isSheet 13 = .ok (.i2l, 1) := by decide +kernel
theorem dX9_isSheet_14 : decode cX9_isSheet 14 = .ok (.lconst 0, 1) := by decide +kernel
theorem dX9_isSheet_15 : decode cX9_isSheet 15 = .ok (.ldc2_w 296, 3) := by decide +kernel
theorem dX9_isSheet_18 : decode cX9_isSheet 18 = .ok (.invokestatic 89, 3) := by decide +kernel
theorem dX9_isSheet_21 : decode cX9_isSheet 21 = .ok (.ifCond .eq 7, 3) := by decide +kernel
theorem dX9_isSheet_24 : decode cX9_isSheet 24 = .ok (.iconst 1, 1) := by decide +kernel
theorem dX9_isSheet_25 : decode cX9_isSheet 25 = .ok (.goto 4, 3) := by decide +kernel
theorem dX9_isSheet_28 : decode cX9_isSheet 28 = .ok (.iconst 0, 1) := by decide +kernel
theorem dX9_isSheet_29 : decode cX9_isSheet 29 = .ok (.ireturn, 1) := by decide +kernel
set_option maxRecDepth 20000 in
theorem ggX9_sheet_X9_isSheet : GoodIn wsX9_sheet wsX9_isSheet := goodIn_r _ [7, 8, 9, 10, 11, 6, 12] (by decide +kernel) (by decide +kernel)
set_option maxRecDepth 20000 in
theorem gX9_sheet_X9_isSheet : GoodIn wsX9_sheet (va_wsS RX9 298 yX9_isSheet wsX9_isSheet) := goodIn_app (goodIn_of _ (by decide +kernel)) ggX9_sheet_X9_isSheet
theorem dX9_sheet_0 : decode cX9_sheet 0 = .ok (.iload_n 1, 1) := by decide +kernel
theorem dX9_sheet_1 : decode cX9_sheet 1 = .ok (.iload_n 2, 1) := by decide +kernel
theorem dX9_sheet_2 : decode cX9_sheet 2 = .ok (.invokestatic 298, 3) := by decide +kernel
theorem dX9_sheet_5 : decode cX9_sheet 5 = .ok (.ifCond .eq 9, 3) := by decide +kernel
theorem dX9_sheet_8 : decode cX9_sheet 8 = .ok (.iload_n 3, 1) := by decide +kernel
theorem dX9_sheet_9 : decode cX9_sheet 9 = .ok (.bipush 40, 2) := by decide +kernel
theorem dX9_sheet_11 : decode cX9_sheet 11 = .ok (.if_icmp .le 5, 3) := by decide +kernel
theorem dX9_sheet_14 : decode cX9_sheet 14 = .ok (.iconst (-1), 1) := by decide +kernel
theorem dX9_sheet_15 : decode cX9_sheet 15 = .ok (.ireturn, 1) := by decide +kernel
theorem dX9_sheet_16 : decode cX9_sheet 16 = .ok (.iload_n 3, 1) := by decide +kernel
theorem dX9_sheet_17 : decode cX9_sheet 17 = .ok (.ifCond .ge 6, 3) := by decide +kernel
theorem dX9_sheet_20 : decode cX9_sheet 20 = .ok (.bipush (-14), 2) := by decide +kernel
theorem dX9_sheet_22 : decode cX9_sheet 22 = .ok (.ireturn, 1) := by decide +kernel
theorem dX9_sheet_23 : decode cX9_sheet 23 = .ok (.aload_n 0, 1) := by decide +kernel
theorem dX9_sheet_24 : decode cX9_sheet 24 = .ok (.getfield 47, 3) := by decide +kernel
theorem dX9_sheet_27 : decode cX9_sheet 27 = .ok (.iload_n 1, 1) := by decide +kernel
theorem dX9_sheet_28 : decode cX9_sheet 28 = .ok (.iload_n 2, 1) := by decide +kernel
theorem dX9_sheet_29 : decode cX9_sheet 29 = .ok (.iastore, 1) := by decide +kernel
theorem dX9_sheet_30 : decode cX9_sheet 30 = .ok (.aload_n 0, 1) := by decide +kernel
theorem dX9_sheet_31 : decode cX9_sheet 31 = .ok (.getfield 50, 3) := by decide +kernel
theorem dX9_sheet_34 : decode cX9_sheet 34 = .ok (.iload_n 1, 1) := by decide +kernel
theorem dX9_sheet_35 : decode cX9_sheet 35 = .ok (.iload_n 3, 1) := by decide +kernel
theorem dX9_sheet_36 : decode cX9_sheet 36 = .ok (.iastore, 1) := by decide +kernel
theorem dX9_sheet_37 : decode cX9_sheet 37 = .ok (.iconst 0, 1) := by decide +kernel
theorem dX9_sheet_38 : decode cX9_sheet 38 = .ok (.istore 4, 2) := by decide +kernel
theorem dX9_sheet_40 : decode cX9_sheet 40 = .ok (.iload 4, 2) := by decide +kernel
theorem dX9_sheet_42 : decode cX9_sheet 42 = .ok (.bipush 40, 2) := by decide +kernel
theorem dX9_sheet_44 : decode cX9_sheet 44 = .ok (.if_icmp .ge 22, 3) := by decide +kernel
theorem dX9_sheet_47 : decode cX9_sheet 47 = .ok (.aload_n 0, 1) := by decide +kernel
theorem dX9_sheet_48 : decode cX9_sheet 48 = .ok (.getfield 53, 3) := by decide +kernel
theorem dX9_sheet_51 : decode cX9_sheet 51 = .ok (.bipush 40, 2) := by decide +kernel
theorem dX9_sheet_53 : decode cX9_sheet 53 = .ok (.iload_n 1, 1) := by decide +kernel
theorem dX9_sheet_54 : decode cX9_sheet 54 = .ok (.imul, 1) := by decide +kernel
theorem dX9_sheet_55 : decode cX9_sheet 55 = .ok (.iload 4, 2) := by decide +kernel
theorem dX9_sheet_57 : decode cX9_sheet 57 = .ok (.iadd, 1) := by decide +kernel
theorem dX9_sheet_58 : decode cX9_sheet 58 = .ok (.iconst 0, 1) := by decide +kernel
theorem dX9_sheet_59 : decode cX9_sheet 59 = .ok (.iastore, 1) := by decide +kernel
theorem dX9_sheet_60 : decode cX9_sheet 60 = .ok (.iinc 4 1, 3) := by decide +kernel
theorem dX9_sheet_63 : decode cX9_sheet 63 = .ok (.goto (-23), 3) := by decide +kernel
theorem dX9_sheet_66 : decode cX9_sheet 66 = .ok (.iconst 1, 1) := by decide +kernel
theorem dX9_sheet_67 : decode cX9_sheet 67 = .ok (.ireturn, 1) := by decide +kernel
set_option maxRecDepth 20000 in
theorem ggX9_lay_X9_isSheet : GoodIn wsX9_lay wsX9_isSheet := goodIn_r _ [7, 8, 9, 10, 11, 6, 12] (by decide +kernel) (by decide +kernel)
set_option maxRecDepth 20000 in
theorem gX9_lay_X9_isSheet : GoodIn wsX9_lay (va_wsS RX9 298 yX9_isSheet wsX9_isSheet) := goodIn_app (goodIn_of _ (by decide +kernel)) ggX9_lay_X9_isSheet
set_option maxRecDepth 20000 in
theorem ggX9_lay_X9_in : GoodIn wsX9_lay wsX9_in := goodIn_r _ [12] (by decide +kernel) (by decide +kernel)
set_option maxRecDepth 20000 in
theorem gX9_lay_X9_in : GoodIn wsX9_lay (va_wsS RX9 89 yX9_in wsX9_in) := goodIn_app (goodIn_of _ (by decide +kernel)) ggX9_lay_X9_in
theorem dX9_lay_0 : decode cX9_lay 0 = .ok (.iload_n 1, 1) := by decide +kernel
theorem dX9_lay_1 : decode cX9_lay 1 = .ok (.iconst 0, 1) := by decide +kernel
theorem dX9_lay_2 : decode cX9_lay 2 = .ok (.invokestatic 298, 3) := by decide +kernel
theorem dX9_lay_5 : decode cX9_lay 5 = .ok (.ifCond .ne 5, 3) := by decide +kernel
theorem dX9_lay_8 : decode cX9_lay 8 = .ok (.iconst (-1), 1) := by decide +kernel
theorem dX9_lay_9 : decode cX9_lay 9 = .ok (.ireturn, 1) := by decide +kernel
theorem dX9_lay_10 : decode cX9_lay 10 = .ok (.aload_n 0, 1) := by decide +kernel
theorem dX9_lay_11 : decode cX9_lay 11 = .ok (.getfield 47, 3) := by decide +kernel
theorem dX9_lay_14 : decode cX9_lay 14 = .ok (.iload_n 1, 1) := by decide +kernel
theorem dX9_lay_15 : decode cX9_lay 15 = .ok (.iaload, 1) := by decide +kernel
theorem dX9_lay_16 : decode cX9_lay 16 = .ok (.bipush (-4), 2) := by decide +kernel
theorem dX9_lay_18 : decode cX9_lay 18 = .ok (.if_icmp .ne 6, 3) := by decide +kernel
theorem dX9_lay_21 : decode cX9_lay 21 = .ok (.bipush (-11), 2) := by decide +kernel
theorem dX9_lay_23 : decode cX9_lay 23 = .ok (.ireturn, 1) := by decide +kernel
theorem dX9_lay_24 : decode cX9_lay 24 = .ok (.iload_n 2, 1) := by decide +kernel
theorem dX9_lay_25 : decode cX9_lay 25 = .ok (.i2l, 1) := by decide +kernel
theorem dX9_lay_26 : decode cX9_lay 26 = .ok (.lconst 0, 1) := by decide +kernel
theorem dX9_lay_27 : decode cX9_lay 27 = .ok (.aload_n 0, 1) := by decide +kernel
theorem dX9_lay_28 : decode cX9_lay 28 = .ok (.getfield 50, 3) := by decide +kernel
theorem dX9_lay_31 : decode cX9_lay 31 = .ok (.iload_n 1, 1) := by decide +kernel
theorem dX9_lay_32 : decode cX9_lay 32 = .ok (.iaload, 1) := by decide +kernel
theorem dX9_lay_33 : decode cX9_lay 33 = .ok (.iconst 1, 1) := by decide +kernel
theorem dX9_lay_34 : decode cX9_lay 34 = .ok (.isub, 1) := by decide +kernel
theorem dX9_lay_35 : decode cX9_lay 35 = .ok (.i2l, 1) := by decide +kernel
theorem dX9_lay_36 : decode cX9_lay 36 = .ok (.invokestatic 89, 3) := by decide +kernel
theorem dX9_lay_39 : decode cX9_lay 39 = .ok (.ifCond .ne 6, 3) := by decide +kernel
theorem dX9_lay_42 : decode cX9_lay 42 = .ok (.bipush (-12), 2) := by decide +kernel
theorem dX9_lay_44 : decode cX9_lay 44 = .ok (.ireturn, 1) := by decide +kernel
theorem dX9_lay_45 : decode cX9_lay 45 = .ok (.aload_n 0, 1) := by decide +kernel
theorem dX9_lay_46 : decode cX9_lay 46 = .ok (.getfield 53, 3) := by decide +kernel
theorem dX9_lay_49 : decode cX9_lay 49 = .ok (.bipush 40, 2) := by decide +kernel
theorem dX9_lay_51 : decode cX9_lay 51 = .ok (.iload_n 1, 1) := by decide +kernel
theorem dX9_lay_52 : decode cX9_lay 52 = .ok (.imul, 1) := by decide +kernel
theorem dX9_lay_53 : decode cX9_lay 53 = .ok (.iload_n 2, 1) := by decide +kernel
theorem dX9_lay_54 : decode cX9_lay 54 = .ok (.iadd, 1) := by decide +kernel
theorem dX9_lay_55 : decode cX9_lay 55 = .ok (.aload_n 0, 1) := by decide +kernel
theorem dX9_lay_56 : decode cX9_lay 56 = .ok (.getfield 47, 3) := by decide +kernel
theorem dX9_lay_59 : decode cX9_lay 59 = .ok (.iload_n 1, 1) := by decide +kernel
theorem dX9_lay_60 : decode cX9_lay 60 = .ok (.iaload, 1) := by decide +kernel
theorem dX9_lay_61 : decode cX9_lay 61 = .ok (.ifCond .ne 8, 3) := by decide +kernel
theorem dX9_lay_64 : decode cX9_lay 64 = .ok (.iload_n 3, 1) := by decide +kernel
theorem dX9_lay_65 : decode cX9_lay 65 = .ok (.i2b, 1) := by decide +kernel
theorem dX9_lay_66 : decode cX9_lay 66 = .ok (.goto 19, 3) := by decide +kernel
theorem dX9_lay_69 : decode cX9_lay 69 = .ok (.aload_n 0, 1) := by decide +kernel
theorem dX9_lay_70 : decode cX9_lay 70 = .ok (.getfield 47, 3) := by decide +kernel
theorem dX9_lay_73 : decode cX9_lay 73 = .ok (.iload_n 1, 1) := by decide +kernel
theorem dX9_lay_74 : decode cX9_lay 74 = .ok (.iaload, 1) := by decide +kernel
theorem dX9_lay_75 : decode cX9_lay 75 = .ok (.iconst 1, 1) := by decide +kernel
theorem dX9_lay_76 : decode cX9_lay 76 = .ok (.if_icmp .ne 8, 3) := by decide +kernel
theorem dX9_lay_79 : decode cX9_lay 79 = .ok (.iload_n 3, 1) := by decide +kernel
theorem dX9_lay_80 : decode cX9_lay 80 = .ok (.i2s, 1) := by decide +kernel
theorem dX9_lay_81 : decode cX9_lay 81 = .ok (.goto 4, 3) := by decide +kernel
theorem dX9_lay_84 : decode cX9_lay 84 = .ok (.iload_n 3, 1) := by decide +kernel
theorem dX9_lay_85 : decode cX9_lay 85 = .ok (.iastore, 1) := by decide +kernel
theorem dX9_lay_86 : decode cX9_lay 86 = .ok (.iconst 1, 1) := by decide +kernel
theorem dX9_lay_87 : decode cX9_lay 87 = .ok (.ireturn, 1) := by decide +kernel
set_option maxRecDepth 20000 in
theorem ggX9_read_X9_isSheet : GoodIn wsX9_read wsX9_isSheet := goodIn_r _ [11, 12, 13, 14, 15, 10, 16] (by decide +kernel) (by decide +kernel)
set_option maxRecDepth 20000 in
theorem gX9_read_X9_isSheet : GoodIn wsX9_read (va_wsS RX9 298 yX9_isSheet wsX9_isSheet) := goodIn_app (goodIn_of _ (by decide +kernel)) ggX9_read_X9_isSheet
set_option maxRecDepth 20000 in
theorem ggX9_read_X9_in : GoodIn wsX9_read wsX9_in := goodIn_r _ [16] (by decide +kernel) (by decide +kernel)
set_option maxRecDepth 20000 in
theorem gX9_read_X9_in : GoodIn wsX9_read (va_wsS RX9 89 yX9_in wsX9_in) := goodIn_app (goodIn_of _ (by decide +kernel)) ggX9_read_X9_in
set_option maxRecDepth 20000 in
theorem ggX9_read_X9_stand : GoodIn wsX9_read wsX9_stand := goodIn_r _ [20, 21, 22, 23, 10, 24, 25, 14, 15, 16, 26, 27, 28, 29, 30, 31, 32, 33, 34, 3, 35, 36, 37, 38, 39, 40, 41, 42, 43, 44, 45, 46, 47, 48, 49, 50, 51, 52, 53, 54, 55, 56, 57, 58, 59, 60, 61, 62, 63, 64, 65, 66, 67, 68, 69, 70, 71] (by decide +kernel) (by decide +kernel)
set_option maxRecDepth 20000 in
theorem gX9_read_X9_stand : GoodIn wsX9_read (wsV RX9 302 RX9 yX9_stand wsX9_stand) := goodIn_app (goodIn_of _ (by decide +kernel)) ggX9_read_X9_stand
theorem dX9_read_0 : decode cX9_read 0 = .ok (.iload_n 1, 1) := by decide +kernel
theorem dX9_read_1 : decode cX9_read 1 = .ok (.iload_n 2, 1) := by decide +kernel
theorem dX9_read_2 : decode cX9_read 2 = .ok (.invokestatic 298, 3) := by decide +kernel
theorem dX9_read_5 : decode cX9_read 5 = .ok (.ifCond .eq 16, 3) := by decide +kernel
theorem dX9_read_8 : decode cX9_read 8 = .ok (.iload 4, 2) := by decide +kernel
theorem dX9_read_10 : decode cX9_read 10 = .ok (.i2l, 1) := by decide +kernel
theorem dX9_read_11 : decode cX9_read 11 = .ok (.lconst 0, 1) := by decide +kernel
theorem dX9_read_12 : decode cX9_read 12 = .ok (.ldc2_w 228, 3) := by decide +kernel
theorem dX9_read_15 : decode cX9_read 15 = .ok (.invokestatic 89, 3) := by decide +kernel
theorem dX9_read_18 : decode cX9_read 18 = .ok (.ifCond .ne 5, 3) := by decide +kernel
theorem dX9_read_21 : decode cX9_read 21 = .ok (.iconst (-1), 1) := by decide +kernel
theorem dX9_read_22 : decode cX9_read 22 = .ok (.ireturn, 1) := by decide +kernel
theorem dX9_read_23 : decode cX9_read 23 = .ok (.iconst 0, 1) := by decide +kernel
theorem dX9_read_24 : decode cX9_read 24 = .ok (.istore 5, 2) := by decide +kernel
theorem dX9_read_26 : decode cX9_read 26 = .ok (.iload 5, 2) := by decide +kernel
theorem dX9_read_28 : decode cX9_read 28 = .ok (.bipush 59, 2) := by decide +kernel
theorem dX9_read_30 : decode cX9_read 30 = .ok (.if_icmp .ge 23, 3) := by decide +kernel
theorem dX9_read_33 : decode cX9_read 33 = .ok (.aload_n 0, 1) := by decide +kernel
theorem dX9_read_34 : decode cX9_read 34 = .ok (.getfield 56, 3) := by decide +kernel
theorem dX9_read_37 : decode cX9_read 37 = .ok (.iload 5, 2) := by decide +kernel
theorem dX9_read_39 : decode cX9_read 39 = .ok (.aload_n 0, 1) := by decide +kernel
theorem dX9_read_40 : decode cX9_read 40 = .ok (.getfield 7, 3) := by decide +kernel
theorem dX9_read_43 : decode cX9_read 43 = .ok (.iload 5, 2) := by decide +kernel
theorem dX9_read_45 : decode cX9_read 45 = .ok (.iaload, 1) := by decide +kernel
theorem dX9_read_46 : decode cX9_read 46 = .ok (.iastore, 1) := by decide +kernel
theorem dX9_read_47 : decode cX9_read 47 = .ok (.iinc 5 1, 3) := by decide +kernel
theorem dX9_read_50 : decode cX9_read 50 = .ok (.goto (-24), 3) := by decide +kernel
theorem dX9_read_53 : decode cX9_read 53 = .ok (.iconst 0, 1) := by decide +kernel
theorem dX9_read_54 : decode cX9_read 54 = .ok (.istore 5, 2) := by decide +kernel
theorem dX9_read_56 : decode cX9_read 56 = .ok (.iconst 0, 1) := by decide +kernel
theorem dX9_read_57 : decode cX9_read 57 = .ok (.istore 6, 2) := by decide +kernel
theorem dX9_read_59 : decode cX9_read 59 = .ok (.iconst 0, 1) := by decide +kernel
theorem dX9_read_60 : decode cX9_read 60 = .ok (.istore 7, 2) := by decide +kernel
theorem dX9_read_62 : decode cX9_read 62 = .ok (.iload 7, 2) := by decide +kernel
theorem dX9_read_64 : decode cX9_read 64 = .ok (.iload 4, 2) := by decide +kernel
theorem dX9_read_66 : decode cX9_read 66 = .ok (.if_icmp .ge 184, 3) := by decide +kernel
theorem dX9_read_69 : decode cX9_read 69 = .ok (.iload 5, 2) := by decide +kernel
theorem dX9_read_71 : decode cX9_read 71 = .ok (.ifCond .ne 179, 3) := by decide +kernel
theorem dX9_read_74 : decode cX9_read 74 = .ok (.iconst 0, 1) := by decide +kernel
theorem dX9_read_75 : decode cX9_read 75 = .ok (.istore 8, 2) := by decide +kernel
theorem dX9_read_77 : decode cX9_read 77 = .ok (.iload 8, 2) := by decide +kernel
theorem dX9_read_79 : decode cX9_read 79 = .ok (.iconst 2, 1) := by decide +kernel
theorem dX9_read_80 : decode cX9_read 80 = .ok (.if_icmp .ge 84, 3) := by decide +kernel
theorem dX9_read_83 : decode cX9_read 83 = .ok (.iload 5, 2) := by decide +kernel
theorem dX9_read_85 : decode cX9_read 85 = .ok (.ifCond .ne 79, 3) := by decide +kernel
theorem dX9_read_88 : decode cX9_read 88 = .ok (.iload_n 3, 1) := by decide +kernel
theorem dX9_read_89 : decode cX9_read 89 = .ok (.i2l, 1) := by decide +kernel
theorem dX9_read_90 : decode cX9_read 90 = .ok (.iconst 2, 1) := by decide +kernel
theorem dX9_read_91 : decode cX9_read 91 = .ok (.iload 7, 2) := by decide +kernel
theorem dX9_read_93 : decode cX9_read 93 = .ok (.imul, 1) := by decide +kernel
theorem dX9_read_94 : decode cX9_read 94 = .ok (.i2l, 1) := by decide +kernel
theorem dX9_read_95 : decode cX9_read 95 = .ok (.ladd, 1) := by decide +kernel
theorem dX9_read_96 : decode cX9_read 96 = .ok (.iload 8, 2) := by decide +kernel
theorem dX9_read_98 : decode cX9_read 98 = .ok (.i2l, 1) := by decide +kernel
theorem dX9_read_99 : decode cX9_read 99 = .ok (.ladd, 1) := by decide +kernel
theorem dX9_read_100 : decode cX9_read 100 = .ok (.lstore 9, 2) := by decide +kernel
theorem dX9_read_102 : decode cX9_read 102 = .ok (.aload_n 0, 1) := by decide +kernel
theorem dX9_read_103 : decode cX9_read 103 = .ok (.getfield 47, 3) := by decide +kernel
theorem dX9_read_106 : decode cX9_read 106 = .ok (.iload_n 1, 1) := by decide +kernel
theorem dX9_read_107 : decode cX9_read 107 = .ok (.iaload, 1) := by decide +kernel
theorem dX9_read_108 : decode cX9_read 108 = .ok (.bipush (-4), 2) := by decide +kernel
theorem dX9_read_110 : decode cX9_read 110 = .ok (.if_icmp .ne 7, 3) := by decide +kernel
theorem dX9_read_113 : decode cX9_read 113 = .ok (.iconst 1, 1) := by decide +kernel
theorem dX9_read_114 : decode cX9_read 114 = .ok (.goto 42, 3) := by decide +kernel
theorem dX9_read_117 : decode cX9_read 117 = .ok (.aload_n 0, 1) := by decide +kernel
theorem dX9_read_118 : decode cX9_read 118 = .ok (.getfield 47, 3) := by decide +kernel
theorem dX9_read_121 : decode cX9_read 121 = .ok (.iload_n 1, 1) := by decide +kernel
theorem dX9_read_122 : decode cX9_read 122 = .ok (.iaload, 1) := by decide +kernel
theorem dX9_read_123 : decode cX9_read 123 = .ok (.iload_n 2, 1) := by decide +kernel
theorem dX9_read_124 : decode cX9_read 124 = .ok (.if_icmp .eq 7, 3) := by decide +kernel
theorem dX9_read_127 : decode cX9_read 127 = .ok (.iconst 3, 1) := by decide +kernel
theorem dX9_read_128 : decode cX9_read 128 = .ok (.goto 28, 3) := by decide +kernel
theorem dX9_read_131 : decode cX9_read 131 = .ok (.lload 9, 2) := by decide +kernel
theorem dX9_read_133 : decode cX9_read 133 = .ok (.lconst 0, 1) := by decide +kernel
theorem dX9_read_134 : decode cX9_read 134 = .ok (.lcmp, 1) := by decide +kernel
theorem dX9_read_135 : decode cX9_read 135 = .ok (.ifCond .lt 16, 3) := by decide +kernel
theorem dX9_read_138 : decode cX9_read 138 = .ok (.lload 9, 2) := by decide +kernel
theorem dX9_read_140 : decode cX9_read 140 = .ok (.aload_n 0, 1) := by decide +kernel
theorem dX9_read_141 : decode cX9_read 141 = .ok (.getfield 50, 3) := by decide +kernel
theorem dX9_read_144 : decode cX9_read 144 = .ok (.iload_n 1, 1) := by decide +kernel
theorem dX9_read_145 : decode cX9_read 145 = .ok (.iaload, 1) := by decide +kernel
theorem dX9_read_146 : decode cX9_read 146 = .ok (.i2l, 1) := by decide +kernel
theorem dX9_read_147 : decode cX9_read 147 = .ok (.lcmp, 1) := by decide +kernel
theorem dX9_read_148 : decode cX9_read 148 = .ok (.ifCond .lt 7, 3) := by decide +kernel
theorem dX9_read_151 : decode cX9_read 151 = .ok (.iconst 2, 1) := by decide +kernel
theorem dX9_read_152 : decode cX9_read 152 = .ok (.goto 4, 3) := by decide +kernel
theorem dX9_read_155 : decode cX9_read 155 = .ok (.iconst 0, 1) := by decide +kernel
theorem dX9_read_156 : decode cX9_read 156 = .ok (.istore 5, 2) := by decide +kernel
theorem dX9_read_158 : decode cX9_read 158 = .ok (.iinc 8 1, 3) := by decide +kernel
theorem dX9_read_161 : decode cX9_read 161 = .ok (.goto (-84), 3) := by decide +kernel
theorem dX9_read_164 : decode cX9_read 164 = .ok (.iload 5, 2) := by decide +kernel
theorem dX9_read_166 : decode cX9_read 166 = .ok (.ifCond .ne 78, 3) := by decide +kernel
theorem dX9_read_169 : decode cX9_read 169 = .ok (.bipush 40, 2) := by decide +kernel
theorem dX9_read_171 : decode cX9_read 171 = .ok (.iload_n 1, 1) := by decide +kernel
theorem dX9_read_172 : decode cX9_read 172 = .ok (.imul, 1) := by decide +kernel
theorem dX9_read_173 : decode cX9_read 173 = .ok (.iload_n 3, 1) := by decide +kernel
theorem dX9_read_174 : decode cX9_read 174 = .ok (.iadd, 1) := by decide +kernel
theorem dX9_read_175 : decode cX9_read 175 = .ok (.iconst 2, 1) := by decide +kernel
theorem dX9_read_176 : decode cX9_read 176 = .ok (.iload 7, 2) := by decide +kernel
theorem dX9_read_178 : decode cX9_read 178 = .ok (.imul, 1) := by decide +kernel
theorem dX9_read_179 : decode cX9_read 179 = .ok (.iadd, 1) := by decide +kernel
theorem dX9_read_180 : decode cX9_read 180 = .ok (.istore 8, 2) := by decide +kernel
theorem dX9_read_182 : decode cX9_read 182 = .ok (.aload_n 0, 1) := by decide +kernel
theorem dX9_read_183 : decode cX9_read 183 = .ok (.aload_n 0, 1) := by decide +kernel
theorem dX9_read_184 : decode cX9_read 184 = .ok (.getfield 53, 3) := by decide +kernel
theorem dX9_read_187 : decode cX9_read 187 = .ok (.iload 8, 2) := by decide +kernel
theorem dX9_read_189 : decode cX9_read 189 = .ok (.iaload, 1) := by decide +kernel
theorem dX9_read_190 : decode cX9_read 190 = .ok (.aload_n 0, 1) := by decide +kernel
theorem dX9_read_191 : decode cX9_read 191 = .ok (.getfield 53, 3) := by decide +kernel
theorem dX9_read_194 : decode cX9_read 194 = .ok (.iload 8, 2) := by decide +kernel
theorem dX9_read_196 : decode cX9_read 196 = .ok (.iconst 1, 1) := by decide +kernel
theorem dX9_read_197 : decode cX9_read 197 = .ok (.iadd, 1) := by decide +kernel
theorem dX9_read_198 : decode cX9_read 198 = .ok (.iaload, 1) := by decide +kernel
theorem dX9_read_199 : decode cX9_read 199 = .ok (.invokevirtual 302, 3) := by decide +kernel
theorem dX9_read_202 : decode cX9_read 202 = .ok (.ifCond .ge 39, 3) := by decide +kernel
theorem dX9_read_205 : decode cX9_read 205 = .ok (.iconst 0, 1) := by decide +kernel
theorem dX9_read_206 : decode cX9_read 206 = .ok (.istore 9, 2) := by decide +kernel
theorem dX9_read_208 : decode cX9_read 208 = .ok (.iload 9, 2) := by decide +kernel
theorem dX9_read_210 : decode cX9_read 210 = .ok (.bipush 59, 2) := by decide +kernel
theorem dX9_read_212 : decode cX9_read 212 = .ok (.if_icmp .ge 23, 3) := by decide +kernel
theorem dX9_read_215 : decode cX9_read 215 = .ok (.aload_n 0, 1) := by decide +kernel
theorem dX9_read_216 : decode cX9_read 216 = .ok (.getfield 7, 3) := by decide +kernel
theorem dX9_read_219 : decode cX9_read 219 = .ok (.iload 9, 2) := by decide +kernel
theorem dX9_read_221 : decode cX9_read 221 = .ok (.aload_n 0, 1) := by decide +kernel
theorem dX9_read_222 : decode cX9_read 222 = .ok (.getfield 56, 3) := by decide +kernel
theorem dX9_read_225 : decode cX9_read 225 = .ok (.iload 9, 2) := by decide +kernel
theorem dX9_read_227 : decode cX9_read 227 = .ok (.iaload, 1) := by decide +kernel
theorem dX9_read_228 : decode cX9_read 228 = .ok (.iastore, 1) := by decide +kernel
theorem dX9_read_229 : decode cX9_read 229 = .ok (.iinc 9 1, 3) := by decide +kernel
theorem dX9_read_232 : decode cX9_read 232 = .ok (.goto (-24), 3) := by decide +kernel
theorem dX9_read_235 : decode cX9_read 235 = .ok (.bipush (-20), 2) := by decide +kernel
theorem dX9_read_237 : decode cX9_read 237 = .ok (.iload 7, 2) := by decide +kernel
theorem dX9_read_239 : decode cX9_read 239 = .ok (.isub, 1) := by decide +kernel
theorem dX9_read_240 : decode cX9_read 240 = .ok (.ireturn, 1) := by decide +kernel
theorem dX9_read_241 : decode cX9_read 241 = .ok (.iinc 6 1, 3) := by decide +kernel
theorem dX9_read_244 : decode cX9_read 244 = .ok (.iinc 7 1, 3) := by decide +kernel
theorem dX9_read_247 : decode cX9_read 247 = .ok (.goto (-185), 3) := by decide +kernel
theorem dX9_read_250 : decode cX9_read 250 = .ok (.aload_n 0, 1) := by decide +kernel
theorem dX9_read_251 : decode cX9_read 251 = .ok (.iload 5, 2) := by decide +kernel
theorem dX9_read_253 : decode cX9_read 253 = .ok (.putfield 305, 3) := by decide +kernel
theorem dX9_read_256 : decode cX9_read 256 = .ok (.iload 6, 2) := by decide +kernel
theorem dX9_read_258 : decode cX9_read 258 = .ok (.ireturn, 1) := by decide +kernel
theorem dX9_torn_0 : decode cX9_torn 0 = .ok (.aload_n 0, 1) := by decide +kernel
theorem dX9_torn_1 : decode cX9_torn 1 = .ok (.getfield 305, 3) := by decide +kernel
theorem dX9_torn_4 : decode cX9_torn 4 = .ok (.ireturn, 1) := by decide +kernel
set_option maxRecDepth 20000 in
theorem ggX9_count_X9_flag : GoodIn wsX9_count wsX9_flag := goodIn_r _ [11] (by decide +kernel) (by decide +kernel)
set_option maxRecDepth 20000 in
theorem gX9_count_X9_flag : GoodIn wsX9_count (va_wsS RX9 193 yX9_flag wsX9_flag) := goodIn_app (goodIn_of _ (by decide +kernel)) ggX9_count_X9_flag
theorem dX9_count_0 : decode cX9_count 0 = .ok (.iconst 0, 1) := by decide +kernel
theorem dX9_count_1 : decode cX9_count 1 = .ok (.istore_n 2, 1) := by decide +kernel
theorem dX9_count_2 : decode cX9_count 2 = .ok (.iconst 0, 1) := by decide +kernel
theorem dX9_count_3 : decode cX9_count 3 = .ok (.istore_n 3, 1) := by decide +kernel
theorem dX9_count_4 : decode cX9_count 4 = .ok (.iconst 0, 1) := by decide +kernel
theorem dX9_count_5 : decode cX9_count 5 = .ok (.istore 4, 2) := by decide +kernel
theorem dX9_count_7 : decode cX9_count 7 = .ok (.iload 4, 2) := by decide +kernel
theorem dX9_count_9 : decode cX9_count 9 = .ok (.aload_n 0, 1) := by decide +kernel
theorem dX9_count_10 : decode cX9_count 10 = .ok (.getfield 81, 3) := by decide +kernel
theorem dX9_count_13 : decode cX9_count 13 = .ok (.if_icmp .ge 23, 3) := by decide +kernel
theorem dX9_count_16 : decode cX9_count 16 = .ok (.iload_n 2, 1) := by decide +kernel
theorem dX9_count_17 : decode cX9_count 17 = .ok (.aload_n 0, 1) := by decide +kernel
theorem dX9_count_18 : decode cX9_count 18 = .ok (.getfield 7, 3) := by decide +kernel
theorem dX9_count_21 : decode cX9_count 21 = .ok (.iconst 3, 1) := by decide +kernel
theorem dX9_count_22 : decode cX9_count 22 = .ok (.iload 4, 2) := by decide +kernel
theorem dX9_count_24 : decode cX9_count 24 = .ok (.imul, 1) := by decide +kernel
theorem dX9_count_25 : decode cX9_count 25 = .ok (.iconst 2, 1) := by decide +kernel
theorem dX9_count_26 : decode cX9_count 26 = .ok (.iadd, 1) := by decide +kernel
theorem dX9_count_27 : decode cX9_count 27 = .ok (.iaload, 1) := by decide +kernel
theorem dX9_count_28 : decode cX9_count 28 = .ok (.iadd, 1) := by decide +kernel
theorem dX9_count_29 : decode cX9_count 29 = .ok (.istore_n 2, 1) := by decide +kernel
theorem dX9_count_30 : decode cX9_count 30 = .ok (.iinc 4 1, 3) := by decide +kernel
theorem dX9_count_33 : decode cX9_count 33 = .ok (.goto (-26), 3) := by decide +kernel
theorem dX9_count_36 : decode cX9_count 36 = .ok (.iconst 0, 1) := by decide +kernel
theorem dX9_count_37 : decode cX9_count 37 = .ok (.istore 4, 2) := by decide +kernel
theorem dX9_count_39 : decode cX9_count 39 = .ok (.iload 4, 2) := by decide +kernel
theorem dX9_count_41 : decode cX9_count 41 = .ok (.aload_n 0, 1) := by decide +kernel
theorem dX9_count_42 : decode cX9_count 42 = .ok (.getfield 84, 3) := by decide +kernel
theorem dX9_count_45 : decode cX9_count 45 = .ok (.if_icmp .ge 26, 3) := by decide +kernel
theorem dX9_count_48 : decode cX9_count 48 = .ok (.iload_n 3, 1) := by decide +kernel
theorem dX9_count_49 : decode cX9_count 49 = .ok (.aload_n 0, 1) := by decide +kernel
theorem dX9_count_50 : decode cX9_count 50 = .ok (.getfield 7, 3) := by decide +kernel
theorem dX9_count_53 : decode cX9_count 53 = .ok (.bipush 24, 2) := by decide +kernel
theorem dX9_count_55 : decode cX9_count 55 = .ok (.iconst 5, 1) := by decide +kernel
theorem dX9_count_56 : decode cX9_count 56 = .ok (.iload 4, 2) := by decide +kernel
theorem dX9_count_58 : decode cX9_count 58 = .ok (.imul, 1) := by decide +kernel
theorem dX9_count_59 : decode cX9_count 59 = .ok (.iadd, 1) := by decide +kernel
theorem dX9_count_60 : decode cX9_count 60 = .ok (.iconst 1, 1) := by decide +kernel
theorem dX9_count_61 : decode cX9_count 61 = .ok (.iadd, 1) := by decide +kernel
theorem dX9_count_62 : decode cX9_count 62 = .ok (.iaload, 1) := by decide +kernel
theorem dX9_count_63 : decode cX9_count 63 = .ok (.iadd, 1) := by decide +kernel
theorem dX9_count_64 : decode cX9_count 64 = .ok (.istore_n 3, 1) := by decide +kernel
theorem dX9_count_65 : decode cX9_count 65 = .ok (.iinc 4 1, 3) := by decide +kernel
theorem dX9_count_68 : decode cX9_count 68 = .ok (.goto (-29), 3) := by decide +kernel
theorem dX9_count_71 : decode cX9_count 71 = .ok (.iload_n 1, 1) := by decide +kernel
theorem dX9_count_72 : decode cX9_count 72 = .ok (.tableswitch 100 0 5 #[40, 42, 50, 70, 75, 98], 40) := by decide +kernel
theorem dX9_count_112 : decode cX9_count 112 = .ok (.iload_n 2, 1) := by decide +kernel
theorem dX9_count_113 : decode cX9_count 113 = .ok (.ireturn, 1) := by decide +kernel
theorem dX9_count_114 : decode cX9_count 114 = .ok (.aload_n 0, 1) := by decide +kernel
theorem dX9_count_115 : decode cX9_count 115 = .ok (.getfield 7, 3) := by decide +kernel
theorem dX9_count_118 : decode cX9_count 118 = .ok (.bipush 46, 2) := by decide +kernel
theorem dX9_count_120 : decode cX9_count 120 = .ok (.iaload, 1) := by decide +kernel
theorem dX9_count_121 : decode cX9_count 121 = .ok (.ireturn, 1) := by decide +kernel
theorem dX9_count_122 : decode cX9_count 122 = .ok (.aload_n 0, 1) := by decide +kernel
theorem dX9_count_123 : decode cX9_count 123 = .ok (.getfield 16, 3) := by decide +kernel
theorem dX9_count_126 : decode cX9_count 126 = .ok (.iconst 0, 1) := by decide +kernel
theorem dX9_count_127 : decode cX9_count 127 = .ok (.baload, 1) := by decide +kernel
theorem dX9_count_128 : decode cX9_count 128 = .ok (.invokestatic 193, 3) := by decide +kernel
theorem dX9_count_131 : decode cX9_count 131 = .ok (.aload_n 0, 1) := by decide +kernel
theorem dX9_count_132 : decode cX9_count 132 = .ok (.getfield 16, 3) := by decide +kernel
theorem dX9_count_135 : decode cX9_count 135 = .ok (.iconst 1, 1) := by decide +kernel
theorem dX9_count_136 : decode cX9_count 136 = .ok (.baload, 1) := by decide +kernel
theorem dX9_count_137 : decode cX9_count 137 = .ok (.invokestatic 193, 3) := by decide +kernel
theorem dX9_count_140 : decode cX9_count 140 = .ok (.iadd, 1) := by decide +kernel
theorem dX9_count_141 : decode cX9_count 141 = .ok (.ireturn, 1) := by decide +kernel
theorem dX9_count_142 : decode cX9_count 142 = .ok (.aload_n 0, 1) := by decide +kernel
theorem dX9_count_143 : decode cX9_count 143 = .ok (.getfield 93, 3) := by decide +kernel
theorem dX9_count_146 : decode cX9_count 146 = .ok (.ireturn, 1) := by decide +kernel
theorem dX9_count_147 : decode cX9_count 147 = .ok (.aload_n 0, 1) := by decide +kernel
theorem dX9_count_148 : decode cX9_count 148 = .ok (.getfield 47, 3) := by decide +kernel
theorem dX9_count_151 : decode cX9_count 151 = .ok (.iconst 0, 1) := by decide +kernel
theorem dX9_count_152 : decode cX9_count 152 = .ok (.iaload, 1) := by decide +kernel
theorem dX9_count_153 : decode cX9_count 153 = .ok (.bipush (-4), 2) := by decide +kernel
theorem dX9_count_155 : decode cX9_count 155 = .ok (.if_icmp .ne 8, 3) := by decide +kernel
theorem dX9_count_158 : decode cX9_count 158 = .ok (.bipush (-4), 2) := by decide +kernel
theorem dX9_count_160 : decode cX9_count 160 = .ok (.goto 9, 3) := by decide +kernel
theorem dX9_count_163 : decode cX9_count 163 = .ok (.aload_n 0, 1) := by decide +kernel
theorem dX9_count_164 : decode cX9_count 164 = .ok (.getfield 50, 3) := by decide +kernel
theorem dX9_count_167 : decode cX9_count 167 = .ok (.iconst 0, 1) := by decide +kernel
theorem dX9_count_168 : decode cX9_count 168 = .ok (.iaload, 1) := by decide +kernel
theorem dX9_count_169 : decode cX9_count 169 = .ok (.ireturn, 1) := by decide +kernel
theorem dX9_count_170 : decode cX9_count 170 = .ok (.iload_n 3, 1) := by decide +kernel
theorem dX9_count_171 : decode cX9_count 171 = .ok (.ireturn, 1) := by decide +kernel
theorem dX9_count_172 : decode cX9_count 172 = .ok (.iconst (-1), 1) := by decide +kernel
theorem dX9_count_173 : decode cX9_count 173 = .ok (.ireturn, 1) := by decide +kernel
theorem dJ6_bitCount_0f7a4_0 : decode cJ6_bitCount_0f7a4 0 = .ok (.iload_n 0, 1) := by decide +kernel
theorem dJ6_bitCount_0f7a4_1 : decode cJ6_bitCount_0f7a4 1 = .ok (.iload_n 0, 1) := by decide +kernel
theorem dJ6_bitCount_0f7a4_2 : decode cJ6_bitCount_0f7a4 2 = .ok (.iconst 1, 1) := by decide +kernel
theorem dJ6_bitCount_0f7a4_3 : decode cJ6_bitCount_0f7a4 3 = .ok (.iushr, 1) := by decide +kernel
theorem dJ6_bitCount_0f7a4_4 : decode cJ6_bitCount_0f7a4 4 = .ok (.ldc_w 265, 3) := by decide +kernel
theorem dJ6_bitCount_0f7a4_7 : decode cJ6_bitCount_0f7a4 7 = .ok (.iand, 1) := by decide +kernel
theorem dJ6_bitCount_0f7a4_8 : decode cJ6_bitCount_0f7a4 8 = .ok (.isub, 1) := by decide +kernel
theorem dJ6_bitCount_0f7a4_9 : decode cJ6_bitCount_0f7a4 9 = .ok (.istore_n 0, 1) := by decide +kernel
theorem dJ6_bitCount_0f7a4_10 : decode cJ6_bitCount_0f7a4 10 = .ok (.iload_n 0, 1) := by decide +kernel
theorem dJ6_bitCount_0f7a4_11 : decode cJ6_bitCount_0f7a4 11 = .ok (.ldc_w 266, 3) := by decide +kernel
theorem dJ6_bitCount_0f7a4_14 : decode cJ6_bitCount_0f7a4 14 = .ok (.iand, 1) := by decide +kernel
theorem dJ6_bitCount_0f7a4_15 : decode cJ6_bitCount_0f7a4 15 = .ok (.iload_n 0, 1) := by decide +kernel
theorem dJ6_bitCount_0f7a4_16 : decode cJ6_bitCount_0f7a4 16 = .ok (.iconst 2, 1) := by decide +kernel
theorem dJ6_bitCount_0f7a4_17 : decode cJ6_bitCount_0f7a4 17 = .ok (.iushr, 1) := by decide +kernel
theorem dJ6_bitCount_0f7a4_18 : decode cJ6_bitCount_0f7a4 18 = .ok (.ldc_w 266, 3) := by decide +kernel
theorem dJ6_bitCount_0f7a4_21 : decode cJ6_bitCount_0f7a4 21 = .ok (.iand, 1) := by decide +kernel
theorem dJ6_bitCount_0f7a4_22 : decode cJ6_bitCount_0f7a4 22 = .ok (.iadd, 1) := by decide +kernel
theorem dJ6_bitCount_0f7a4_23 : decode cJ6_bitCount_0f7a4 23 = .ok (.istore_n 0, 1) := by decide +kernel
theorem dJ6_bitCount_0f7a4_24 : decode cJ6_bitCount_0f7a4 24 = .ok (.iload_n 0, 1) := by decide +kernel
theorem dJ6_bitCount_0f7a4_25 : decode cJ6_bitCount_0f7a4 25 = .ok (.iload_n 0, 1) := by decide +kernel
theorem dJ6_bitCount_0f7a4_26 : decode cJ6_bitCount_0f7a4 26 = .ok (.iconst 4, 1) := by decide +kernel
theorem dJ6_bitCount_0f7a4_27 : decode cJ6_bitCount_0f7a4 27 = .ok (.iushr, 1) := by decide +kernel
theorem dJ6_bitCount_0f7a4_28 : decode cJ6_bitCount_0f7a4 28 = .ok (.iadd, 1) := by decide +kernel
theorem dJ6_bitCount_0f7a4_29 : decode cJ6_bitCount_0f7a4 29 = .ok (.ldc_w 267, 3) := by decide +kernel
theorem dJ6_bitCount_0f7a4_32 : decode cJ6_bitCount_0f7a4 32 = .ok (.iand, 1) := by decide +kernel
theorem dJ6_bitCount_0f7a4_33 : decode cJ6_bitCount_0f7a4 33 = .ok (.istore_n 0, 1) := by decide +kernel
theorem dJ6_bitCount_0f7a4_34 : decode cJ6_bitCount_0f7a4 34 = .ok (.iload_n 0, 1) := by decide +kernel
theorem dJ6_bitCount_0f7a4_35 : decode cJ6_bitCount_0f7a4 35 = .ok (.iload_n 0, 1) := by decide +kernel
theorem dJ6_bitCount_0f7a4_36 : decode cJ6_bitCount_0f7a4 36 = .ok (.bipush 8, 2) := by decide +kernel
theorem dJ6_bitCount_0f7a4_38 : decode cJ6_bitCount_0f7a4 38 = .ok (.iushr, 1) := by decide +kernel
theorem dJ6_bitCount_0f7a4_39 : decode cJ6_bitCount_0f7a4 39 = .ok (.iadd, 1) := by decide +kernel
theorem dJ6_bitCount_0f7a4_40 : decode cJ6_bitCount_0f7a4 40 = .ok (.istore_n 0, 1) := by decide +kernel
theorem dJ6_bitCount_0f7a4_41 : decode cJ6_bitCount_0f7a4 41 = .ok (.iload_n 0, 1) := by decide +kernel
theorem dJ6_bitCount_0f7a4_42 : decode cJ6_bitCount_0f7a4 42 = .ok (.iload_n 0, 1) := by decide +kernel
theorem dJ6_bitCount_0f7a4_43 : decode cJ6_bitCount_0f7a4 43 = .ok (.bipush 16, 2) := by decide +kernel
theorem dJ6_bitCount_0f7a4_45 : decode cJ6_bitCount_0f7a4 45 = .ok (.iushr, 1) := by decide +kernel
theorem dJ6_bitCount_0f7a4_46 : decode cJ6_bitCount_0f7a4 46 = .ok (.iadd, 1) := by decide +kernel
theorem dJ6_bitCount_0f7a4_47 : decode cJ6_bitCount_0f7a4 47 = .ok (.istore_n 0, 1) := by decide +kernel
theorem dJ6_bitCount_0f7a4_48 : decode cJ6_bitCount_0f7a4 48 = .ok (.iload_n 0, 1) := by decide +kernel
theorem dJ6_bitCount_0f7a4_49 : decode cJ6_bitCount_0f7a4 49 = .ok (.bipush 63, 2) := by decide +kernel
theorem dJ6_bitCount_0f7a4_51 : decode cJ6_bitCount_0f7a4 51 = .ok (.iand, 1) := by decide +kernel
theorem dJ6_bitCount_0f7a4_52 : decode cJ6_bitCount_0f7a4 52 = .ok (.ireturn, 1) := by decide +kernel
theorem dJ9_max_7cf53_0 : decode cJ9_max_7cf53 0 = .ok (.iload_n 0, 1) := by decide +kernel
theorem dJ9_max_7cf53_1 : decode cJ9_max_7cf53 1 = .ok (.iload_n 1, 1) := by decide +kernel
theorem dJ9_max_7cf53_2 : decode cJ9_max_7cf53 2 = .ok (.if_icmp .lt 7, 3) := by decide +kernel
theorem dJ9_max_7cf53_5 : decode cJ9_max_7cf53 5 = .ok (.iload_n 0, 1) := by decide +kernel
theorem dJ9_max_7cf53_6 : decode cJ9_max_7cf53 6 = .ok (.goto 4, 3) := by decide +kernel
theorem dJ9_max_7cf53_9 : decode cJ9_max_7cf53 9 = .ok (.iload_n 1, 1) := by decide +kernel
theorem dJ9_max_7cf53_10 : decode cJ9_max_7cf53 10 = .ok (.ireturn, 1) := by decide +kernel
set_option maxRecDepth 20000 in
theorem ggJ0_length_8abf5_J0_coder_7d493 : GoodIn wsJ0_length_8abf5 wsJ0_coder_7d493 := goodIn_r _ [6, 7, 8] (by decide +kernel) (by decide +kernel)
set_option maxRecDepth 20000 in
theorem gJ0_length_8abf5_J0_coder_7d493 : GoodIn wsJ0_length_8abf5 (wsV RJ0 335 RJ0 yJ0_coder_7d493 wsJ0_coder_7d493) := goodIn_app (goodIn_of _ (by decide +kernel)) ggJ0_length_8abf5_J0_coder_7d493
theorem dJ0_length_8abf5_0 : decode cJ0_length_8abf5 0 = .ok (.aload_n 0, 1) := by decide +kernel
theorem dJ0_length_8abf5_1 : decode cJ0_length_8abf5 1 = .ok (.getfield 9, 3) := by decide +kernel
theorem dJ0_length_8abf5_4 : decode cJ0_length_8abf5 4 = .ok (.arraylength, 1) := by decide +kernel
theorem dJ0_length_8abf5_5 : decode cJ0_length_8abf5 5 = .ok (.aload_n 0, 1) := by decide +kernel
theorem dJ0_length_8abf5_6 : decode cJ0_length_8abf5 6 = .ok (.invokevirtual 335, 3) := by decide +kernel
theorem dJ0_length_8abf5_9 : decode cJ0_length_8abf5 9 = .ok (.ishr, 1) := by decide +kernel
theorem dJ0_length_8abf5_10 : decode cJ0_length_8abf5 10 = .ok (.ireturn, 1) := by decide +kernel
set_option maxRecDepth 20000 in
theorem ggJ0_charAt_5068e_J0_isLatin1_aae02 : GoodIn wsJ0_charAt_5068e wsJ0_isLatin1_aae02 := goodIn_r _ [6, 7, 8] (by decide +kernel) (by decide +kernel)
set_option maxRecDepth 20000 in
theorem gJ0_charAt_5068e_J0_isLatin1_aae02 : GoodIn wsJ0_charAt_5068e (wsV RJ0 492 RJ0 yJ0_isLatin1_aae02 wsJ0_isLatin1_aae02) := goodIn_app (goodIn_of _ (by decide +kernel)) ggJ0_charAt_5068e_J0_isLatin1_aae02
set_option maxRecDepth 20000 in
theorem ggJ0_charAt_5068e_J1_charAt_3b067 : GoodIn wsJ0_charAt_5068e wsJ1_charAt_3b067 := goodIn_r _ [12, 13, 14, 5, 15, 16, 17, 18, 19, 20] (by decide +kernel) (by decide +kernel)
set_option maxRecDepth 20000 in
theorem gJ0_charAt_5068e_J1_charAt_3b067 : GoodIn wsJ0_charAt_5068e (va_wsS RJ0 495 yJ1_charAt_3b067 wsJ1_charAt_3b067) := goodIn_app (goodIn_of _ (by decide +kernel)) ggJ0_charAt_5068e_J1_charAt_3b067
set_option maxRecDepth 20000 in
theorem ggJ0_charAt_5068e_J2_charAt_3b067 : GoodIn wsJ0_charAt_5068e wsJ2_charAt_3b067 := goodIn_r _ [24, 25, 26, 23, 27, 28, 29, 30, 31, 14, 5, 15, 16, 17, 18, 19, 20, 32, 33, 34, 35, 36, 37] (by decide +kernel) (by decide +kernel)
set_option maxRecDepth 20000 in
theorem gJ0_charAt_5068e_J2_charAt_3b067 : GoodIn wsJ0_charAt_5068e (va_wsS RJ0 498 yJ2_charAt_3b067 wsJ2_charAt_3b067) := goodIn_app (goodIn_of _ (by decide +kernel)) ggJ0_charAt_5068e_J2_charAt_3b067
theorem dJ0_charAt_5068e_0 : decode cJ0_charAt_5068e 0 = .ok (.aload_n 0, 1) := by decide +kernel
theorem dJ0_charAt_5068e_1 : decode cJ0_charAt_5068e 1 = .ok (.invokevirtual 492, 3) := by decide +kernel
theorem dJ0_charAt_5068e_4 : decode cJ0_charAt_5068e 4 = .ok (.ifCond .eq 12, 3) := by decide +kernel
theorem dJ0_charAt_5068e_7 : decode cJ0_charAt_5068e 7 = .ok (.aload_n 0, 1) := by decide +kernel
theorem dJ0_charAt_5068e_8 : decode cJ0_charAt_5068e 8 = .ok (.getfield 9, 3) := by decide +kernel
theorem dJ0_charAt_5068e_11 : decode cJ0_charAt_5068e 11 = .ok (.iload_n 1, 1) := by decide +kernel
theorem dJ0_charAt_5068e_12 : decode cJ0_charAt_5068e 12 = .ok (.invokestatic 495, 3) := by decide +kernel
theorem dJ0_charAt_5068e_15 : decode cJ0_charAt_5068e 15 = .ok (.ireturn, 1) := by decide +kernel
theorem dJ0_charAt_5068e_16 : decode cJ0_charAt_5068e 16 = .ok (.aload_n 0, 1) := by decide +kernel
theorem dJ0_charAt_5068e_17 : decode cJ0_charAt_5068e 17 = .ok (.getfield 9, 3) := by decide +kernel
theorem dJ0_charAt_5068e_20 : decode cJ0_charAt_5068e 20 = .ok (.iload_n 1, 1) := by decide +kernel
theorem dJ0_charAt_5068e_21 : decode cJ0_charAt_5068e 21 = .ok (.invokestatic 498, 3) := by decide +kernel
theorem dJ0_charAt_5068e_24 : decode cJ0_charAt_5068e 24 = .ok (.ireturn, 1) := by decide +kernel
theorem dJ0_coder_7d493_0 : decode cJ0_coder_7d493 0 = .ok (.getstatic 38, 3) := by decide +kernel
theorem dJ0_coder_7d493_3 : decode cJ0_coder_7d493 3 = .ok (.ifCond .eq 10, 3) := by decide +kernel
theorem dJ0_coder_7d493_6 : decode cJ0_coder_7d493 6 = .ok (.aload_n 0, 1) := by decide +kernel
theorem dJ0_coder_7d493_7 : decode cJ0_coder_7d493 7 = .ok (.getfield 15, 3) := by decide +kernel
theorem dJ0_coder_7d493_10 : decode cJ0_coder_7d493 10 = .ok (.goto 4, 3) := by decide +kernel
theorem dJ0_coder_7d493_13 : decode cJ0_coder_7d493 13 = .ok (.iconst 1, 1) := by decide +kernel
theorem dJ0_coder_7d493_14 : decode cJ0_coder_7d493 14 = .ok (.ireturn, 1) := by decide +kernel
theorem dJ0_isLatin1_aae02_0 : decode cJ0_isLatin1_aae02 0 = .ok (.getstatic 38, 3) := by decide +kernel
theorem dJ0_isLatin1_aae02_3 : decode cJ0_isLatin1_aae02 3 = .ok (.ifCond .eq 14, 3) := by decide +kernel
theorem dJ0_isLatin1_aae02_6 : decode cJ0_isLatin1_aae02 6 = .ok (.aload_n 0, 1) := by decide +kernel
theorem dJ0_isLatin1_aae02_7 : decode cJ0_isLatin1_aae02 7 = .ok (.getfield 15, 3) := by decide +kernel
theorem dJ0_isLatin1_aae02_10 : decode cJ0_isLatin1_aae02 10 = .ok (.ifCond .ne 7, 3) := by decide +kernel
theorem dJ0_isLatin1_aae02_13 : decode cJ0_isLatin1_aae02 13 = .ok (.iconst 1, 1) := by decide +kernel
theorem dJ0_isLatin1_aae02_14 : decode cJ0_isLatin1_aae02 14 = .ok (.goto 4, 3) := by decide +kernel
theorem dJ0_isLatin1_aae02_17 : decode cJ0_isLatin1_aae02 17 = .ok (.iconst 0, 1) := by decide +kernel
theorem dJ0_isLatin1_aae02_18 : decode cJ0_isLatin1_aae02 18 = .ok (.ireturn, 1) := by decide +kernel
set_option maxRecDepth 20000 in
theorem ggJ0_checkIndex_df160_J3_checkIndex_8e157 : GoodIn wsJ0_checkIndex_df160 wsJ3_checkIndex_8e157 := goodIn_r _ [5] (by decide +kernel) (by decide +kernel)
set_option maxRecDepth 20000 in
theorem gJ0_checkIndex_df160_J3_checkIndex_8e157 : GoodIn wsJ0_checkIndex_df160 (va_wsS RJ0 1059 yJ3_checkIndex_8e157 wsJ3_checkIndex_8e157) := goodIn_app (goodIn_of _ (by decide +kernel)) ggJ0_checkIndex_df160_J3_checkIndex_8e157
theorem dJ0_checkIndex_df160_0 : decode cJ0_checkIndex_df160 0 = .ok (.iload_n 0, 1) := by decide +kernel
theorem dJ0_checkIndex_df160_1 : decode cJ0_checkIndex_df160 1 = .ok (.iload_n 1, 1) := by decide +kernel
theorem dJ0_checkIndex_df160_2 : decode cJ0_checkIndex_df160 2 = .ok (.getstatic 1053, 3) := by decide +kernel
theorem dJ0_checkIndex_df160_5 : decode cJ0_checkIndex_df160 5 = .ok (.invokestatic 1059, 3) := by decide +kernel
theorem dJ0_checkIndex_df160_8 : decode cJ0_checkIndex_df160 8 = .ok (.pop, 1) := by decide +kernel
theorem dJ0_checkIndex_df160_9 : decode cJ0_checkIndex_df160 9 = .ok (.return_, 1) := by decide +kernel
set_option maxRecDepth 20000 in
theorem ggJ1_charAt_3b067_J0_checkIndex_df160 : GoodIn wsJ1_charAt_3b067 wsJ0_checkIndex_df160 := goodIn_r _ [4, 5, 6, 7, 8, 9] (by decide +kernel) (by decide +kernel)
set_option maxRecDepth 20000 in
theorem gJ1_charAt_3b067_J0_checkIndex_df160 : GoodIn wsJ1_charAt_3b067 (va_wsS RJ1 9 yJ0_checkIndex_df160 wsJ0_checkIndex_df160) := goodIn_app (goodIn_of _ (by decide +kernel)) ggJ1_charAt_3b067_J0_checkIndex_df160
theorem dJ1_charAt_3b067_0 : decode cJ1_charAt_3b067 0 = .ok (.iload_n 1, 1) := by decide +kernel
theorem dJ1_charAt_3b067_1 : decode cJ1_charAt_3b067 1 = .ok (.aload_n 0, 1) := by decide +kernel
theorem dJ1_charAt_3b067_2 : decode cJ1_charAt_3b067 2 = .ok (.arraylength, 1) := by decide +kernel
theorem dJ1_charAt_3b067_3 : decode cJ1_charAt_3b067 3 = .ok (.invokestatic 9, 3) := by decide +kernel
theorem dJ1_charAt_3b067_6 : decode cJ1_charAt_3b067 6 = .ok (.aload_n 0, 1) := by decide +kernel
theorem dJ1_charAt_3b067_7 : decode cJ1_charAt_3b067 7 = .ok (.iload_n 1, 1) := by decide +kernel
theorem dJ1_charAt_3b067_8 : decode cJ1_charAt_3b067 8 = .ok (.baload, 1) := by decide +kernel
theorem dJ1_charAt_3b067_9 : decode cJ1_charAt_3b067 9 = .ok (.sipush 255, 3) := by decide +kernel
theorem dJ1_charAt_3b067_12 : decode cJ1_charAt_3b067 12 = .ok (.iand, 1) := by decide +kernel
theorem dJ1_charAt_3b067_13 : decode cJ1_charAt_3b067 13 = .ok (.i2c, 1) := by decide +kernel
theorem dJ1_charAt_3b067_14 : decode cJ1_charAt_3b067 14 = .ok (.ireturn, 1) := by decide +kernel
set_option maxRecDepth 20000 in
theorem ggJ2_getChar_3b067_J2_length_9d52b : GoodIn wsJ2_getChar_3b067 wsJ2_length_9d52b := goodIn_r _ [7] (by decide +kernel) (by decide +kernel)
set_option maxRecDepth 20000 in
theorem gJ2_getChar_3b067_J2_length_9d52b : GoodIn wsJ2_getChar_3b067 (va_wsS RJ2 48 yJ2_length_9d52b wsJ2_length_9d52b) := goodIn_app (goodIn_of _ (by decide +kernel)) ggJ2_getChar_3b067_J2_length_9d52b
theorem dJ2_getChar_3b067_0 : decode cJ2_getChar_3b067 0 = .ok (.getstatic 44, 3) := by decide +kernel
theorem dJ2_getChar_3b067_3 : decode cJ2_getChar_3b067 3 = .ok (.ifCond .ne 25, 3) := by decide +kernel
theorem dJ2_getChar_3b067_6 : decode cJ2_getChar_3b067 6 = .ok (.iload_n 1, 1) := by decide +kernel
theorem dJ2_getChar_3b067_7 : decode cJ2_getChar_3b067 7 = .ok (.ifCond .lt 11, 3) := by decide +kernel
theorem dJ2_getChar_3b067_10 : decode cJ2_getChar_3b067 10 = .ok (.iload_n 1, 1) := by decide +kernel
theorem dJ2_getChar_3b067_11 : decode cJ2_getChar_3b067 11 = .ok (.aload_n 0, 1) := by decide +kernel
theorem dJ2_getChar_3b067_12 : decode cJ2_getChar_3b067 12 = .ok (.invokestatic 48, 3) := by decide +kernel
theorem dJ2_getChar_3b067_15 : decode cJ2_getChar_3b067 15 = .ok (.if_icmp .lt 13, 3) := by decide +kernel
theorem dJ2_getChar_3b067_18 : decode cJ2_getChar_3b067 18 = .ok (.new 52, 3) := by decide +kernel
theorem dJ2_getChar_3b067_21 : decode cJ2_getChar_3b067 21 = .ok (.dup, 1) := by decide +kernel
theorem dJ2_getChar_3b067_22 : decode cJ2_getChar_3b067 22 = .ok (.ldc 54, 2) := by decide +kernel
theorem dJ2_getChar_3b067_24 : decode cJ2_getChar_3b067 24 = .ok (.invokespecial 56, 3) := by decide +kernel
theorem dJ2_getChar_3b067_27 : decode cJ2_getChar_3b067 27 = .ok (.athrow, 1) := by decide +kernel
theorem dJ2_getChar_3b067_28 : decode cJ2_getChar_3b067 28 = .ok (.iload_n 1, 1) := by decide +kernel
theorem dJ2_getChar_3b067_29 : decode cJ2_getChar_3b067 29 = .ok (.iconst 1, 1) := by decide +kernel
theorem dJ2_getChar_3b067_30 : decode cJ2_getChar_3b067 30 = .ok (.ishl, 1) := by decide +kernel
theorem dJ2_getChar_3b067_31 : decode cJ2_getChar_3b067 31 = .ok (.istore_n 1, 1) := by decide +kernel
theorem dJ2_getChar_3b067_32 : decode cJ2_getChar_3b067 32 = .ok (.aload_n 0, 1) := by decide +kernel
theorem dJ2_getChar_3b067_33 : decode cJ2_getChar_3b067 33 = .ok (.iload_n 1, 1) := by decide +kernel
theorem dJ2_getChar_3b067_34 : decode cJ2_getChar_3b067 34 = .ok (.iinc 1 1, 3) := by decide +kernel
theorem dJ2_getChar_3b067_37 : decode cJ2_getChar_3b067 37 = .ok (.baload, 1) := by decide +kernel
theorem dJ2_getChar_3b067_38 : decode cJ2_getChar_3b067 38 = .ok (.sipush 255, 3) := by decide +kernel
theorem dJ2_getChar_3b067_41 : decode cJ2_getChar_3b067 41 = .ok (.iand, 1) := by decide +kernel
theorem dJ2_getChar_3b067_42 : decode cJ2_getChar_3b067 42 = .ok (.getstatic 59, 3) := by decide +kernel
theorem dJ2_getChar_3b067_45 : decode cJ2_getChar_3b067 45 = .ok (.ishl, 1) := by decide +kernel
theorem dJ2_getChar_3b067_46 : decode cJ2_getChar_3b067 46 = .ok (.aload_n 0, 1) := by decide +kernel
theorem dJ2_getChar_3b067_47 : decode cJ2_getChar_3b067 47 = .ok (.iload_n 1, 1) := by decide +kernel
theorem dJ2_getChar_3b067_48 : decode cJ2_getChar_3b067 48 = .ok (.baload, 1) := by decide +kernel
theorem dJ2_getChar_3b067_49 : decode cJ2_getChar_3b067 49 = .ok (.sipush 255, 3) := by decide +kernel
theorem dJ2_getChar_3b067_52 : decode cJ2_getChar_3b067 52 = .ok (.iand, 1) := by decide +kernel
theorem dJ2_getChar_3b067_53 : decode cJ2_getChar_3b067 53 = .ok (.getstatic 63, 3) := by decide +kernel
theorem dJ2_getChar_3b067_56 : decode cJ2_getChar_3b067 56 = .ok (.ishl, 1) := by decide +kernel
theorem dJ2_getChar_3b067_57 : decode cJ2_getChar_3b067 57 = .ok (.ior, 1) := by decide +kernel
theorem dJ2_getChar_3b067_58 : decode cJ2_getChar_3b067 58 = .ok (.i2c, 1) := by decide +kernel
theorem dJ2_getChar_3b067_59 : decode cJ2_getChar_3b067 59 = .ok (.ireturn, 1) := by decide +kernel
theorem dJ2_length_9d52b_0 : decode cJ2_length_9d52b 0 = .ok (.aload_n 0, 1) := by decide +kernel
theorem dJ2_length_9d52b_1 : decode cJ2_length_9d52b 1 = .ok (.arraylength, 1) := by decide +kernel
theorem dJ2_length_9d52b_2 : decode cJ2_length_9d52b 2 = .ok (.iconst 1, 1) := by decide +kernel
theorem dJ2_length_9d52b_3 : decode cJ2_length_9d52b 3 = .ok (.ishr, 1) := by decide +kernel
theorem dJ2_length_9d52b_4 : decode cJ2_length_9d52b 4 = .ok (.ireturn, 1) := by decide +kernel
set_option maxRecDepth 20000 in
theorem ggJ2_charAt_3b067_J2_checkIndex_2214a : GoodIn wsJ2_charAt_3b067 wsJ2_checkIndex_2214a := goodIn_r _ [4, 5, 6, 3, 7, 8, 9, 10, 11, 12, 13, 14, 15, 16] (by decide +kernel) (by decide +kernel)
set_option maxRecDepth 20000 in
theorem gJ2_charAt_3b067_J2_checkIndex_2214a : GoodIn wsJ2_charAt_3b067 (va_wsS RJ2 67 yJ2_checkIndex_2214a wsJ2_checkIndex_2214a) := goodIn_app (goodIn_of _ (by decide +kernel)) ggJ2_charAt_3b067_J2_checkIndex_2214a
set_option maxRecDepth 20000 in
theorem ggJ2_charAt_3b067_J2_getChar_3b067 : GoodIn wsJ2_charAt_3b067 wsJ2_getChar_3b067 := goodIn_r _ [19, 20, 21, 22, 5, 6, 3, 7] (by decide +kernel) (by decide +kernel)
set_option maxRecDepth 20000 in
theorem gJ2_charAt_3b067_J2_getChar_3b067 : GoodIn wsJ2_charAt_3b067 (va_wsS RJ2 71 yJ2_getChar_3b067 wsJ2_getChar_3b067) := goodIn_app (goodIn_of _ (by decide +kernel)) ggJ2_charAt_3b067_J2_getChar_3b067
theorem dJ2_charAt_3b067_0 : decode cJ2_charAt_3b067 0 = .ok (.iload_n 1, 1) := by decide +kernel
theorem dJ2_charAt_3b067_1 : decode cJ2_charAt_3b067 1 = .ok (.aload_n 0, 1) := by decide +kernel
theorem dJ2_charAt_3b067_2 : decode cJ2_charAt_3b067 2 = .ok (.invokestatic 67, 3) := by decide +kernel
theorem dJ2_charAt_3b067_5 : decode cJ2_charAt_3b067 5 = .ok (.aload_n 0, 1) := by decide +kernel
theorem dJ2_charAt_3b067_6 : decode cJ2_charAt_3b067 6 = .ok (.iload_n 1, 1) := by decide +kernel
theorem dJ2_charAt_3b067_7 : decode cJ2_charAt_3b067 7 = .ok (.invokestatic 71, 3) := by decide +kernel
theorem dJ2_charAt_3b067_10 : decode cJ2_charAt_3b067 10 = .ok (.ireturn, 1) := by decide +kernel
set_option maxRecDepth 20000 in
theorem ggJ2_checkIndex_2214a_J2_length_9d52b : GoodIn wsJ2_checkIndex_2214a wsJ2_length_9d52b := goodIn_r _ [4] (by decide +kernel) (by decide +kernel)
set_option maxRecDepth 20000 in
theorem gJ2_checkIndex_2214a_J2_length_9d52b : GoodIn wsJ2_checkIndex_2214a (va_wsS RJ2 48 yJ2_length_9d52b wsJ2_length_9d52b) := goodIn_app (goodIn_of _ (by decide +kernel)) ggJ2_checkIndex_2214a_J2_length_9d52b
set_option maxRecDepth 20000 in
theorem ggJ2_checkIndex_2214a_J0_checkIndex_df160 : GoodIn wsJ2_checkIndex_2214a wsJ0_checkIndex_df160 := goodIn_r _ [8, 9, 10, 11, 12, 13] (by decide +kernel) (by decide +kernel)
set_option maxRecDepth 20000 in
theorem gJ2_checkIndex_2214a_J0_checkIndex_df160 : GoodIn wsJ2_checkIndex_2214a (va_wsS RJ2 414 yJ0_checkIndex_df160 wsJ0_checkIndex_df160) := goodIn_app (goodIn_of _ (by decide +kernel)) ggJ2_checkIndex_2214a_J0_checkIndex_df160
theorem dJ2_checkIndex_2214a_0 : decode cJ2_checkIndex_2214a 0 = .ok (.iload_n 0, 1) := by decide +kernel
theorem dJ2_checkIndex_2214a_1 : decode cJ2_checkIndex_2214a 1 = .ok (.aload_n 1, 1) := by decide +kernel
theorem dJ2_checkIndex_2214a_2 : decode cJ2_checkIndex_2214a 2 = .ok (.invokestatic 48, 3) := by decide +kernel
theorem dJ2_checkIndex_2214a_5 : decode cJ2_checkIndex_2214a 5 = .ok (.invokestatic 414, 3) := by decide +kernel
theorem dJ2_checkIndex_2214a_8 : decode cJ2_checkIndex_2214a 8 = .ok (.return_, 1) := by decide +kernel
theorem dJ3_checkIndex_8e157_0 : decode cJ3_checkIndex_8e157 0 = .ok (.iload_n 0, 1) := by decide +kernel
theorem dJ3_checkIndex_8e157_1 : decode cJ3_checkIndex_8e157 1 = .ok (.ifCond .lt 8, 3) := by decide +kernel
theorem dJ3_checkIndex_8e157_4 : decode cJ3_checkIndex_8e157 4 = .ok (.iload_n 0, 1) := by decide +kernel
theorem dJ3_checkIndex_8e157_5 : decode cJ3_checkIndex_8e157 5 = .ok (.iload_n 1, 1) := by decide +kernel
theorem dJ3_checkIndex_8e157_6 : decode cJ3_checkIndex_8e157 6 = .ok (.if_icmp .lt 10, 3) := by decide +kernel
theorem dJ3_checkIndex_8e157_9 : decode cJ3_checkIndex_8e157 9 = .ok (.aload_n 2, 1) := by decide +kernel
theorem dJ3_checkIndex_8e157_10 : decode cJ3_checkIndex_8e157 10 = .ok (.iload_n 0, 1) := by decide +kernel
theorem dJ3_checkIndex_8e157_11 : decode cJ3_checkIndex_8e157 11 = .ok (.iload_n 1, 1) := by decide +kernel
theorem dJ3_checkIndex_8e157_12 : decode cJ3_checkIndex_8e157 12 = .ok (.invokestatic 95, 3) := by decide +kernel
theorem dJ3_checkIndex_8e157_15 : decode cJ3_checkIndex_8e157 15 = .ok (.athrow, 1) := by decide +kernel
theorem dJ3_checkIndex_8e157_16 : decode cJ3_checkIndex_8e157 16 = .ok (.iload_n 0, 1) := by decide +kernel
theorem dJ3_checkIndex_8e157_17 : decode cJ3_checkIndex_8e157 17 = .ok (.ireturn, 1) := by decide +kernel

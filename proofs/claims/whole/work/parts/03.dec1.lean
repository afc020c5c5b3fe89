theorem dX0_init_0 : decode cX0_init 0 = .ok (.aload_n 0, 1) := by decide +kernel
theorem dX0_init_1 : decode cX0_init 1 = .ok (.invokespecial 3, 3) := by decide +kernel
theorem dX0_init_4 : decode cX0_init 4 = .ok (.aload_n 0, 1) := by decide +kernel
theorem dX0_init_5 : decode cX0_init 5 = .ok (.iconst 4, 1) := by decide +kernel
theorem dX0_init_6 : decode cX0_init 6 = .ok (.newarray .int, 2) := by decide +kernel
theorem dX0_init_8 : decode cX0_init 8 = .ok (.putfield 9, 3) := by decide +kernel
theorem dX0_init_11 : decode cX0_init 11 = .ok (.aload_n 0, 1) := by decide +kernel
theorem dX0_init_12 : decode cX0_init 12 = .ok (.iconst 4, 1) := by decide +kernel
theorem dX0_init_13 : decode cX0_init 13 = .ok (.newarray .int, 2) := by decide +kernel
theorem dX0_init_15 : decode cX0_init 15 = .ok (.putfield 15, 3) := by decide +kernel
theorem dX0_init_18 : decode cX0_init 18 = .ok (.aload_n 0, 1) := by decide +kernel
theorem dX0_init_19 : decode cX0_init 19 = .ok (.iconst 4, 1) := by decide +kernel
theorem dX0_init_20 : decode cX0_init 20 = .ok (.newarray .int, 2) := by decide +kernel
theorem dX0_init_22 : decode cX0_init 22 = .ok (.putfield 18, 3) := by decide +kernel
theorem dX0_init_25 : decode cX0_init 25 = .ok (.aload_n 0, 1) := by decide +kernel
theorem dX0_init_26 : decode cX0_init 26 = .ok (.iconst 4, 1) := by decide +kernel
theorem dX0_init_27 : decode cX0_init 27 = .ok (.newarray .int, 2) := by decide +kernel
theorem dX0_init_29 : decode cX0_init 29 = .ok (.putfield 21, 3) := by decide +kernel
theorem dX0_init_32 : decode cX0_init 32 = .ok (.aload_n 0, 1) := by decide +kernel
theorem dX0_init_33 : decode cX0_init 33 = .ok (.bipush 8, 2) := by decide +kernel
theorem dX0_init_35 : decode cX0_init 35 = .ok (.newarray .int, 2) := by decide +kernel
theorem dX0_init_37 : decode cX0_init 37 = .ok (.putfield 24, 3) := by decide +kernel
theorem dX0_init_40 : decode cX0_init 40 = .ok (.return_, 1) := by decide +kernel
set_option maxRecDepth 20000 in
theorem ggX0_run_X0_begin : GoodIn wsX0_run wsX0_begin := goodIn_r _ [6, 1, 7, 8, 9, 10, 11, 12, 13, 14, 15, 16, 17, 18, 19, 20, 21, 57, 58, 59, 60, 61, 62, 63, 64, 65, 66, 67, 68, 50, 51, 52, 53, 54, 55, 56] (by decide +kernel) (by decide +kernel)
set_option maxRecDepth 20000 in
theorem gX0_run_X0_begin : GoodIn wsX0_run (wsV RX0 27 RX0 yX0_begin wsX0_begin) := goodIn_app (goodIn_of _ (by decide +kernel)) ggX0_run_X0_begin
set_option maxRecDepth 20000 in
theorem ggX0_run_X0_runParty : GoodIn wsX0_run wsX0_runParty := goodIn_r _ [25, 7, 8, 26, 27, 28, 29, 30, 31, 32, 5, 33, 34, 35, 36, 12, 37, 20, 38, 16, 17, 18, 19, 21, 39, 40, 41, 42, 43, 44, 45, 46, 47, 48, 49, 57, 58, 59, 60, 61, 62, 63, 64, 65, 66, 67, 68, 50, 51, 52, 53, 54, 55, 56] (by decide +kernel) (by decide +kernel)
set_option maxRecDepth 20000 in
theorem gX0_run_X0_runParty : GoodIn wsX0_run (wsV RX0 35 RX0 yX0_runParty wsX0_runParty) := goodIn_app (goodIn_of _ (by decide +kernel)) ggX0_run_X0_runParty
theorem dX0_run_0 : decode cX0_run 0 = .ok (.aload_n 0, 1) := by decide +kernel
theorem dX0_run_1 : decode cX0_run 1 = .ok (.aload_n 1, 1) := by decide +kernel
theorem dX0_run_2 : decode cX0_run 2 = .ok (.invokevirtual 27, 3) := by decide +kernel
theorem dX0_run_5 : decode cX0_run 5 = .ok (.iconst 0, 1) := by decide +kernel
theorem dX0_run_6 : decode cX0_run 6 = .ok (.istore_n 2, 1) := by decide +kernel
theorem dX0_run_7 : decode cX0_run 7 = .ok (.iload_n 2, 1) := by decide +kernel
theorem dX0_run_8 : decode cX0_run 8 = .ok (.aload_n 0, 1) := by decide +kernel
theorem dX0_run_9 : decode cX0_run 9 = .ok (.getfield 31, 3) := by decide +kernel
theorem dX0_run_12 : decode cX0_run 12 = .ok (.if_icmp .ge 15, 3) := by decide +kernel
theorem dX0_run_15 : decode cX0_run 15 = .ok (.aload_n 0, 1) := by decide +kernel
theorem dX0_run_16 : decode cX0_run 16 = .ok (.aload_n 1, 1) := by decide +kernel
theorem dX0_run_17 : decode cX0_run 17 = .ok (.iload_n 2, 1) := by decide +kernel
theorem dX0_run_18 : decode cX0_run 18 = .ok (.invokevirtual 35, 3) := by decide +kernel
theorem dX0_run_21 : decode cX0_run 21 = .ok (.iinc 2 1, 3) := by decide +kernel
theorem dX0_run_24 : decode cX0_run 24 = .ok (.goto (-17), 3) := by decide +kernel
theorem dX0_run_27 : decode cX0_run 27 = .ok (.return_, 1) := by decide +kernel
set_option maxRecDepth 20000 in
theorem ggX0_begin_X2_drivenMiles : GoodIn wsX0_begin wsX2_drivenMiles := goodIn_r _ [8, 9, 10, 11, 12, 13, 7, 14, 15, 16, 17, 18, 19, 20, 21, 22, 23, 24, 25, 26, 27, 28] (by decide +kernel) (by decide +kernel)
set_option maxRecDepth 20000 in
theorem gX0_begin_X2_drivenMiles : GoodIn wsX0_begin (wsV RX0 42 RX2 yX2_drivenMiles wsX2_drivenMiles) := goodIn_app (goodIn_of _ (by decide +kernel)) ggX0_begin_X2_drivenMiles
theorem dX0_begin_0 : decode cX0_begin 0 = .ok (.aload_n 0, 1) := by decide +kernel
theorem dX0_begin_1 : decode cX0_begin 1 = .ok (.aload_n 1, 1) := by decide +kernel
theorem dX0_begin_2 : decode cX0_begin 2 = .ok (.getfield 39, 3) := by decide +kernel
theorem dX0_begin_5 : decode cX0_begin 5 = .ok (.putfield 31, 3) := by decide +kernel
theorem dX0_begin_8 : decode cX0_begin 8 = .ok (.aload_n 0, 1) := by decide +kernel
theorem dX0_begin_9 : decode cX0_begin 9 = .ok (.aload_n 1, 1) := by decide +kernel
theorem dX0_begin_10 : decode cX0_begin 10 = .ok (.invokevirtual 42, 3) := by decide +kernel
theorem dX0_begin_13 : decode cX0_begin 13 = .ok (.putfield 46, 3) := by decide +kernel
theorem dX0_begin_16 : decode cX0_begin 16 = .ok (.iconst 0, 1) := by decide +kernel
theorem dX0_begin_17 : decode cX0_begin 17 = .ok (.istore_n 2, 1) := by decide +kernel
theorem dX0_begin_18 : decode cX0_begin 18 = .ok (.iload_n 2, 1) := by decide +kernel
theorem dX0_begin_19 : decode cX0_begin 19 = .ok (.bipush 8, 2) := by decide +kernel
theorem dX0_begin_21 : decode cX0_begin 21 = .ok (.if_icmp .ge 16, 3) := by decide +kernel
theorem dX0_begin_24 : decode cX0_begin 24 = .ok (.aload_n 0, 1) := by decide +kernel
theorem dX0_begin_25 : decode cX0_begin 25 = .ok (.getfield 24, 3) := by decide +kernel
theorem dX0_begin_28 : decode cX0_begin 28 = .ok (.iload_n 2, 1) := by decide +kernel
theorem dX0_begin_29 : decode cX0_begin 29 = .ok (.iconst 0, 1) := by decide +kernel
theorem dX0_begin_30 : decode cX0_begin 30 = .ok (.iastore, 1) := by decide +kernel
theorem dX0_begin_31 : decode cX0_begin 31 = .ok (.iinc 2 1, 3) := by decide +kernel
theorem dX0_begin_34 : decode cX0_begin 34 = .ok (.goto (-16), 3) := by decide +kernel
theorem dX0_begin_37 : decode cX0_begin 37 = .ok (.return_, 1) := by decide +kernel
set_option maxRecDepth 20000 in
theorem ggX0_runParty_X0_setOut : GoodIn wsX0_runParty wsX0_setOut := goodIn_r _ [11, 2, 6, 4, 5, 3, 47, 48, 49, 50, 51, 52, 53, 35, 36, 37, 38, 39, 40, 41, 42, 43, 44, 45, 46] (by decide +kernel) (by decide +kernel)
set_option maxRecDepth 20000 in
theorem gX0_runParty_X0_setOut : GoodIn wsX0_runParty (wsV RX0 49 RX0 yX0_setOut wsX0_setOut) := goodIn_app (goodIn_of _ (by decide +kernel)) ggX0_runParty_X0_setOut
set_option maxRecDepth 20000 in
theorem ggX0_runParty_X2_strainOf : GoodIn wsX0_runParty wsX2_strainOf := goodIn_r _ [16, 17, 18, 19, 20, 21, 15, 22, 23, 35, 36, 37, 38, 39, 40, 41, 42, 43, 44, 45, 46] (by decide +kernel) (by decide +kernel)
set_option maxRecDepth 20000 in
theorem gX0_runParty_X2_strainOf : GoodIn wsX0_runParty (wsV RX0 55 RX2 yX2_strainOf wsX2_strainOf) := goodIn_app (goodIn_of _ (by decide +kernel)) ggX0_runParty_X2_strainOf
set_option maxRecDepth 20000 in
theorem ggX0_runParty_J6_bitCount_0f7a4 : GoodIn wsX0_runParty wsJ6_bitCount_0f7a4 := goodIn_r _ [27, 28, 29, 30] (by decide +kernel) (by decide +kernel)
set_option maxRecDepth 20000 in
theorem gX0_runParty_J6_bitCount_0f7a4 : GoodIn wsX0_runParty (va_wsS RX0 59 yJ6_bitCount_0f7a4 wsJ6_bitCount_0f7a4) := goodIn_app (goodIn_of _ (by decide +kernel)) ggX0_runParty_J6_bitCount_0f7a4
set_option maxRecDepth 20000 in
theorem ggX0_runParty_X2_hearingOf : GoodIn wsX0_runParty wsX2_hearingOf := goodIn_r _ [34, 17, 23, 19, 20, 21, 15, 22, 35, 36, 37, 38, 39, 40, 41, 42, 43, 44, 45, 46] (by decide +kernel) (by decide +kernel)
set_option maxRecDepth 20000 in
theorem gX0_runParty_X2_hearingOf : GoodIn wsX0_runParty (wsV RX0 77 RX2 yX2_hearingOf wsX2_hearingOf) := goodIn_app (goodIn_of _ (by decide +kernel)) ggX0_runParty_X2_hearingOf
theorem dX0_runParty_0 : decode cX0_runParty 0 = .ok (.aload_n 0, 1) := by decide +kernel
theorem dX0_runParty_1 : decode cX0_runParty 1 = .ok (.aload_n 1, 1) := by decide +kernel
theorem dX0_runParty_2 : decode cX0_runParty 2 = .ok (.iload_n 2, 1) := by decide +kernel
theorem dX0_runParty_3 : decode cX0_runParty 3 = .ok (.invokevirtual 49, 3) := by decide +kernel
theorem dX0_runParty_6 : decode cX0_runParty 6 = .ok (.aload_n 1, 1) := by decide +kernel
theorem dX0_runParty_7 : decode cX0_runParty 7 = .ok (.getfield 52, 3) := by decide +kernel
theorem dX0_runParty_10 : decode cX0_runParty 10 = .ok (.iload_n 2, 1) := by decide +kernel
theorem dX0_runParty_11 : decode cX0_runParty 11 = .ok (.iaload, 1) := by decide +kernel
theorem dX0_runParty_12 : decode cX0_runParty 12 = .ok (.istore_n 3, 1) := by decide +kernel
theorem dX0_runParty_13 : decode cX0_runParty 13 = .ok (.iload_n 3, 1) := by decide +kernel
theorem dX0_runParty_14 : decode cX0_runParty 14 = .ok (.istore 4, 2) := by decide +kernel
theorem dX0_runParty_16 : decode cX0_runParty 16 = .ok (.iload 4, 2) := by decide +kernel
theorem dX0_runParty_18 : decode cX0_runParty 18 = .ok (.aload_n 0, 1) := by decide +kernel
theorem dX0_runParty_19 : decode cX0_runParty 19 = .ok (.getfield 46, 3) := by decide +kernel
theorem dX0_runParty_22 : decode cX0_runParty 22 = .ok (.if_icmp .ge 193, 3) := by decide +kernel
theorem dX0_runParty_25 : decode cX0_runParty 25 = .ok (.aload_n 1, 1) := by decide +kernel
theorem dX0_runParty_26 : decode cX0_runParty 26 = .ok (.iload_n 2, 1) := by decide +kernel
theorem dX0_runParty_27 : decode cX0_runParty 27 = .ok (.iload 4, 2) := by decide +kernel
theorem dX0_runParty_29 : decode cX0_runParty 29 = .ok (.invokevirtual 55, 3) := by decide +kernel
theorem dX0_runParty_32 : decode cX0_runParty 32 = .ok (.istore 5, 2) := by decide +kernel
theorem dX0_runParty_34 : decode cX0_runParty 34 = .ok (.aload_n 0, 1) := by decide +kernel
theorem dX0_runParty_35 : decode cX0_runParty 35 = .ok (.getfield 24, 3) := by decide +kernel
theorem dX0_runParty_38 : decode cX0_runParty 38 = .ok (.iload 4, 2) := by decide +kernel
theorem dX0_runParty_40 : decode cX0_runParty 40 = .ok (.iaload, 1) := by decide +kernel
theorem dX0_runParty_41 : decode cX0_runParty 41 = .ok (.invokestatic 59, 3) := by decide +kernel
theorem dX0_runParty_44 : decode cX0_runParty 44 = .ok (.aload_n 1, 1) := by decide +kernel
theorem dX0_runParty_45 : decode cX0_runParty 45 = .ok (.getfield 65, 3) := by decide +kernel
theorem dX0_runParty_48 : decode cX0_runParty 48 = .ok (.if_icmp .lt 7, 3) := by decide +kernel
theorem dX0_runParty_51 : decode cX0_runParty 51 = .ok (.iconst 1, 1) := by decide +kernel
theorem dX0_runParty_52 : decode cX0_runParty 52 = .ok (.goto 4, 3) := by decide +kernel
theorem dX0_runParty_55 : decode cX0_runParty 55 = .ok (.iconst 0, 1) := by decide +kernel
theorem dX0_runParty_56 : decode cX0_runParty 56 = .ok (.istore 6, 2) := by decide +kernel
theorem dX0_runParty_58 : decode cX0_runParty 58 = .ok (.aload_n 1, 1) := by decide +kernel
theorem dX0_runParty_59 : decode cX0_runParty 59 = .ok (.getfield 68, 3) := by decide +kernel
theorem dX0_runParty_62 : decode cX0_runParty 62 = .ok (.iload_n 2, 1) := by decide +kernel
theorem dX0_runParty_63 : decode cX0_runParty 63 = .ok (.iaload, 1) := by decide +kernel
theorem dX0_runParty_64 : decode cX0_runParty 64 = .ok (.iconst 3, 1) := by decide +kernel
theorem dX0_runParty_65 : decode cX0_runParty 65 = .ok (.if_icmp .ne 32, 3) := by decide +kernel
theorem dX0_runParty_68 : decode cX0_runParty 68 = .ok (.iload 4, 2) := by decide +kernel
theorem dX0_runParty_70 : decode cX0_runParty 70 = .ok (.iload_n 3, 1) := by decide +kernel
theorem dX0_runParty_71 : decode cX0_runParty 71 = .ok (.if_icmp .le 26, 3) := by decide +kernel
theorem dX0_runParty_74 : decode cX0_runParty 74 = .ok (.aload_n 1, 1) := by decide +kernel
theorem dX0_runParty_75 : decode cX0_runParty 75 = .ok (.getfield 71, 3) := by decide +kernel
theorem dX0_runParty_78 : decode cX0_runParty 78 = .ok (.iload 4, 2) := by decide +kernel
theorem dX0_runParty_80 : decode cX0_runParty 80 = .ok (.iaload, 1) := by decide +kernel
theorem dX0_runParty_81 : decode cX0_runParty 81 = .ok (.aload_n 1, 1) := by decide +kernel
theorem dX0_runParty_82 : decode cX0_runParty 82 = .ok (.getfield 71, 3) := by decide +kernel
theorem dX0_runParty_85 : decode cX0_runParty 85 = .ok (.iload 4, 2) := by decide +kernel
theorem dX0_runParty_87 : decode cX0_runParty 87 = .ok (.iconst 1, 1) := by decide +kernel
theorem dX0_runParty_88 : decode cX0_runParty 88 = .ok (.isub, 1) := by decide +kernel
theorem dX0_runParty_89 : decode cX0_runParty 89 = .ok (.iaload, 1) := by decide +kernel
theorem dX0_runParty_90 : decode cX0_runParty 90 = .ok (.if_icmp .eq 7, 3) := by decide +kernel
theorem dX0_runParty_93 : decode cX0_runParty 93 = .ok (.iconst 1, 1) := by decide +kernel
theorem dX0_runParty_94 : decode cX0_runParty 94 = .ok (.goto 4, 3) := by decide +kernel
theorem dX0_runParty_97 : decode cX0_runParty 97 = .ok (.iconst 0, 1) := by decide +kernel
theorem dX0_runParty_98 : decode cX0_runParty 98 = .ok (.istore 7, 2) := by decide +kernel
theorem dX0_runParty_100 : decode cX0_runParty 100 = .ok (.iload 6, 2) := by decide +kernel
theorem dX0_runParty_102 : decode cX0_runParty 102 = .ok (.ifCond .ne 19, 3) := by decide +kernel
theorem dX0_runParty_105 : decode cX0_runParty 105 = .ok (.iload 7, 2) := by decide +kernel
theorem dX0_runParty_107 : decode cX0_runParty 107 = .ok (.ifCond .ne 14, 3) := by decide +kernel
theorem dX0_runParty_110 : decode cX0_runParty 110 = .ok (.aload_n 0, 1) := by decide +kernel
theorem dX0_runParty_111 : decode cX0_runParty 111 = .ok (.getfield 21, 3) := by decide +kernel
theorem dX0_runParty_114 : decode cX0_runParty 114 = .ok (.iload_n 2, 1) := by decide +kernel
theorem dX0_runParty_115 : decode cX0_runParty 115 = .ok (.iaload, 1) := by decide +kernel
theorem dX0_runParty_116 : decode cX0_runParty 116 = .ok (.iload 5, 2) := by decide +kernel
theorem dX0_runParty_118 : decode cX0_runParty 118 = .ok (.if_icmp .ge 12, 3) := by decide +kernel
theorem dX0_runParty_121 : decode cX0_runParty 121 = .ok (.aload_n 0, 1) := by decide +kernel
theorem dX0_runParty_122 : decode cX0_runParty 122 = .ok (.getfield 15, 3) := by decide +kernel
theorem dX0_runParty_125 : decode cX0_runParty 125 = .ok (.iload_n 2, 1) := by decide +kernel
theorem dX0_runParty_126 : decode cX0_runParty 126 = .ok (.iload 4, 2) := by decide +kernel
theorem dX0_runParty_128 : decode cX0_runParty 128 = .ok (.iastore, 1) := by decide +kernel
theorem dX0_runParty_129 : decode cX0_runParty 129 = .ok (.return_, 1) := by decide +kernel
theorem dX0_runParty_130 : decode cX0_runParty 130 = .ok (.aload_n 0, 1) := by decide +kernel
theorem dX0_runParty_131 : decode cX0_runParty 131 = .ok (.getfield 24, 3) := by decide +kernel
theorem dX0_runParty_134 : decode cX0_runParty 134 = .ok (.iload 4, 2) := by decide +kernel
theorem dX0_runParty_136 : decode cX0_runParty 136 = .ok (.dup2, 1) := by decide +kernel
theorem dX0_runParty_137 : decode cX0_runParty 137 = .ok (.iaload, 1) := by decide +kernel
theorem dX0_runParty_138 : decode cX0_runParty 138 = .ok (.iconst 1, 1) := by decide +kernel
theorem dX0_runParty_139 : decode cX0_runParty 139 = .ok (.iload_n 2, 1) := by decide +kernel
theorem dX0_runParty_140 : decode cX0_runParty 140 = .ok (.ishl, 1) := by decide +kernel
theorem dX0_runParty_141 : decode cX0_runParty 141 = .ok (.ior, 1) := by decide +kernel
theorem dX0_runParty_142 : decode cX0_runParty 142 = .ok (.iastore, 1) := by decide +kernel
theorem dX0_runParty_143 : decode cX0_runParty 143 = .ok (.aload_n 0, 1) := by decide +kernel
theorem dX0_runParty_144 : decode cX0_runParty 144 = .ok (.getfield 21, 3) := by decide +kernel
theorem dX0_runParty_147 : decode cX0_runParty 147 = .ok (.iload_n 2, 1) := by decide +kernel
theorem dX0_runParty_148 : decode cX0_runParty 148 = .ok (.dup2, 1) := by decide +kernel
theorem dX0_runParty_149 : decode cX0_runParty 149 = .ok (.iaload, 1) := by decide +kernel
theorem dX0_runParty_150 : decode cX0_runParty 150 = .ok (.iload 5, 2) := by decide +kernel
theorem dX0_runParty_152 : decode cX0_runParty 152 = .ok (.isub, 1) := by decide +kernel
theorem dX0_runParty_153 : decode cX0_runParty 153 = .ok (.iastore, 1) := by decide +kernel
theorem dX0_runParty_154 : decode cX0_runParty 154 = .ok (.aload_n 1, 1) := by decide +kernel
theorem dX0_runParty_155 : decode cX0_runParty 155 = .ok (.getfield 71, 3) := by decide +kernel
theorem dX0_runParty_158 : decode cX0_runParty 158 = .ok (.iload 4, 2) := by decide +kernel
theorem dX0_runParty_160 : decode cX0_runParty 160 = .ok (.iaload, 1) := by decide +kernel
theorem dX0_runParty_161 : decode cX0_runParty 161 = .ok (.aload_n 1, 1) := by decide +kernel
theorem dX0_runParty_162 : decode cX0_runParty 162 = .ok (.getfield 74, 3) := by decide +kernel
theorem dX0_runParty_165 : decode cX0_runParty 165 = .ok (.iload_n 2, 1) := by decide +kernel
theorem dX0_runParty_166 : decode cX0_runParty 166 = .ok (.iaload, 1) := by decide +kernel
theorem dX0_runParty_167 : decode cX0_runParty 167 = .ok (.if_icmp .ne 18, 3) := by decide +kernel
theorem dX0_runParty_170 : decode cX0_runParty 170 = .ok (.aload_n 0, 1) := by decide +kernel
theorem dX0_runParty_171 : decode cX0_runParty 171 = .ok (.getfield 18, 3) := by decide +kernel
theorem dX0_runParty_174 : decode cX0_runParty 174 = .ok (.iload_n 2, 1) := by decide +kernel
theorem dX0_runParty_175 : decode cX0_runParty 175 = .ok (.dup2, 1) := by decide +kernel
theorem dX0_runParty_176 : decode cX0_runParty 176 = .ok (.iaload, 1) := by decide +kernel
theorem dX0_runParty_177 : decode cX0_runParty 177 = .ok (.aload_n 1, 1) := by decide +kernel
theorem dX0_runParty_178 : decode cX0_runParty 178 = .ok (.iload 4, 2) := by decide +kernel
theorem dX0_runParty_180 : decode cX0_runParty 180 = .ok (.invokevirtual 77, 3) := by decide +kernel
theorem dX0_runParty_183 : decode cX0_runParty 183 = .ok (.iadd, 1) := by decide +kernel
theorem dX0_runParty_184 : decode cX0_runParty 184 = .ok (.iastore, 1) := by decide +kernel
theorem dX0_runParty_185 : decode cX0_runParty 185 = .ok (.aload_n 0, 1) := by decide +kernel
theorem dX0_runParty_186 : decode cX0_runParty 186 = .ok (.getfield 18, 3) := by decide +kernel
theorem dX0_runParty_189 : decode cX0_runParty 189 = .ok (.iload_n 2, 1) := by decide +kernel
theorem dX0_runParty_190 : decode cX0_runParty 190 = .ok (.iaload, 1) := by decide +kernel
theorem dX0_runParty_191 : decode cX0_runParty 191 = .ok (.aload_n 1, 1) := by decide +kernel
theorem dX0_runParty_192 : decode cX0_runParty 192 = .ok (.getfield 80, 3) := by decide +kernel
theorem dX0_runParty_195 : decode cX0_runParty 195 = .ok (.iload_n 2, 1) := by decide +kernel
theorem dX0_runParty_196 : decode cX0_runParty 196 = .ok (.iaload, 1) := by decide +kernel
theorem dX0_runParty_197 : decode cX0_runParty 197 = .ok (.if_icmp .lt 12, 3) := by decide +kernel
theorem dX0_runParty_200 : decode cX0_runParty 200 = .ok (.aload_n 0, 1) := by decide +kernel
theorem dX0_runParty_201 : decode cX0_runParty 201 = .ok (.getfield 9, 3) := by decide +kernel
theorem dX0_runParty_204 : decode cX0_runParty 204 = .ok (.iload_n 2, 1) := by decide +kernel
theorem dX0_runParty_205 : decode cX0_runParty 205 = .ok (.iload 4, 2) := by decide +kernel
theorem dX0_runParty_207 : decode cX0_runParty 207 = .ok (.iastore, 1) := by decide +kernel
theorem dX0_runParty_208 : decode cX0_runParty 208 = .ok (.return_, 1) := by decide +kernel
theorem dX0_runParty_209 : decode cX0_runParty 209 = .ok (.iinc 4 1, 3) := by decide +kernel
theorem dX0_runParty_212 : decode cX0_runParty 212 = .ok (.goto (-196), 3) := by decide +kernel
theorem dX0_runParty_215 : decode cX0_runParty 215 = .ok (.return_, 1) := by decide +kernel
theorem dX0_setOut_0 : decode cX0_setOut 0 = .ok (.iconst 0, 1) := by decide +kernel
theorem dX0_setOut_1 : decode cX0_setOut 1 = .ok (.istore_n 3, 1) := by decide +kernel
theorem dX0_setOut_2 : decode cX0_setOut 2 = .ok (.iload_n 3, 1) := by decide +kernel
theorem dX0_setOut_3 : decode cX0_setOut 3 = .ok (.bipush 8, 2) := by decide +kernel
theorem dX0_setOut_5 : decode cX0_setOut 5 = .ok (.if_icmp .ge 23, 3) := by decide +kernel
theorem dX0_setOut_8 : decode cX0_setOut 8 = .ok (.aload_n 0, 1) := by decide +kernel
theorem dX0_setOut_9 : decode cX0_setOut 9 = .ok (.getfield 24, 3) := by decide +kernel
theorem dX0_setOut_12 : decode cX0_setOut 12 = .ok (.iload_n 3, 1) := by decide +kernel
theorem dX0_setOut_13 : decode cX0_setOut 13 = .ok (.dup2, 1) := by decide +kernel
theorem dX0_setOut_14 : decode cX0_setOut 14 = .ok (.iaload, 1) := by decide +kernel
theorem dX0_setOut_15 : decode cX0_setOut 15 = .ok (.iconst 1, 1) := by decide +kernel
theorem dX0_setOut_16 : decode cX0_setOut 16 = .ok (.iload_n 2, 1) := by decide +kernel
theorem dX0_setOut_17 : decode cX0_setOut 17 = .ok (.ishl, 1) := by decide +kernel
theorem dX0_setOut_18 : decode cX0_setOut 18 = .ok (.iconst 1, 1) := by decide +kernel
theorem dX0_setOut_19 : decode cX0_setOut 19 = .ok (.isub, 1) := by decide +kernel
theorem dX0_setOut_20 : decode cX0_setOut 20 = .ok (.iand, 1) := by decide +kernel
theorem dX0_setOut_21 : decode cX0_setOut 21 = .ok (.iastore, 1) := by decide +kernel
theorem dX0_setOut_22 : decode cX0_setOut 22 = .ok (.iinc 3 1, 3) := by decide +kernel
theorem dX0_setOut_25 : decode cX0_setOut 25 = .ok (.goto (-23), 3) := by decide +kernel
theorem dX0_setOut_28 : decode cX0_setOut 28 = .ok (.aload_n 0, 1) := by decide +kernel
theorem dX0_setOut_29 : decode cX0_setOut 29 = .ok (.getfield 9, 3) := by decide +kernel
theorem dX0_setOut_32 : decode cX0_setOut 32 = .ok (.iload_n 2, 1) := by decide +kernel
theorem dX0_setOut_33 : decode cX0_setOut 33 = .ok (.bipush (-4), 2) := by decide +kernel
theorem dX0_setOut_35 : decode cX0_setOut 35 = .ok (.iastore, 1) := by decide +kernel
theorem dX0_setOut_36 : decode cX0_setOut 36 = .ok (.aload_n 0, 1) := by decide +kernel
theorem dX0_setOut_37 : decode cX0_setOut 37 = .ok (.getfield 15, 3) := by decide +kernel
theorem dX0_setOut_40 : decode cX0_setOut 40 = .ok (.iload_n 2, 1) := by decide +kernel
theorem dX0_setOut_41 : decode cX0_setOut 41 = .ok (.bipush (-4), 2) := by decide +kernel
theorem dX0_setOut_43 : decode cX0_setOut 43 = .ok (.iastore, 1) := by decide +kernel
theorem dX0_setOut_44 : decode cX0_setOut 44 = .ok (.aload_n 0, 1) := by decide +kernel
theorem dX0_setOut_45 : decode cX0_setOut 45 = .ok (.getfield 18, 3) := by decide +kernel
theorem dX0_setOut_48 : decode cX0_setOut 48 = .ok (.iload_n 2, 1) := by decide +kernel
theorem dX0_setOut_49 : decode cX0_setOut 49 = .ok (.iconst 0, 1) := by decide +kernel
theorem dX0_setOut_50 : decode cX0_setOut 50 = .ok (.iastore, 1) := by decide +kernel
theorem dX0_setOut_51 : decode cX0_setOut 51 = .ok (.aload_n 0, 1) := by decide +kernel
theorem dX0_setOut_52 : decode cX0_setOut 52 = .ok (.getfield 21, 3) := by decide +kernel
theorem dX0_setOut_55 : decode cX0_setOut 55 = .ok (.iload_n 2, 1) := by decide +kernel
theorem dX0_setOut_56 : decode cX0_setOut 56 = .ok (.aload_n 1, 1) := by decide +kernel
theorem dX0_setOut_57 : decode cX0_setOut 57 = .ok (.getfield 83, 3) := by decide +kernel
theorem dX0_setOut_60 : decode cX0_setOut 60 = .ok (.iload_n 2, 1) := by decide +kernel
theorem dX0_setOut_61 : decode cX0_setOut 61 = .ok (.iaload, 1) := by decide +kernel
theorem dX0_setOut_62 : decode cX0_setOut 62 = .ok (.iastore, 1) := by decide +kernel
theorem dX0_setOut_63 : decode cX0_setOut 63 = .ok (.return_, 1) := by decide +kernel
theorem dX0_fateRow_0 : decode cX0_fateRow 0 = .ok (.iload_n 1, 1) := by decide +kernel
theorem dX0_fateRow_1 : decode cX0_fateRow 1 = .ok (.tableswitch 42 0 2 #[27, 32, 37], 27) := by decide +kernel
theorem dX0_fateRow_28 : decode cX0_fateRow 28 = .ok (.aload_n 0, 1) := by decide +kernel
theorem dX0_fateRow_29 : decode cX0_fateRow 29 = .ok (.getfield 9, 3) := by decide +kernel
theorem dX0_fateRow_32 : decode cX0_fateRow 32 = .ok (.areturn, 1) := by decide +kernel
theorem dX0_fateRow_33 : decode cX0_fateRow 33 = .ok (.aload_n 0, 1) := by decide +kernel
theorem dX0_fateRow_34 : decode cX0_fateRow 34 = .ok (.getfield 15, 3) := by decide +kernel
theorem dX0_fateRow_37 : decode cX0_fateRow 37 = .ok (.areturn, 1) := by decide +kernel
theorem dX0_fateRow_38 : decode cX0_fateRow 38 = .ok (.aload_n 0, 1) := by decide +kernel
theorem dX0_fateRow_39 : decode cX0_fateRow 39 = .ok (.getfield 18, 3) := by decide +kernel
theorem dX0_fateRow_42 : decode cX0_fateRow 42 = .ok (.areturn, 1) := by decide +kernel
theorem dX0_fateRow_43 : decode cX0_fateRow 43 = .ok (.aload_n 0, 1) := by decide +kernel
theorem dX0_fateRow_44 : decode cX0_fateRow 44 = .ok (.getfield 21, 3) := by decide +kernel
theorem dX0_fateRow_47 : decode cX0_fateRow 47 = .ok (.areturn, 1) := by decide +kernel
theorem dX0_hasVerdict_0 : decode cX0_hasVerdict 0 = .ok (.aload_n 0, 1) := by decide +kernel
theorem dX0_hasVerdict_1 : decode cX0_hasVerdict 1 = .ok (.getfield 9, 3) := by decide +kernel
theorem dX0_hasVerdict_4 : decode cX0_hasVerdict 4 = .ok (.iload_n 1, 1) := by decide +kernel
theorem dX0_hasVerdict_5 : decode cX0_hasVerdict 5 = .ok (.iaload, 1) := by decide +kernel
theorem dX0_hasVerdict_6 : decode cX0_hasVerdict 6 = .ok (.bipush (-4), 2) := by decide +kernel
theorem dX0_hasVerdict_8 : decode cX0_hasVerdict 8 = .ok (.if_icmp .eq 7, 3) := by decide +kernel
theorem dX0_hasVerdict_11 : decode cX0_hasVerdict 11 = .ok (.iconst 1, 1) := by decide +kernel
theorem dX0_hasVerdict_12 : decode cX0_hasVerdict 12 = .ok (.goto 4, 3) := by decide +kernel
theorem dX0_hasVerdict_15 : decode cX0_hasVerdict 15 = .ok (.iconst 0, 1) := by decide +kernel
theorem dX0_hasVerdict_16 : decode cX0_hasVerdict 16 = .ok (.ireturn, 1) := by decide +kernel
set_option maxRecDepth 20000 in
theorem ggX0_verdicts_X0_whoHas : GoodIn wsX0_verdicts wsX0_whoHas := goodIn_r _ [5, 6, 7, 8, 9, 4, 10, 11, 12, 13, 14, 22, 23, 24, 25, 26, 27, 28] (by decide +kernel) (by decide +kernel)
set_option maxRecDepth 20000 in
theorem gX0_verdicts_X0_whoHas : GoodIn wsX0_verdicts (wsV RX0 86 RX0 yX0_whoHas wsX0_whoHas) := goodIn_app (goodIn_of _ (by decide +kernel)) ggX0_verdicts_X0_whoHas
set_option maxRecDepth 20000 in
theorem ggX0_verdicts_J6_bitCount_0f7a4 : GoodIn wsX0_verdicts wsJ6_bitCount_0f7a4 := goodIn_r _ [18, 19, 20, 21] (by decide +kernel) (by decide +kernel)
set_option maxRecDepth 20000 in
theorem gX0_verdicts_J6_bitCount_0f7a4 : GoodIn wsX0_verdicts (va_wsS RX0 59 yJ6_bitCount_0f7a4 wsJ6_bitCount_0f7a4) := goodIn_app (goodIn_of _ (by decide +kernel)) ggX0_verdicts_J6_bitCount_0f7a4
theorem dX0_verdicts_0 : decode cX0_verdicts 0 = .ok (.aload_n 0, 1) := by decide +kernel
theorem dX0_verdicts_1 : decode cX0_verdicts 1 = .ok (.iconst 0, 1) := by decide +kernel
theorem dX0_verdicts_2 : decode cX0_verdicts 2 = .ok (.invokevirtual 86, 3) := by decide +kernel
theorem dX0_verdicts_5 : decode cX0_verdicts 5 = .ok (.invokestatic 59, 3) := by decide +kernel
theorem dX0_verdicts_8 : decode cX0_verdicts 8 = .ok (.ireturn, 1) := by decide +kernel
set_option maxRecDepth 20000 in
theorem ggX0_whoHas_X0_fateRow : GoodIn wsX0_whoHas wsX0_fateRow := goodIn_r _ [6, 7, 8, 9, 10, 11, 12, 13, 14, 15, 16, 17] (by decide +kernel) (by decide +kernel)
set_option maxRecDepth 20000 in
theorem gX0_whoHas_X0_fateRow : GoodIn wsX0_whoHas (wsV RX0 89 RX0 yX0_fateRow wsX0_fateRow) := goodIn_app (goodIn_of _ (by decide +kernel)) ggX0_whoHas_X0_fateRow
theorem dX0_whoHas_0 : decode cX0_whoHas 0 = .ok (.aload_n 0, 1) := by decide +kernel
theorem dX0_whoHas_1 : decode cX0_whoHas 1 = .ok (.iload_n 1, 1) := by decide +kernel
theorem dX0_whoHas_2 : decode cX0_whoHas 2 = .ok (.invokevirtual 89, 3) := by decide +kernel
theorem dX0_whoHas_5 : decode cX0_whoHas 5 = .ok (.astore_n 2, 1) := by decide +kernel
theorem dX0_whoHas_6 : decode cX0_whoHas 6 = .ok (.iconst 0, 1) := by decide +kernel
theorem dX0_whoHas_7 : decode cX0_whoHas 7 = .ok (.istore_n 3, 1) := by decide +kernel
theorem dX0_whoHas_8 : decode cX0_whoHas 8 = .ok (.iconst 0, 1) := by decide +kernel
theorem dX0_whoHas_9 : decode cX0_whoHas 9 = .ok (.istore 4, 2) := by decide +kernel
theorem dX0_whoHas_11 : decode cX0_whoHas 11 = .ok (.iload 4, 2) := by decide +kernel
theorem dX0_whoHas_13 : decode cX0_whoHas 13 = .ok (.aload_n 0, 1) := by decide +kernel
theorem dX0_whoHas_14 : decode cX0_whoHas 14 = .ok (.getfield 31, 3) := by decide +kernel
theorem dX0_whoHas_17 : decode cX0_whoHas 17 = .ok (.if_icmp .ge 25, 3) := by decide +kernel
theorem dX0_whoHas_20 : decode cX0_whoHas 20 = .ok (.aload_n 2, 1) := by decide +kernel
theorem dX0_whoHas_21 : decode cX0_whoHas 21 = .ok (.iload 4, 2) := by decide +kernel
theorem dX0_whoHas_23 : decode cX0_whoHas 23 = .ok (.iaload, 1) := by decide +kernel
theorem dX0_whoHas_24 : decode cX0_whoHas 24 = .ok (.bipush (-4), 2) := by decide +kernel
theorem dX0_whoHas_26 : decode cX0_whoHas 26 = .ok (.if_icmp .eq 10, 3) := by decide +kernel
theorem dX0_whoHas_29 : decode cX0_whoHas 29 = .ok (.iload_n 3, 1) := by decide +kernel
theorem dX0_whoHas_30 : decode cX0_whoHas 30 = .ok (.iconst 1, 1) := by decide +kernel
theorem dX0_whoHas_31 : decode cX0_whoHas 31 = .ok (.iload 4, 2) := by decide +kernel
theorem dX0_whoHas_33 : decode cX0_whoHas 33 = .ok (.ishl, 1) := by decide +kernel
theorem dX0_whoHas_34 : decode cX0_whoHas 34 = .ok (.ior, 1) := by decide +kernel
theorem dX0_whoHas_35 : decode cX0_whoHas 35 = .ok (.istore_n 3, 1) := by decide +kernel
theorem dX0_whoHas_36 : decode cX0_whoHas 36 = .ok (.iinc 4 1, 3) := by decide +kernel
theorem dX0_whoHas_39 : decode cX0_whoHas 39 = .ok (.goto (-28), 3) := by decide +kernel
theorem dX0_whoHas_42 : decode cX0_whoHas 42 = .ok (.iload_n 3, 1) := by decide +kernel
theorem dX0_whoHas_43 : decode cX0_whoHas 43 = .ok (.ireturn, 1) := by decide +kernel
theorem dX0_lastVerdict_0 : decode cX0_lastVerdict 0 = .ok (.bipush (-4), 2) := by decide +kernel
theorem dX0_lastVerdict_2 : decode cX0_lastVerdict 2 = .ok (.istore_n 1, 1) := by decide +kernel
theorem dX0_lastVerdict_3 : decode cX0_lastVerdict 3 = .ok (.iconst 0, 1) := by decide +kernel
theorem dX0_lastVerdict_4 : decode cX0_lastVerdict 4 = .ok (.istore_n 2, 1) := by decide +kernel
theorem dX0_lastVerdict_5 : decode cX0_lastVerdict 5 = .ok (.iload_n 2, 1) := by decide +kernel
theorem dX0_lastVerdict_6 : decode cX0_lastVerdict 6 = .ok (.aload_n 0, 1) := by decide +kernel
theorem dX0_lastVerdict_7 : decode cX0_lastVerdict 7 = .ok (.getfield 31, 3) := by decide +kernel
theorem dX0_lastVerdict_10 : decode cX0_lastVerdict 10 = .ok (.if_icmp .ge 20, 3) := by decide +kernel
theorem dX0_lastVerdict_13 : decode cX0_lastVerdict 13 = .ok (.iload_n 1, 1) := by decide +kernel
theorem dX0_lastVerdict_14 : decode cX0_lastVerdict 14 = .ok (.aload_n 0, 1) := by decide +kernel
theorem dX0_lastVerdict_15 : decode cX0_lastVerdict 15 = .ok (.getfield 9, 3) := by decide +kernel
theorem dX0_lastVerdict_18 : decode cX0_lastVerdict 18 = .ok (.iload_n 2, 1) := by decide +kernel
theorem dX0_lastVerdict_19 : decode cX0_lastVerdict 19 = .ok (.iaload, 1) := by decide +kernel
theorem dX0_lastVerdict_20 : decode cX0_lastVerdict 20 = .ok (.invokestatic 93, 3) := by decide +kernel
theorem dX0_lastVerdict_23 : decode cX0_lastVerdict 23 = .ok (.istore_n 1, 1) := by decide +kernel
theorem dX0_lastVerdict_24 : decode cX0_lastVerdict 24 = .ok (.iinc 2 1, 3) := by decide +kernel
theorem dX0_lastVerdict_27 : decode cX0_lastVerdict 27 = .ok (.goto (-22), 3) := by decide +kernel
theorem dX0_lastVerdict_30 : decode cX0_lastVerdict 30 = .ok (.iload_n 1, 1) := by decide +kernel
theorem dX0_lastVerdict_31 : decode cX0_lastVerdict 31 = .ok (.ireturn, 1) := by decide +kernel
theorem dX0_heardInAll_0 : decode cX0_heardInAll 0 = .ok (.iconst 0, 1) := by decide +kernel
theorem dX0_heardInAll_1 : decode cX0_heardInAll 1 = .ok (.istore_n 1, 1) := by decide +kernel
theorem dX0_heardInAll_2 : decode cX0_heardInAll 2 = .ok (.iconst 0, 1) := by decide +kernel
theorem dX0_heardInAll_3 : decode cX0_heardInAll 3 = .ok (.istore_n 2, 1) := by decide +kernel
theorem dX0_heardInAll_4 : decode cX0_heardInAll 4 = .ok (.iload_n 2, 1) := by decide +kernel
theorem dX0_heardInAll_5 : decode cX0_heardInAll 5 = .ok (.aload_n 0, 1) := by decide +kernel
theorem dX0_heardInAll_6 : decode cX0_heardInAll 6 = .ok (.getfield 31, 3) := by decide +kernel
theorem dX0_heardInAll_9 : decode cX0_heardInAll 9 = .ok (.if_icmp .ge 18, 3) := by decide +kernel
theorem dX0_heardInAll_12 : decode cX0_heardInAll 12 = .ok (.iload_n 1, 1) := by decide +kernel
theorem dX0_heardInAll_13 : decode cX0_heardInAll 13 = .ok (.aload_n 0, 1) := by decide +kernel
theorem dX0_heardInAll_14 : decode cX0_heardInAll 14 = .ok (.getfield 18, 3) := by decide +kernel
theorem dX0_heardInAll_17 : decode cX0_heardInAll 17 = .ok (.iload_n 2, 1) := by decide +kernel
theorem dX0_heardInAll_18 : decode cX0_heardInAll 18 = .ok (.iaload, 1) := by decide +kernel
theorem dX0_heardInAll_19 : decode cX0_heardInAll 19 = .ok (.iadd, 1) := by decide +kernel
theorem dX0_heardInAll_20 : decode cX0_heardInAll 20 = .ok (.istore_n 1, 1) := by decide +kernel
theorem dX0_heardInAll_21 : decode cX0_heardInAll 21 = .ok (.iinc 2 1, 3) := by decide +kernel
theorem dX0_heardInAll_24 : decode cX0_heardInAll 24 = .ok (.goto (-20), 3) := by decide +kernel
theorem dX0_heardInAll_27 : decode cX0_heardInAll 27 = .ok (.iload_n 1, 1) := by decide +kernel
theorem dX0_heardInAll_28 : decode cX0_heardInAll 28 = .ok (.ireturn, 1) := by decide +kernel
set_option maxRecDepth 20000 in
theorem ggX1_init_X2_init : GoodIn wsX1_init wsX2_init := goodIn_r _ [13, 14, 2, 3, 15, 16, 17, 18, 19, 20, 21, 22, 23, 24, 25, 31, 32, 33, 34, 35, 36, 37, 38, 39, 40, 41, 42] (by decide +kernel) (by decide +kernel)
set_option maxRecDepth 20000 in
theorem gX1_init_X2_init_n9 : GoodIn wsX1_init (wsX2_init) := ggX1_init_X2_init
set_option maxRecDepth 20000 in
theorem ggX1_init_X5_init : GoodIn wsX1_init wsX5_init := goodIn_r _ [27, 28, 2, 3, 15, 29, 30, 46, 47, 48] (by decide +kernel) (by decide +kernel)
set_option maxRecDepth 20000 in
theorem gX1_init_X5_init_n18 : GoodIn wsX1_init (wsX5_init) := ggX1_init_X5_init
theorem dX1_init_0 : decode cX1_init 0 = .ok (.aload_n 0, 1) := by decide +kernel
theorem dX1_init_1 : decode cX1_init 1 = .ok (.invokespecial 1, 3) := by decide +kernel
theorem dX1_init_4 : decode cX1_init 4 = .ok (.aload_n 0, 1) := by decide +kernel
theorem dX1_init_5 : decode cX1_init 5 = .ok (.new 7, 3) := by decide +kernel
theorem dX1_init_8 : decode cX1_init 8 = .ok (.dup, 1) := by decide +kernel
theorem dX1_init_9 : decode cX1_init 9 = .ok (.invokespecial 9, 3) := by decide +kernel
theorem dX1_init_12 : decode cX1_init 12 = .ok (.putfield 10, 3) := by decide +kernel
theorem dX1_init_15 : decode cX1_init 15 = .ok (.aload_n 0, 1) := by decide +kernel
theorem dX1_init_16 : decode cX1_init 16 = .ok (.new 16, 3) := by decide +kernel
theorem dX1_init_19 : decode cX1_init 19 = .ok (.dup, 1) := by decide +kernel
theorem dX1_init_20 : decode cX1_init 20 = .ok (.invokespecial 18, 3) := by decide +kernel
theorem dX1_init_23 : decode cX1_init 23 = .ok (.putfield 19, 3) := by decide +kernel
theorem dX1_init_26 : decode cX1_init 26 = .ok (.return_, 1) := by decide +kernel
theorem dX2_init_0 : decode cX2_init 0 = .ok (.aload_n 0, 1) := by decide +kernel
theorem dX2_init_1 : decode cX2_init 1 = .ok (.invokespecial 3, 3) := by decide +kernel
theorem dX2_init_4 : decode cX2_init 4 = .ok (.aload_n 0, 1) := by decide +kernel
theorem dX2_init_5 : decode cX2_init 5 = .ok (.bipush 8, 2) := by decide +kernel
theorem dX2_init_7 : decode cX2_init 7 = .ok (.newarray .int, 2) := by decide +kernel
theorem dX2_init_9 : decode cX2_init 9 = .ok (.putfield 9, 3) := by decide +kernel
theorem dX2_init_12 : decode cX2_init 12 = .ok (.aload_n 0, 1) := by decide +kernel
theorem dX2_init_13 : decode cX2_init 13 = .ok (.bipush 8, 2) := by decide +kernel
theorem dX2_init_15 : decode cX2_init 15 = .ok (.newarray .int, 2) := by decide +kernel
theorem dX2_init_17 : decode cX2_init 17 = .ok (.putfield 15, 3) := by decide +kernel
theorem dX2_init_20 : decode cX2_init 20 = .ok (.aload_n 0, 1) := by decide +kernel
theorem dX2_init_21 : decode cX2_init 21 = .ok (.bipush 8, 2) := by decide +kernel
theorem dX2_init_23 : decode cX2_init 23 = .ok (.newarray .int, 2) := by decide +kernel
theorem dX2_init_25 : decode cX2_init 25 = .ok (.putfield 18, 3) := by decide +kernel
theorem dX2_init_28 : decode cX2_init 28 = .ok (.aload_n 0, 1) := by decide +kernel
theorem dX2_init_29 : decode cX2_init 29 = .ok (.iconst 4, 1) := by decide +kernel
theorem dX2_init_30 : decode cX2_init 30 = .ok (.newarray .int, 2) := by decide +kernel
theorem dX2_init_32 : decode cX2_init 32 = .ok (.putfield 21, 3) := by decide +kernel
theorem dX2_init_35 : decode cX2_init 35 = .ok (.aload_n 0, 1) := by decide +kernel
theorem dX2_init_36 : decode cX2_init 36 = .ok (.iconst 4, 1) := by decide +kernel
theorem dX2_init_37 : decode cX2_init 37 = .ok (.newarray .int, 2) := by decide +kernel
theorem dX2_init_39 : decode cX2_init 39 = .ok (.putfield 24, 3) := by decide +kernel
theorem dX2_init_42 : decode cX2_init 42 = .ok (.aload_n 0, 1) := by decide +kernel
theorem dX2_init_43 : decode cX2_init 43 = .ok (.iconst 4, 1) := by decide +kernel
theorem dX2_init_44 : decode cX2_init 44 = .ok (.newarray .int, 2) := by decide +kernel
theorem dX2_init_46 : decode cX2_init 46 = .ok (.putfield 27, 3) := by decide +kernel
theorem dX2_init_49 : decode cX2_init 49 = .ok (.aload_n 0, 1) := by decide +kernel
theorem dX2_init_50 : decode cX2_init 50 = .ok (.iconst 4, 1) := by decide +kernel
theorem dX2_init_51 : decode cX2_init 51 = .ok (.newarray .int, 2) := by decide +kernel
theorem dX2_init_53 : decode cX2_init 53 = .ok (.putfield 30, 3) := by decide +kernel
theorem dX2_init_56 : decode cX2_init 56 = .ok (.aload_n 0, 1) := by decide +kernel
theorem dX2_init_57 : decode cX2_init 57 = .ok (.iconst 4, 1) := by decide +kernel
theorem dX2_init_58 : decode cX2_init 58 = .ok (.newarray .int, 2) := by decide +kernel
theorem dX2_init_60 : decode cX2_init 60 = .ok (.putfield 33, 3) := by decide +kernel
theorem dX2_init_63 : decode cX2_init 63 = .ok (.aload_n 0, 1) := by decide +kernel
theorem dX2_init_64 : decode cX2_init 64 = .ok (.iconst 4, 1) := by decide +kernel
theorem dX2_init_65 : decode cX2_init 65 = .ok (.putfield 36, 3) := by decide +kernel
theorem dX2_init_68 : decode cX2_init 68 = .ok (.aload_n 0, 1) := by decide +kernel
theorem dX2_init_69 : decode cX2_init 69 = .ok (.bipush 99, 2) := by decide +kernel
theorem dX2_init_71 : decode cX2_init 71 = .ok (.putfield 40, 3) := by decide +kernel
theorem dX2_init_74 : decode cX2_init 74 = .ok (.return_, 1) := by decide +kernel
theorem dX2_wipe_0 : decode cX2_wipe 0 = .ok (.aload_n 0, 1) := by decide +kernel
theorem dX2_wipe_1 : decode cX2_wipe 1 = .ok (.iconst 0, 1) := by decide +kernel
theorem dX2_wipe_2 : decode cX2_wipe 2 = .ok (.putfield 43, 3) := by decide +kernel
theorem dX2_wipe_5 : decode cX2_wipe 5 = .ok (.aload_n 0, 1) := by decide +kernel
theorem dX2_wipe_6 : decode cX2_wipe 6 = .ok (.iconst 0, 1) := by decide +kernel
theorem dX2_wipe_7 : decode cX2_wipe 7 = .ok (.putfield 46, 3) := by decide +kernel
theorem dX2_wipe_10 : decode cX2_wipe 10 = .ok (.aload_n 0, 1) := by decide +kernel
theorem dX2_wipe_11 : decode cX2_wipe 11 = .ok (.iconst 4, 1) := by decide +kernel
theorem dX2_wipe_12 : decode cX2_wipe 12 = .ok (.putfield 36, 3) := by decide +kernel
theorem dX2_wipe_15 : decode cX2_wipe 15 = .ok (.aload_n 0, 1) := by decide +kernel
theorem dX2_wipe_16 : decode cX2_wipe 16 = .ok (.bipush 99, 2) := by decide +kernel
theorem dX2_wipe_18 : decode cX2_wipe 18 = .ok (.putfield 40, 3) := by decide +kernel
theorem dX2_wipe_21 : decode cX2_wipe 21 = .ok (.iconst 0, 1) := by decide +kernel
theorem dX2_wipe_22 : decode cX2_wipe 22 = .ok (.istore_n 1, 1) := by decide +kernel
theorem dX2_wipe_23 : decode cX2_wipe 23 = .ok (.iload_n 1, 1) := by decide +kernel
theorem dX2_wipe_24 : decode cX2_wipe 24 = .ok (.bipush 8, 2) := by decide +kernel
theorem dX2_wipe_26 : decode cX2_wipe 26 = .ok (.if_icmp .ge 16, 3) := by decide +kernel
theorem dX2_wipe_29 : decode cX2_wipe 29 = .ok (.aload_n 0, 1) := by decide +kernel
theorem dX2_wipe_30 : decode cX2_wipe 30 = .ok (.getfield 18, 3) := by decide +kernel
theorem dX2_wipe_33 : decode cX2_wipe 33 = .ok (.iload_n 1, 1) := by decide +kernel
theorem dX2_wipe_34 : decode cX2_wipe 34 = .ok (.iconst 0, 1) := by decide +kernel
theorem dX2_wipe_35 : decode cX2_wipe 35 = .ok (.iastore, 1) := by decide +kernel
theorem dX2_wipe_36 : decode cX2_wipe 36 = .ok (.iinc 1 1, 3) := by decide +kernel
theorem dX2_wipe_39 : decode cX2_wipe 39 = .ok (.goto (-16), 3) := by decide +kernel
theorem dX2_wipe_42 : decode cX2_wipe 42 = .ok (.return_, 1) := by decide +kernel
theorem dX2_copyFrom_0 : decode cX2_copyFrom 0 = .ok (.aload_n 1, 1) := by decide +kernel
theorem dX2_copyFrom_1 : decode cX2_copyFrom 1 = .ok (.getfield 9, 3) := by decide +kernel
theorem dX2_copyFrom_4 : decode cX2_copyFrom 4 = .ok (.iconst 0, 1) := by decide +kernel
theorem dX2_copyFrom_5 : decode cX2_copyFrom 5 = .ok (.aload_n 0, 1) := by decide +kernel
theorem dX2_copyFrom_6 : decode cX2_copyFrom 6 = .ok (.getfield 9, 3) := by decide +kernel
theorem dX2_copyFrom_9 : decode cX2_copyFrom 9 = .ok (.iconst 0, 1) := by decide +kernel
theorem dX2_copyFrom_10 : decode cX2_copyFrom 10 = .ok (.bipush 8, 2) := by decide +kernel
theorem dX2_copyFrom_12 : decode cX2_copyFrom 12 = .ok (.invokestatic 49, 3) := by decide +kernel
theorem dX2_copyFrom_15 : decode cX2_copyFrom 15 = .ok (.aload_n 1, 1) := by decide +kernel
theorem dX2_copyFrom_16 : decode cX2_copyFrom 16 = .ok (.getfield 15, 3) := by decide +kernel
theorem dX2_copyFrom_19 : decode cX2_copyFrom 19 = .ok (.iconst 0, 1) := by decide +kernel
theorem dX2_copyFrom_20 : decode cX2_copyFrom 20 = .ok (.aload_n 0, 1) := by decide +kernel
theorem dX2_copyFrom_21 : decode cX2_copyFrom 21 = .ok (.getfield 15, 3) := by decide +kernel
theorem dX2_copyFrom_24 : decode cX2_copyFrom 24 = .ok (.iconst 0, 1) := by decide +kernel
theorem dX2_copyFrom_25 : decode cX2_copyFrom 25 = .ok (.bipush 8, 2) := by decide +kernel
theorem dX2_copyFrom_27 : decode cX2_copyFrom 27 = .ok (.invokestatic 49, 3) := by decide +kernel
theorem dX2_copyFrom_30 : decode cX2_copyFrom 30 = .ok (.aload_n 1, 1) := by decide +kernel
theorem dX2_copyFrom_31 : decode cX2_copyFrom 31 = .ok (.getfield 18, 3) := by decide +kernel
theorem dX2_copyFrom_34 : decode cX2_copyFrom 34 = .ok (.iconst 0, 1) := by decide +kernel
theorem dX2_copyFrom_35 : decode cX2_copyFrom 35 = .ok (.aload_n 0, 1) := by decide +kernel
theorem dX2_copyFrom_36 : decode cX2_copyFrom 36 = .ok (.getfield 18, 3) := by decide +kernel
theorem dX2_copyFrom_39 : decode cX2_copyFrom 39 = .ok (.iconst 0, 1) := by decide +kernel
theorem dX2_copyFrom_40 : decode cX2_copyFrom 40 = .ok (.bipush 8, 2) := by decide +kernel
theorem dX2_copyFrom_42 : decode cX2_copyFrom 42 = .ok (.invokestatic 49, 3) := by decide +kernel
theorem dX2_copyFrom_45 : decode cX2_copyFrom 45 = .ok (.aload_n 1, 1) := by decide +kernel
theorem dX2_copyFrom_46 : decode cX2_copyFrom 46 = .ok (.getfield 21, 3) := by decide +kernel
theorem dX2_copyFrom_49 : decode cX2_copyFrom 49 = .ok (.iconst 0, 1) := by decide +kernel
theorem dX2_copyFrom_50 : decode cX2_copyFrom 50 = .ok (.aload_n 0, 1) := by decide +kernel
theorem dX2_copyFrom_51 : decode cX2_copyFrom 51 = .ok (.getfield 21, 3) := by decide +kernel
theorem dX2_copyFrom_54 : decode cX2_copyFrom 54 = .ok (.iconst 0, 1) := by decide +kernel
theorem dX2_copyFrom_55 : decode cX2_copyFrom 55 = .ok (.iconst 4, 1) := by decide +kernel
theorem dX2_copyFrom_56 : decode cX2_copyFrom 56 = .ok (.invokestatic 49, 3) := by decide +kernel
theorem dX2_copyFrom_59 : decode cX2_copyFrom 59 = .ok (.aload_n 1, 1) := by decide +kernel
theorem dX2_copyFrom_60 : decode cX2_copyFrom 60 = .ok (.getfield 24, 3) := by decide +kernel
theorem dX2_copyFrom_63 : decode cX2_copyFrom 63 = .ok (.iconst 0, 1) := by decide +kernel
theorem dX2_copyFrom_64 : decode cX2_copyFrom 64 = .ok (.aload_n 0, 1) := by decide +kernel
theorem dX2_copyFrom_65 : decode cX2_copyFrom 65 = .ok (.getfield 24, 3) := by decide +kernel
theorem dX2_copyFrom_68 : decode cX2_copyFrom 68 = .ok (.iconst 0, 1) := by decide +kernel
theorem dX2_copyFrom_69 : decode cX2_copyFrom 69 = .ok (.iconst 4, 1) := by decide +kernel
theorem dX2_copyFrom_70 : decode cX2_copyFrom 70 = .ok (.invokestatic 49, 3) := by decide +kernel
theorem dX2_copyFrom_73 : decode cX2_copyFrom 73 = .ok (.aload_n 1, 1) := by decide +kernel
theorem dX2_copyFrom_74 : decode cX2_copyFrom 74 = .ok (.getfield 27, 3) := by decide +kernel
theorem dX2_copyFrom_77 : decode cX2_copyFrom 77 = .ok (.iconst 0, 1) := by decide +kernel
theorem dX2_copyFrom_78 : decode cX2_copyFrom 78 = .ok (.aload_n 0, 1) := by decide +kernel
theorem dX2_copyFrom_79 : decode cX2_copyFrom 79 = .ok (.getfield 27, 3) := by decide +kernel
theorem dX2_copyFrom_82 : decode cX2_copyFrom 82 = .ok (.iconst 0, 1) := by decide +kernel
theorem dX2_copyFrom_83 : decode cX2_copyFrom 83 = .ok (.iconst 4, 1) := by decide +kernel
theorem dX2_copyFrom_84 : decode cX2_copyFrom 84 = .ok (.invokestatic 49, 3) := by decide +kernel
theorem dX2_copyFrom_87 : decode cX2_copyFrom 87 = .ok (.aload_n 1, 1) := by decide +kernel
theorem dX2_copyFrom_88 : decode cX2_copyFrom 88 = .ok (.getfield 30, 3) := by decide +kernel
theorem dX2_copyFrom_91 : decode cX2_copyFrom 91 = .ok (.iconst 0, 1) := by decide +kernel
theorem dX2_copyFrom_92 : decode cX2_copyFrom 92 = .ok (.aload_n 0, 1) := by decide +kernel
theorem dX2_copyFrom_93 : decode cX2_copyFrom 93 = .ok (.getfield 30, 3) := by decide +kernel
theorem dX2_copyFrom_96 : decode cX2_copyFrom 96 = .ok (.iconst 0, 1) := by decide +kernel
theorem dX2_copyFrom_97 : decode cX2_copyFrom 97 = .ok (.iconst 4, 1) := by decide +kernel
theorem dX2_copyFrom_98 : decode cX2_copyFrom 98 = .ok (.invokestatic 49, 3) := by decide +kernel
theorem dX2_copyFrom_101 : decode cX2_copyFrom 101 = .ok (.aload_n 1, 1) := by decide +kernel
theorem dX2_copyFrom_102 : decode cX2_copyFrom 102 = .ok (.getfield 33, 3) := by decide +kernel
theorem dX2_copyFrom_105 : decode cX2_copyFrom 105 = .ok (.iconst 0, 1) := by decide +kernel
theorem dX2_copyFrom_106 : decode cX2_copyFrom 106 = .ok (.aload_n 0, 1) := by decide +kernel
theorem dX2_copyFrom_107 : decode cX2_copyFrom 107 = .ok (.getfield 33, 3) := by decide +kernel
theorem dX2_copyFrom_110 : decode cX2_copyFrom 110 = .ok (.iconst 0, 1) := by decide +kernel
theorem dX2_copyFrom_111 : decode cX2_copyFrom 111 = .ok (.iconst 4, 1) := by decide +kernel
theorem dX2_copyFrom_112 : decode cX2_copyFrom 112 = .ok (.invokestatic 49, 3) := by decide +kernel
theorem dX2_copyFrom_115 : decode cX2_copyFrom 115 = .ok (.aload_n 0, 1) := by decide +kernel
theorem dX2_copyFrom_116 : decode cX2_copyFrom 116 = .ok (.aload_n 1, 1) := by decide +kernel
theorem dX2_copyFrom_117 : decode cX2_copyFrom 117 = .ok (.getfield 43, 3) := by decide +kernel
theorem dX2_copyFrom_120 : decode cX2_copyFrom 120 = .ok (.putfield 43, 3) := by decide +kernel
theorem dX2_copyFrom_123 : decode cX2_copyFrom 123 = .ok (.aload_n 0, 1) := by decide +kernel
theorem dX2_copyFrom_124 : decode cX2_copyFrom 124 = .ok (.aload_n 1, 1) := by decide +kernel
theorem dX2_copyFrom_125 : decode cX2_copyFrom 125 = .ok (.getfield 46, 3) := by decide +kernel
theorem dX2_copyFrom_128 : decode cX2_copyFrom 128 = .ok (.putfield 46, 3) := by decide +kernel
theorem dX2_copyFrom_131 : decode cX2_copyFrom 131 = .ok (.aload_n 0, 1) := by decide +kernel
theorem dX2_copyFrom_132 : decode cX2_copyFrom 132 = .ok (.aload_n 1, 1) := by decide +kernel
theorem dX2_copyFrom_133 : decode cX2_copyFrom 133 = .ok (.getfield 36, 3) := by decide +kernel
theorem dX2_copyFrom_136 : decode cX2_copyFrom 136 = .ok (.putfield 36, 3) := by decide +kernel
theorem dX2_copyFrom_139 : decode cX2_copyFrom 139 = .ok (.aload_n 0, 1) := by decide +kernel
theorem dX2_copyFrom_140 : decode cX2_copyFrom 140 = .ok (.aload_n 1, 1) := by decide +kernel
theorem dX2_copyFrom_141 : decode cX2_copyFrom 141 = .ok (.getfield 40, 3) := by decide +kernel
theorem dX2_copyFrom_144 : decode cX2_copyFrom 144 = .ok (.putfield 40, 3) := by decide +kernel
theorem dX2_copyFrom_147 : decode cX2_copyFrom 147 = .ok (.return_, 1) := by decide +kernel
theorem dX2_hasMile_0 : decode cX2_hasMile 0 = .ok (.iload_n 1, 1) := by decide +kernel
theorem dX2_hasMile_1 : decode cX2_hasMile 1 = .ok (.ifCond .lt 15, 3) := by decide +kernel
theorem dX2_hasMile_4 : decode cX2_hasMile 4 = .ok (.iload_n 1, 1) := by decide +kernel
theorem dX2_hasMile_5 : decode cX2_hasMile 5 = .ok (.aload_n 0, 1) := by decide +kernel
theorem dX2_hasMile_6 : decode cX2_hasMile 6 = .ok (.getfield 43, 3) := by decide +kernel
theorem dX2_hasMile_9 : decode cX2_hasMile 9 = .ok (.if_icmp .ge 7, 3) := by decide +kernel
theorem dX2_hasMile_12 : decode cX2_hasMile 12 = .ok (.iconst 1, 1) := by decide +kernel
theorem dX2_hasMile_13 : decode cX2_hasMile 13 = .ok (.goto 4, 3) := by decide +kernel
theorem dX2_hasMile_16 : decode cX2_hasMile 16 = .ok (.iconst 0, 1) := by decide +kernel
theorem dX2_hasMile_17 : decode cX2_hasMile 17 = .ok (.ireturn, 1) := by decide +kernel
theorem dX2_hasParty_0 : decode cX2_hasParty 0 = .ok (.iload_n 1, 1) := by decide +kernel
theorem dX2_hasParty_1 : decode cX2_hasParty 1 = .ok (.ifCond .lt 15, 3) := by decide +kernel
theorem dX2_hasParty_4 : decode cX2_hasParty 4 = .ok (.iload_n 1, 1) := by decide +kernel
theorem dX2_hasParty_5 : decode cX2_hasParty 5 = .ok (.aload_n 0, 1) := by decide +kernel
theorem dX2_hasParty_6 : decode cX2_hasParty 6 = .ok (.getfield 46, 3) := by decide +kernel
theorem dX2_hasParty_9 : decode cX2_hasParty 9 = .ok (.if_icmp .ge 7, 3) := by decide +kernel
theorem dX2_hasParty_12 : decode cX2_hasParty 12 = .ok (.iconst 1, 1) := by decide +kernel
theorem dX2_hasParty_13 : decode cX2_hasParty 13 = .ok (.goto 4, 3) := by decide +kernel
theorem dX2_hasParty_16 : decode cX2_hasParty 16 = .ok (.iconst 0, 1) := by decide +kernel
theorem dX2_hasParty_17 : decode cX2_hasParty 17 = .ok (.ireturn, 1) := by decide +kernel
theorem dX2_hasSignpost_0 : decode cX2_hasSignpost 0 = .ok (.iload_n 1, 1) := by decide +kernel
theorem dX2_hasSignpost_1 : decode cX2_hasSignpost 1 = .ok (.ifCond .lt 17, 3) := by decide +kernel
theorem dX2_hasSignpost_4 : decode cX2_hasSignpost 4 = .ok (.iload_n 1, 1) := by decide +kernel
theorem dX2_hasSignpost_5 : decode cX2_hasSignpost 5 = .ok (.aload_n 0, 1) := by decide +kernel
theorem dX2_hasSignpost_6 : decode cX2_hasSignpost 6 = .ok (.getfield 43, 3) := by decide +kernel
theorem dX2_hasSignpost_9 : decode cX2_hasSignpost 9 = .ok (.iconst 1, 1) := by decide +kernel
theorem dX2_hasSignpost_10 : decode cX2_hasSignpost 10 = .ok (.isub, 1) := by decide +kernel
theorem dX2_hasSignpost_11 : decode cX2_hasSignpost 11 = .ok (.if_icmp .ge 7, 3) := by decide +kernel
theorem dX2_hasSignpost_14 : decode cX2_hasSignpost 14 = .ok (.iconst 1, 1) := by decide +kernel
theorem dX2_hasSignpost_15 : decode cX2_hasSignpost 15 = .ok (.goto 4, 3) := by decide +kernel
theorem dX2_hasSignpost_18 : decode cX2_hasSignpost 18 = .ok (.iconst 0, 1) := by decide +kernel
theorem dX2_hasSignpost_19 : decode cX2_hasSignpost 19 = .ok (.ireturn, 1) := by decide +kernel
theorem dX2_mileRow_0 : decode cX2_mileRow 0 = .ok (.iload_n 1, 1) := by decide +kernel
theorem dX2_mileRow_1 : decode cX2_mileRow 1 = .ok (.lookupswitch 37 #[(0, 27), (1, 32)], 27) := by decide +kernel
theorem dX2_mileRow_28 : decode cX2_mileRow 28 = .ok (.aload_n 0, 1) := by decide +kernel
theorem dX2_mileRow_29 : decode cX2_mileRow 29 = .ok (.getfield 9, 3) := by decide +kernel
theorem dX2_mileRow_32 : decode cX2_mileRow 32 = .ok (.areturn, 1) := by decide +kernel
theorem dX2_mileRow_33 : decode cX2_mileRow 33 = .ok (.aload_n 0, 1) := by decide +kernel
theorem dX2_mileRow_34 : decode cX2_mileRow 34 = .ok (.getfield 15, 3) := by decide +kernel
theorem dX2_mileRow_37 : decode cX2_mileRow 37 = .ok (.areturn, 1) := by decide +kernel
theorem dX2_mileRow_38 : decode cX2_mileRow 38 = .ok (.aload_n 0, 1) := by decide +kernel
theorem dX2_mileRow_39 : decode cX2_mileRow 39 = .ok (.getfield 18, 3) := by decide +kernel
theorem dX2_mileRow_42 : decode cX2_mileRow 42 = .ok (.areturn, 1) := by decide +kernel
theorem dX2_partyRow_0 : decode cX2_partyRow 0 = .ok (.iload_n 1, 1) := by decide +kernel
theorem dX2_partyRow_1 : decode cX2_partyRow 1 = .ok (.tableswitch 51 0 3 #[31, 36, 41, 46], 31) := by decide +kernel
theorem dX2_partyRow_32 : decode cX2_partyRow 32 = .ok (.aload_n 0, 1) := by decide +kernel
theorem dX2_partyRow_33 : decode cX2_partyRow 33 = .ok (.getfield 21, 3) := by decide +kernel
theorem dX2_partyRow_36 : decode cX2_partyRow 36 = .ok (.areturn, 1) := by decide +kernel
theorem dX2_partyRow_37 : decode cX2_partyRow 37 = .ok (.aload_n 0, 1) := by decide +kernel
theorem dX2_partyRow_38 : decode cX2_partyRow 38 = .ok (.getfield 24, 3) := by decide +kernel
theorem dX2_partyRow_41 : decode cX2_partyRow 41 = .ok (.areturn, 1) := by decide +kernel
theorem dX2_partyRow_42 : decode cX2_partyRow 42 = .ok (.aload_n 0, 1) := by decide +kernel
theorem dX2_partyRow_43 : decode cX2_partyRow 43 = .ok (.getfield 27, 3) := by decide +kernel
theorem dX2_partyRow_46 : decode cX2_partyRow 46 = .ok (.areturn, 1) := by decide +kernel
theorem dX2_partyRow_47 : decode cX2_partyRow 47 = .ok (.aload_n 0, 1) := by decide +kernel
theorem dX2_partyRow_48 : decode cX2_partyRow 48 = .ok (.getfield 30, 3) := by decide +kernel
theorem dX2_partyRow_51 : decode cX2_partyRow 51 = .ok (.areturn, 1) := by decide +kernel
theorem dX2_partyRow_52 : decode cX2_partyRow 52 = .ok (.aload_n 0, 1) := by decide +kernel
theorem dX2_partyRow_53 : decode cX2_partyRow 53 = .ok (.getfield 33, 3) := by decide +kernel
theorem dX2_partyRow_56 : decode cX2_partyRow 56 = .ok (.areturn, 1) := by decide +kernel
theorem dX2_turnSignpost_0 : decode cX2_turnSignpost 0 = .ok (.aload_n 0, 1) := by decide +kernel
theorem dX2_turnSignpost_1 : decode cX2_turnSignpost 1 = .ok (.getfield 9, 3) := by decide +kernel
theorem dX2_turnSignpost_4 : decode cX2_turnSignpost 4 = .ok (.iload_n 1, 1) := by decide +kernel
theorem dX2_turnSignpost_5 : decode cX2_turnSignpost 5 = .ok (.iaload, 1) := by decide +kernel
theorem dX2_turnSignpost_6 : decode cX2_turnSignpost 6 = .ok (.istore_n 2, 1) := by decide +kernel
theorem dX2_turnSignpost_7 : decode cX2_turnSignpost 7 = .ok (.aload_n 0, 1) := by decide +kernel
theorem dX2_turnSignpost_8 : decode cX2_turnSignpost 8 = .ok (.getfield 9, 3) := by decide +kernel
theorem dX2_turnSignpost_11 : decode cX2_turnSignpost 11 = .ok (.iload_n 1, 1) := by decide +kernel
theorem dX2_turnSignpost_12 : decode cX2_turnSignpost 12 = .ok (.aload_n 0, 1) := by decide +kernel
theorem dX2_turnSignpost_13 : decode cX2_turnSignpost 13 = .ok (.getfield 9, 3) := by decide +kernel
theorem dX2_turnSignpost_16 : decode cX2_turnSignpost 16 = .ok (.iload_n 1, 1) := by decide +kernel
theorem dX2_turnSignpost_17 : decode cX2_turnSignpost 17 = .ok (.iconst 1, 1) := by decide +kernel
theorem dX2_turnSignpost_18 : decode cX2_turnSignpost 18 = .ok (.iadd, 1) := by decide +kernel
theorem dX2_turnSignpost_19 : decode cX2_turnSignpost 19 = .ok (.iaload, 1) := by decide +kernel
theorem dX2_turnSignpost_20 : decode cX2_turnSignpost 20 = .ok (.iastore, 1) := by decide +kernel
theorem dX2_turnSignpost_21 : decode cX2_turnSignpost 21 = .ok (.aload_n 0, 1) := by decide +kernel
theorem dX2_turnSignpost_22 : decode cX2_turnSignpost 22 = .ok (.getfield 9, 3) := by decide +kernel
theorem dX2_turnSignpost_25 : decode cX2_turnSignpost 25 = .ok (.iload_n 1, 1) := by decide +kernel
theorem dX2_turnSignpost_26 : decode cX2_turnSignpost 26 = .ok (.iconst 1, 1) := by decide +kernel
theorem dX2_turnSignpost_27 : decode cX2_turnSignpost 27 = .ok (.iadd, 1) := by decide +kernel
theorem dX2_turnSignpost_28 : decode cX2_turnSignpost 28 = .ok (.iload_n 2, 1) := by decide +kernel
theorem dX2_turnSignpost_29 : decode cX2_turnSignpost 29 = .ok (.iastore, 1) := by decide +kernel
theorem dX2_turnSignpost_30 : decode cX2_turnSignpost 30 = .ok (.return_, 1) := by decide +kernel
theorem dX2_putMuds_0 : decode cX2_putMuds 0 = .ok (.iconst 0, 1) := by decide +kernel
theorem dX2_putMuds_1 : decode cX2_putMuds 1 = .ok (.istore_n 2, 1) := by decide +kernel
theorem dX2_putMuds_2 : decode cX2_putMuds 2 = .ok (.iload_n 2, 1) := by decide +kernel
theorem dX2_putMuds_3 : decode cX2_putMuds 3 = .ok (.aload_n 0, 1) := by decide +kernel
theorem dX2_putMuds_4 : decode cX2_putMuds 4 = .ok (.getfield 43, 3) := by decide +kernel
theorem dX2_putMuds_7 : decode cX2_putMuds 7 = .ok (.if_icmp .ge 20, 3) := by decide +kernel
theorem dX2_putMuds_10 : decode cX2_putMuds 10 = .ok (.aload_n 0, 1) := by decide +kernel
theorem dX2_putMuds_11 : decode cX2_putMuds 11 = .ok (.getfield 18, 3) := by decide +kernel
theorem dX2_putMuds_14 : decode cX2_putMuds 14 = .ok (.iload_n 2, 1) := by decide +kernel
theorem dX2_putMuds_15 : decode cX2_putMuds 15 = .ok (.iload_n 1, 1) := by decide +kernel
theorem dX2_putMuds_16 : decode cX2_putMuds 16 = .ok (.iload_n 2, 1) := by decide +kernel
theorem dX2_putMuds_17 : decode cX2_putMuds 17 = .ok (.ishr, 1) := by decide +kernel
theorem dX2_putMuds_18 : decode cX2_putMuds 18 = .ok (.iconst 1, 1) := by decide +kernel
theorem dX2_putMuds_19 : decode cX2_putMuds 19 = .ok (.iand, 1) := by decide +kernel
theorem dX2_putMuds_20 : decode cX2_putMuds 20 = .ok (.iastore, 1) := by decide +kernel
theorem dX2_putMuds_21 : decode cX2_putMuds 21 = .ok (.iinc 2 1, 3) := by decide +kernel
theorem dX2_putMuds_24 : decode cX2_putMuds 24 = .ok (.goto (-22), 3) := by decide +kernel
theorem dX2_putMuds_27 : decode cX2_putMuds 27 = .ok (.return_, 1) := by decide +kernel
theorem dX2_minutesOf_0 : decode cX2_minutesOf 0 = .ok (.iconst 2, 1) := by decide +kernel
theorem dX2_minutesOf_1 : decode cX2_minutesOf 1 = .ok (.iconst 2, 1) := by decide +kernel
theorem dX2_minutesOf_2 : decode cX2_minutesOf 2 = .ok (.aload_n 0, 1) := by decide +kernel
theorem dX2_minutesOf_3 : decode cX2_minutesOf 3 = .ok (.getfield 15, 3) := by decide +kernel
theorem dX2_minutesOf_6 : decode cX2_minutesOf 6 = .ok (.iload_n 1, 1) := by decide +kernel
theorem dX2_minutesOf_7 : decode cX2_minutesOf 7 = .ok (.iaload, 1) := by decide +kernel
theorem dX2_minutesOf_8 : decode cX2_minutesOf 8 = .ok (.imul, 1) := by decide +kernel
theorem dX2_minutesOf_9 : decode cX2_minutesOf 9 = .ok (.iadd, 1) := by decide +kernel
theorem dX2_minutesOf_10 : decode cX2_minutesOf 10 = .ok (.iconst 3, 1) := by decide +kernel
theorem dX2_minutesOf_11 : decode cX2_minutesOf 11 = .ok (.aload_n 0, 1) := by decide +kernel
theorem dX2_minutesOf_12 : decode cX2_minutesOf 12 = .ok (.getfield 18, 3) := by decide +kernel
theorem dX2_minutesOf_15 : decode cX2_minutesOf 15 = .ok (.iload_n 1, 1) := by decide +kernel
theorem dX2_minutesOf_16 : decode cX2_minutesOf 16 = .ok (.iaload, 1) := by decide +kernel
theorem dX2_minutesOf_17 : decode cX2_minutesOf 17 = .ok (.imul, 1) := by decide +kernel
theorem dX2_minutesOf_18 : decode cX2_minutesOf 18 = .ok (.iadd, 1) := by decide +kernel
theorem dX2_minutesOf_19 : decode cX2_minutesOf 19 = .ok (.ireturn, 1) := by decide +kernel
set_option maxRecDepth 20000 in
theorem ggX2_hearingOf_X2_minutesOf : GoodIn wsX2_hearingOf wsX2_minutesOf := goodIn_r _ [7, 1, 2, 8, 9, 10, 11, 12, 13, 14, 15, 16, 17, 18, 19] (by decide +kernel) (by decide +kernel)
set_option maxRecDepth 20000 in
theorem gX2_hearingOf_X2_minutesOf : GoodIn wsX2_hearingOf (wsV RX2 55 RX2 yX2_minutesOf wsX2_minutesOf) := goodIn_app (goodIn_of _ (by decide +kernel)) ggX2_hearingOf_X2_minutesOf
theorem dX2_hearingOf_0 : decode cX2_hearingOf 0 = .ok (.aload_n 0, 1) := by decide +kernel
theorem dX2_hearingOf_1 : decode cX2_hearingOf 1 = .ok (.getfield 15, 3) := by decide +kernel
theorem dX2_hearingOf_4 : decode cX2_hearingOf 4 = .ok (.iload_n 1, 1) := by decide +kernel
theorem dX2_hearingOf_5 : decode cX2_hearingOf 5 = .ok (.iaload, 1) := by decide +kernel
theorem dX2_hearingOf_6 : decode cX2_hearingOf 6 = .ok (.ifCond .ne 16, 3) := by decide +kernel
theorem dX2_hearingOf_9 : decode cX2_hearingOf 9 = .ok (.aload_n 0, 1) := by decide +kernel
theorem dX2_hearingOf_10 : decode cX2_hearingOf 10 = .ok (.getfield 18, 3) := by decide +kernel
theorem dX2_hearingOf_13 : decode cX2_hearingOf 13 = .ok (.iload_n 1, 1) := by decide +kernel
theorem dX2_hearingOf_14 : decode cX2_hearingOf 14 = .ok (.iaload, 1) := by decide +kernel
theorem dX2_hearingOf_15 : decode cX2_hearingOf 15 = .ok (.ifCond .ne 7, 3) := by decide +kernel
theorem dX2_hearingOf_18 : decode cX2_hearingOf 18 = .ok (.iconst 1, 1) := by decide +kernel
theorem dX2_hearingOf_19 : decode cX2_hearingOf 19 = .ok (.goto 4, 3) := by decide +kernel
theorem dX2_hearingOf_22 : decode cX2_hearingOf 22 = .ok (.iconst 0, 1) := by decide +kernel
theorem dX2_hearingOf_23 : decode cX2_hearingOf 23 = .ok (.istore_n 2, 1) := by decide +kernel
theorem dX2_hearingOf_24 : decode cX2_hearingOf 24 = .ok (.iload_n 2, 1) := by decide +kernel
theorem dX2_hearingOf_25 : decode cX2_hearingOf 25 = .ok (.ifCond .eq 13, 3) := by decide +kernel
theorem dX2_hearingOf_28 : decode cX2_hearingOf 28 = .ok (.aload_n 0, 1) := by decide +kernel
theorem dX2_hearingOf_29 : decode cX2_hearingOf 29 = .ok (.iload_n 1, 1) := by decide +kernel
theorem dX2_hearingOf_30 : decode cX2_hearingOf 30 = .ok (.invokevirtual 55, 3) := by decide +kernel
theorem dX2_hearingOf_33 : decode cX2_hearingOf 33 = .ok (.iconst 2, 1) := by decide +kernel
theorem dX2_hearingOf_34 : decode cX2_hearingOf 34 = .ok (.idiv, 1) := by decide +kernel
theorem dX2_hearingOf_35 : decode cX2_hearingOf 35 = .ok (.goto 8, 3) := by decide +kernel
theorem dX2_hearingOf_38 : decode cX2_hearingOf 38 = .ok (.aload_n 0, 1) := by decide +kernel
theorem dX2_hearingOf_39 : decode cX2_hearingOf 39 = .ok (.iload_n 1, 1) := by decide +kernel
theorem dX2_hearingOf_40 : decode cX2_hearingOf 40 = .ok (.invokevirtual 55, 3) := by decide +kernel
theorem dX2_hearingOf_43 : decode cX2_hearingOf 43 = .ok (.ireturn, 1) := by decide +kernel
set_option maxRecDepth 20000 in
theorem ggX2_strainOf_X2_minutesOf : GoodIn wsX2_strainOf wsX2_minutesOf := goodIn_r _ [7, 1, 8, 9, 10, 11, 12, 13, 14, 15, 16, 17, 18, 19, 20] (by decide +kernel) (by decide +kernel)
set_option maxRecDepth 20000 in
theorem gX2_strainOf_X2_minutesOf : GoodIn wsX2_strainOf (wsV RX2 55 RX2 yX2_minutesOf wsX2_minutesOf) := goodIn_app (goodIn_of _ (by decide +kernel)) ggX2_strainOf_X2_minutesOf
theorem dX2_strainOf_0 : decode cX2_strainOf 0 = .ok (.aload_n 0, 1) := by decide +kernel
theorem dX2_strainOf_1 : decode cX2_strainOf 1 = .ok (.iload_n 2, 1) := by decide +kernel
theorem dX2_strainOf_2 : decode cX2_strainOf 2 = .ok (.invokevirtual 55, 3) := by decide +kernel
theorem dX2_strainOf_5 : decode cX2_strainOf 5 = .ok (.aload_n 0, 1) := by decide +kernel
theorem dX2_strainOf_6 : decode cX2_strainOf 6 = .ok (.getfield 15, 3) := by decide +kernel
theorem dX2_strainOf_9 : decode cX2_strainOf 9 = .ok (.iload_n 2, 1) := by decide +kernel
theorem dX2_strainOf_10 : decode cX2_strainOf 10 = .ok (.iaload, 1) := by decide +kernel
theorem dX2_strainOf_11 : decode cX2_strainOf 11 = .ok (.iadd, 1) := by decide +kernel
theorem dX2_strainOf_12 : decode cX2_strainOf 12 = .ok (.istore_n 3, 1) := by decide +kernel
theorem dX2_strainOf_13 : decode cX2_strainOf 13 = .ok (.aload_n 0, 1) := by decide +kernel
theorem dX2_strainOf_14 : decode cX2_strainOf 14 = .ok (.getfield 21, 3) := by decide +kernel
theorem dX2_strainOf_17 : decode cX2_strainOf 17 = .ok (.iload_n 1, 1) := by decide +kernel
theorem dX2_strainOf_18 : decode cX2_strainOf 18 = .ok (.iaload, 1) := by decide +kernel
theorem dX2_strainOf_19 : decode cX2_strainOf 19 = .ok (.lookupswitch 33 #[(1, 25), (2, 29)], 25) := by decide +kernel
theorem dX2_strainOf_44 : decode cX2_strainOf 44 = .ok (.iload_n 3, 1) := by decide +kernel
theorem dX2_strainOf_45 : decode cX2_strainOf 45 = .ok (.iconst 2, 1) := by decide +kernel
theorem dX2_strainOf_46 : decode cX2_strainOf 46 = .ok (.idiv, 1) := by decide +kernel
theorem dX2_strainOf_47 : decode cX2_strainOf 47 = .ok (.ireturn, 1) := by decide +kernel
theorem dX2_strainOf_48 : decode cX2_strainOf 48 = .ok (.iconst 2, 1) := by decide +kernel
theorem dX2_strainOf_49 : decode cX2_strainOf 49 = .ok (.iload_n 3, 1) := by decide +kernel
theorem dX2_strainOf_50 : decode cX2_strainOf 50 = .ok (.imul, 1) := by decide +kernel
theorem dX2_strainOf_51 : decode cX2_strainOf 51 = .ok (.ireturn, 1) := by decide +kernel
theorem dX2_strainOf_52 : decode cX2_strainOf 52 = .ok (.iload_n 3, 1) := by decide +kernel
theorem dX2_strainOf_53 : decode cX2_strainOf 53 = .ok (.ireturn, 1) := by decide +kernel
set_option maxRecDepth 20000 in
theorem ggX2_minutesOfAll_X2_minutesOf : GoodIn wsX2_minutesOfAll wsX2_minutesOf := goodIn_r _ [6, 7, 8, 9, 10, 11, 12, 13, 14, 15, 16, 17, 18, 19, 20] (by decide +kernel) (by decide +kernel)
set_option maxRecDepth 20000 in
theorem gX2_minutesOfAll_X2_minutesOf : GoodIn wsX2_minutesOfAll (wsV RX2 55 RX2 yX2_minutesOf wsX2_minutesOf) := goodIn_app (goodIn_of _ (by decide +kernel)) ggX2_minutesOfAll_X2_minutesOf
theorem dX2_minutesOfAll_0 : decode cX2_minutesOfAll 0 = .ok (.iconst 0, 1) := by decide +kernel
theorem dX2_minutesOfAll_1 : decode cX2_minutesOfAll 1 = .ok (.istore_n 1, 1) := by decide +kernel
theorem dX2_minutesOfAll_2 : decode cX2_minutesOfAll 2 = .ok (.iconst 0, 1) := by decide +kernel
theorem dX2_minutesOfAll_3 : decode cX2_minutesOfAll 3 = .ok (.istore_n 2, 1) := by decide +kernel
theorem dX2_minutesOfAll_4 : decode cX2_minutesOfAll 4 = .ok (.iload_n 2, 1) := by decide +kernel
theorem dX2_minutesOfAll_5 : decode cX2_minutesOfAll 5 = .ok (.aload_n 0, 1) := by decide +kernel
theorem dX2_minutesOfAll_6 : decode cX2_minutesOfAll 6 = .ok (.getfield 43, 3) := by decide +kernel
theorem dX2_minutesOfAll_9 : decode cX2_minutesOfAll 9 = .ok (.if_icmp .ge 17, 3) := by decide +kernel
theorem dX2_minutesOfAll_12 : decode cX2_minutesOfAll 12 = .ok (.iload_n 1, 1) := by decide +kernel
theorem dX2_minutesOfAll_13 : decode cX2_minutesOfAll 13 = .ok (.aload_n 0, 1) := by decide +kernel
theorem dX2_minutesOfAll_14 : decode cX2_minutesOfAll 14 = .ok (.iload_n 2, 1) := by decide +kernel
theorem dX2_minutesOfAll_15 : decode cX2_minutesOfAll 15 = .ok (.invokevirtual 55, 3) := by decide +kernel
theorem dX2_minutesOfAll_18 : decode cX2_minutesOfAll 18 = .ok (.iadd, 1) := by decide +kernel
theorem dX2_minutesOfAll_19 : decode cX2_minutesOfAll 19 = .ok (.istore_n 1, 1) := by decide +kernel
theorem dX2_minutesOfAll_20 : decode cX2_minutesOfAll 20 = .ok (.iinc 2 1, 3) := by decide +kernel
theorem dX2_minutesOfAll_23 : decode cX2_minutesOfAll 23 = .ok (.goto (-19), 3) := by decide +kernel
theorem dX2_minutesOfAll_26 : decode cX2_minutesOfAll 26 = .ok (.iload_n 1, 1) := by decide +kernel
theorem dX2_minutesOfAll_27 : decode cX2_minutesOfAll 27 = .ok (.ireturn, 1) := by decide +kernel
set_option maxRecDepth 20000 in
theorem ggX2_drivenMiles_X2_minutesOf : GoodIn wsX2_drivenMiles wsX2_minutesOf := goodIn_r _ [7, 8, 9, 10, 11, 12, 13, 14, 15, 16, 17, 18, 19, 20, 21] (by decide +kernel) (by decide +kernel)
set_option maxRecDepth 20000 in
theorem gX2_drivenMiles_X2_minutesOf : GoodIn wsX2_drivenMiles (wsV RX2 55 RX2 yX2_minutesOf wsX2_minutesOf) := goodIn_app (goodIn_of _ (by decide +kernel)) ggX2_drivenMiles_X2_minutesOf
theorem dX2_drivenMiles_0 : decode cX2_drivenMiles 0 = .ok (.iconst 0, 1) := by decide +kernel
theorem dX2_drivenMiles_1 : decode cX2_drivenMiles 1 = .ok (.istore_n 1, 1) := by decide +kernel
theorem dX2_drivenMiles_2 : decode cX2_drivenMiles 2 = .ok (.iconst 0, 1) := by decide +kernel
theorem dX2_drivenMiles_3 : decode cX2_drivenMiles 3 = .ok (.istore_n 2, 1) := by decide +kernel
theorem dX2_drivenMiles_4 : decode cX2_drivenMiles 4 = .ok (.iload_n 2, 1) := by decide +kernel
theorem dX2_drivenMiles_5 : decode cX2_drivenMiles 5 = .ok (.aload_n 0, 1) := by decide +kernel
theorem dX2_drivenMiles_6 : decode cX2_drivenMiles 6 = .ok (.getfield 43, 3) := by decide +kernel
theorem dX2_drivenMiles_9 : decode cX2_drivenMiles 9 = .ok (.if_icmp .ge 25, 3) := by decide +kernel
theorem dX2_drivenMiles_12 : decode cX2_drivenMiles 12 = .ok (.iload_n 1, 1) := by decide +kernel
theorem dX2_drivenMiles_13 : decode cX2_drivenMiles 13 = .ok (.aload_n 0, 1) := by decide +kernel
theorem dX2_drivenMiles_14 : decode cX2_drivenMiles 14 = .ok (.getfield 40, 3) := by decide +kernel
theorem dX2_drivenMiles_17 : decode cX2_drivenMiles 17 = .ok (.if_icmp .ge 17, 3) := by decide +kernel
theorem dX2_drivenMiles_20 : decode cX2_drivenMiles 20 = .ok (.iload_n 1, 1) := by decide +kernel
theorem dX2_drivenMiles_21 : decode cX2_drivenMiles 21 = .ok (.aload_n 0, 1) := by decide +kernel
theorem dX2_drivenMiles_22 : decode cX2_drivenMiles 22 = .ok (.iload_n 2, 1) := by decide +kernel
theorem dX2_drivenMiles_23 : decode cX2_drivenMiles 23 = .ok (.invokevirtual 55, 3) := by decide +kernel
theorem dX2_drivenMiles_26 : decode cX2_drivenMiles 26 = .ok (.iadd, 1) := by decide +kernel
theorem dX2_drivenMiles_27 : decode cX2_drivenMiles 27 = .ok (.istore_n 1, 1) := by decide +kernel
theorem dX2_drivenMiles_28 : decode cX2_drivenMiles 28 = .ok (.iinc 2 1, 3) := by decide +kernel
theorem dX2_drivenMiles_31 : decode cX2_drivenMiles 31 = .ok (.goto (-27), 3) := by decide +kernel
theorem dX2_drivenMiles_34 : decode cX2_drivenMiles 34 = .ok (.iload_n 2, 1) := by decide +kernel
theorem dX2_drivenMiles_35 : decode cX2_drivenMiles 35 = .ok (.ireturn, 1) := by decide +kernel
theorem dX2_muddyMiles_0 : decode cX2_muddyMiles 0 = .ok (.iconst 0, 1) := by decide +kernel
theorem dX2_muddyMiles_1 : decode cX2_muddyMiles 1 = .ok (.istore_n 1, 1) := by decide +kernel
theorem dX2_muddyMiles_2 : decode cX2_muddyMiles 2 = .ok (.iconst 0, 1) := by decide +kernel
theorem dX2_muddyMiles_3 : decode cX2_muddyMiles 3 = .ok (.istore_n 2, 1) := by decide +kernel
theorem dX2_muddyMiles_4 : decode cX2_muddyMiles 4 = .ok (.iload_n 2, 1) := by decide +kernel
theorem dX2_muddyMiles_5 : decode cX2_muddyMiles 5 = .ok (.aload_n 0, 1) := by decide +kernel
theorem dX2_muddyMiles_6 : decode cX2_muddyMiles 6 = .ok (.getfield 43, 3) := by decide +kernel
theorem dX2_muddyMiles_9 : decode cX2_muddyMiles 9 = .ok (.if_icmp .ge 18, 3) := by decide +kernel
theorem dX2_muddyMiles_12 : decode cX2_muddyMiles 12 = .ok (.iload_n 1, 1) := by decide +kernel
theorem dX2_muddyMiles_13 : decode cX2_muddyMiles 13 = .ok (.aload_n 0, 1) := by decide +kernel
theorem dX2_muddyMiles_14 : decode cX2_muddyMiles 14 = .ok (.getfield 18, 3) := by decide +kernel
theorem dX2_muddyMiles_17 : decode cX2_muddyMiles 17 = .ok (.iload_n 2, 1) := by decide +kernel
theorem dX2_muddyMiles_18 : decode cX2_muddyMiles 18 = .ok (.iaload, 1) := by decide +kernel
theorem dX2_muddyMiles_19 : decode cX2_muddyMiles 19 = .ok (.iadd, 1) := by decide +kernel
theorem dX2_muddyMiles_20 : decode cX2_muddyMiles 20 = .ok (.istore_n 1, 1) := by decide +kernel
theorem dX2_muddyMiles_21 : decode cX2_muddyMiles 21 = .ok (.iinc 2 1, 3) := by decide +kernel
theorem dX2_muddyMiles_24 : decode cX2_muddyMiles 24 = .ok (.goto (-20), 3) := by decide +kernel
theorem dX2_muddyMiles_27 : decode cX2_muddyMiles 27 = .ok (.iload_n 1, 1) := by decide +kernel
theorem dX2_muddyMiles_28 : decode cX2_muddyMiles 28 = .ok (.ireturn, 1) := by decide +kernel
theorem dX2_windOfAll_0 : decode cX2_windOfAll 0 = .ok (.iconst 0, 1) := by decide +kernel
theorem dX2_windOfAll_1 : decode cX2_windOfAll 1 = .ok (.istore_n 1, 1) := by decide +kernel
theorem dX2_windOfAll_2 : decode cX2_windOfAll 2 = .ok (.iconst 0, 1) := by decide +kernel
theorem dX2_windOfAll_3 : decode cX2_windOfAll 3 = .ok (.istore_n 2, 1) := by decide +kernel
theorem dX2_windOfAll_4 : decode cX2_windOfAll 4 = .ok (.iload_n 2, 1) := by decide +kernel
theorem dX2_windOfAll_5 : decode cX2_windOfAll 5 = .ok (.aload_n 0, 1) := by decide +kernel
theorem dX2_windOfAll_6 : decode cX2_windOfAll 6 = .ok (.getfield 46, 3) := by decide +kernel
theorem dX2_windOfAll_9 : decode cX2_windOfAll 9 = .ok (.if_icmp .ge 18, 3) := by decide +kernel
theorem dX2_windOfAll_12 : decode cX2_windOfAll 12 = .ok (.iload_n 1, 1) := by decide +kernel
theorem dX2_windOfAll_13 : decode cX2_windOfAll 13 = .ok (.aload_n 0, 1) := by decide +kernel
theorem dX2_windOfAll_14 : decode cX2_windOfAll 14 = .ok (.getfield 24, 3) := by decide +kernel
theorem dX2_windOfAll_17 : decode cX2_windOfAll 17 = .ok (.iload_n 2, 1) := by decide +kernel
theorem dX2_windOfAll_18 : decode cX2_windOfAll 18 = .ok (.iaload, 1) := by decide +kernel
theorem dX2_windOfAll_19 : decode cX2_windOfAll 19 = .ok (.iadd, 1) := by decide +kernel
theorem dX2_windOfAll_20 : decode cX2_windOfAll 20 = .ok (.istore_n 1, 1) := by decide +kernel
theorem dX2_windOfAll_21 : decode cX2_windOfAll 21 = .ok (.iinc 2 1, 3) := by decide +kernel
theorem dX2_windOfAll_24 : decode cX2_windOfAll 24 = .ok (.goto (-20), 3) := by decide +kernel
theorem dX2_windOfAll_27 : decode cX2_windOfAll 27 = .ok (.iload_n 1, 1) := by decide +kernel
theorem dX2_windOfAll_28 : decode cX2_windOfAll 28 = .ok (.ireturn, 1) := by decide +kernel
set_option maxRecDepth 20000 in
theorem ggX2_lacksMile_X2_hasMile : GoodIn wsX2_lacksMile wsX2_hasMile := goodIn_r _ [8, 9, 10, 11, 12, 13, 14, 15, 16, 17, 18, 19, 20, 21] (by decide +kernel) (by decide +kernel)
set_option maxRecDepth 20000 in
theorem gX2_lacksMile_X2_hasMile : GoodIn wsX2_lacksMile (wsV RX2 59 RX2 yX2_hasMile wsX2_hasMile) := goodIn_app (goodIn_of _ (by decide +kernel)) ggX2_lacksMile_X2_hasMile
theorem dX2_lacksMile_0 : decode cX2_lacksMile 0 = .ok (.iconst 0, 1) := by decide +kernel
theorem dX2_lacksMile_1 : decode cX2_lacksMile 1 = .ok (.istore_n 1, 1) := by decide +kernel
theorem dX2_lacksMile_2 : decode cX2_lacksMile 2 = .ok (.iload_n 1, 1) := by decide +kernel
theorem dX2_lacksMile_3 : decode cX2_lacksMile 3 = .ok (.bipush 8, 2) := by decide +kernel
theorem dX2_lacksMile_5 : decode cX2_lacksMile 5 = .ok (.if_icmp .ge 28, 3) := by decide +kernel
theorem dX2_lacksMile_8 : decode cX2_lacksMile 8 = .ok (.aload_n 0, 1) := by decide +kernel
theorem dX2_lacksMile_9 : decode cX2_lacksMile 9 = .ok (.getfield 18, 3) := by decide +kernel
theorem dX2_lacksMile_12 : decode cX2_lacksMile 12 = .ok (.iload_n 1, 1) := by decide +kernel
theorem dX2_lacksMile_13 : decode cX2_lacksMile 13 = .ok (.iaload, 1) := by decide +kernel
theorem dX2_lacksMile_14 : decode cX2_lacksMile 14 = .ok (.ifCond .eq 13, 3) := by decide +kernel
theorem dX2_lacksMile_17 : decode cX2_lacksMile 17 = .ok (.aload_n 0, 1) := by decide +kernel
theorem dX2_lacksMile_18 : decode cX2_lacksMile 18 = .ok (.iload_n 1, 1) := by decide +kernel
theorem dX2_lacksMile_19 : decode cX2_lacksMile 19 = .ok (.invokevirtual 59, 3) := by decide +kernel
theorem dX2_lacksMile_22 : decode cX2_lacksMile 22 = .ok (.ifCond .ne 5, 3) := by decide +kernel
theorem dX2_lacksMile_25 : decode cX2_lacksMile 25 = .ok (.iconst 1, 1) := by decide +kernel
theorem dX2_lacksMile_26 : decode cX2_lacksMile 26 = .ok (.ireturn, 1) := by decide +kernel
theorem dX2_lacksMile_27 : decode cX2_lacksMile 27 = .ok (.iinc 1 1, 3) := by decide +kernel
theorem dX2_lacksMile_30 : decode cX2_lacksMile 30 = .ok (.goto (-28), 3) := by decide +kernel
theorem dX2_lacksMile_33 : decode cX2_lacksMile 33 = .ok (.iconst 0, 1) := by decide +kernel
theorem dX2_lacksMile_34 : decode cX2_lacksMile 34 = .ok (.istore_n 1, 1) := by decide +kernel
theorem dX2_lacksMile_35 : decode cX2_lacksMile 35 = .ok (.iload_n 1, 1) := by decide +kernel
theorem dX2_lacksMile_36 : decode cX2_lacksMile 36 = .ok (.aload_n 0, 1) := by decide +kernel
theorem dX2_lacksMile_37 : decode cX2_lacksMile 37 = .ok (.getfield 46, 3) := by decide +kernel
theorem dX2_lacksMile_40 : decode cX2_lacksMile 40 = .ok (.if_icmp .ge 24, 3) := by decide +kernel
theorem dX2_lacksMile_43 : decode cX2_lacksMile 43 = .ok (.aload_n 0, 1) := by decide +kernel
theorem dX2_lacksMile_44 : decode cX2_lacksMile 44 = .ok (.aload_n 0, 1) := by decide +kernel
theorem dX2_lacksMile_45 : decode cX2_lacksMile 45 = .ok (.getfield 33, 3) := by decide +kernel
theorem dX2_lacksMile_48 : decode cX2_lacksMile 48 = .ok (.iload_n 1, 1) := by decide +kernel
theorem dX2_lacksMile_49 : decode cX2_lacksMile 49 = .ok (.iaload, 1) := by decide +kernel
theorem dX2_lacksMile_50 : decode cX2_lacksMile 50 = .ok (.invokevirtual 59, 3) := by decide +kernel
theorem dX2_lacksMile_53 : decode cX2_lacksMile 53 = .ok (.ifCond .ne 5, 3) := by decide +kernel
theorem dX2_lacksMile_56 : decode cX2_lacksMile 56 = .ok (.iconst 1, 1) := by decide +kernel
theorem dX2_lacksMile_57 : decode cX2_lacksMile 57 = .ok (.ireturn, 1) := by decide +kernel
theorem dX2_lacksMile_58 : decode cX2_lacksMile 58 = .ok (.iinc 1 1, 3) := by decide +kernel
theorem dX2_lacksMile_61 : decode cX2_lacksMile 61 = .ok (.goto (-26), 3) := by decide +kernel
theorem dX2_lacksMile_64 : decode cX2_lacksMile 64 = .ok (.iconst 0, 1) := by decide +kernel
theorem dX2_lacksMile_65 : decode cX2_lacksMile 65 = .ok (.ireturn, 1) := by decide +kernel
theorem dX3_init_0 : decode cX3_init 0 = .ok (.aload_n 0, 1) := by decide +kernel
theorem dX3_init_1 : decode cX3_init 1 = .ok (.invokespecial 3, 3) := by decide +kernel
theorem dX3_init_4 : decode cX3_init 4 = .ok (.aload_n 0, 1) := by decide +kernel
theorem dX3_init_5 : decode cX3_init 5 = .ok (.iconst 4, 1) := by decide +kernel
theorem dX3_init_6 : decode cX3_init 6 = .ok (.newarray .int, 2) := by decide +kernel
theorem dX3_init_8 : decode cX3_init 8 = .ok (.putfield 9, 3) := by decide +kernel
theorem dX3_init_11 : decode cX3_init 11 = .ok (.aload_n 0, 1) := by decide +kernel
theorem dX3_init_12 : decode cX3_init 12 = .ok (.iconst 5, 1) := by decide +kernel
theorem dX3_init_13 : decode cX3_init 13 = .ok (.newarray .int, 2) := by decide +kernel
theorem dX3_init_15 : decode cX3_init 15 = .ok (.putfield 15, 3) := by decide +kernel
theorem dX3_init_18 : decode cX3_init 18 = .ok (.aload_n 0, 1) := by decide +kernel
theorem dX3_init_19 : decode cX3_init 19 = .ok (.aload_n 1, 1) := by decide +kernel
theorem dX3_init_20 : decode cX3_init 20 = .ok (.putfield 18, 3) := by decide +kernel
theorem dX3_init_23 : decode cX3_init 23 = .ok (.aload_n 0, 1) := by decide +kernel
theorem dX3_init_24 : decode cX3_init 24 = .ok (.aload_n 2, 1) := by decide +kernel
theorem dX3_init_25 : decode cX3_init 25 = .ok (.putfield 22, 3) := by decide +kernel
theorem dX3_init_28 : decode cX3_init 28 = .ok (.return_, 1) := by decide +kernel
set_option maxRecDepth 20000 in
theorem ggX3_seekFor_X2_copyFrom : GoodIn wsX3_seekFor wsX2_copyFrom := goodIn_r _ [8, 9, 10, 11, 12, 13, 14, 15, 16, 17, 18, 19, 20, 21, 22, 23, 24, 96, 97, 98, 99, 100, 101, 102, 103, 104, 105, 106, 107] (by decide +kernel) (by decide +kernel)
set_option maxRecDepth 20000 in
theorem gX3_seekFor_X2_copyFrom : GoodIn wsX3_seekFor (wsV RX3 26 RX2 yX2_copyFrom wsX2_copyFrom) := goodIn_app (goodIn_of _ (by decide +kernel)) ggX3_seekFor_X2_copyFrom
set_option maxRecDepth 20000 in
theorem ggX3_seekFor_X3_reckonHopes : GoodIn wsX3_seekFor wsX3_reckonHopes := goodIn_r _ [29, 30, 1, 31, 32, 33, 7, 34, 22, 35, 36, 37, 28, 38, 3, 39, 40, 41, 42, 43, 44, 45, 46, 47, 48, 49, 50, 21, 24, 51, 52, 53, 54, 14, 15, 55, 56, 57, 58, 59, 60, 61, 62, 63, 64, 65, 66, 67, 68, 69, 70, 16, 71, 72, 73, 74, 75, 76, 77, 78, 79, 80, 81, 82, 83, 84, 85, 91, 92, 93, 94, 95, 96, 97, 98, 99, 100, 101, 102, 103, 104, 105, 106, 107, 108, 109, 110, 111, 112, 113, 114] (by decide +kernel) (by decide +kernel)
set_option maxRecDepth 20000 in
theorem gX3_seekFor_X3_reckonHopes : GoodIn wsX3_seekFor (wsV RX3 32 RX3 yX3_reckonHopes wsX3_reckonHopes) := goodIn_app (goodIn_of _ (by decide +kernel)) ggX3_seekFor_X3_reckonHopes
set_option maxRecDepth 20000 in
theorem ggX3_seekFor_X0_begin : GoodIn wsX3_seekFor wsX0_begin := goodIn_r _ [43, 44, 45, 46, 47, 48, 49, 7, 50, 21, 24, 51, 52, 53, 54, 14, 15, 96, 97, 98, 99, 100, 101, 102, 103, 104, 105, 106, 107, 108, 109, 110, 111, 112, 113, 114] (by decide +kernel) (by decide +kernel)
set_option maxRecDepth 20000 in
theorem gX3_seekFor_X0_begin : GoodIn wsX3_seekFor (wsV RX3 39 RX0 yX0_begin wsX0_begin) := goodIn_app (goodIn_of _ (by decide +kernel)) ggX3_seekFor_X0_begin
set_option maxRecDepth 20000 in
theorem ggX3_seekFor_X3_seekFrom : GoodIn wsX3_seekFor wsX3_seekFrom := goodIn_r _ [88, 30, 2, 1, 89, 90, 11, 12, 13, 3, 31, 32, 33, 7, 34, 22, 55, 56, 57, 42, 58, 45, 46, 59, 60, 61, 62, 63, 64, 65, 66, 67, 68, 69, 70, 14, 16, 51, 52, 53, 54, 15, 71, 72, 73, 74, 75, 76, 77, 78, 79, 80, 81, 82, 83, 84, 85, 86, 87, 28, 91, 92, 93, 94, 95, 96, 97, 98, 99, 100, 101, 102, 103, 104, 105, 106, 107, 108, 109, 110, 111, 112, 113, 114] (by decide +kernel) (by decide +kernel)
set_option maxRecDepth 20000 in
theorem gX3_seekFor_X3_seekFrom : GoodIn wsX3_seekFor (va_wsS RX3 44 yX3_seekFrom wsX3_seekFrom) := goodIn_app (goodIn_of _ (by decide +kernel)) ggX3_seekFor_X3_seekFrom
theorem dX3_seekFor_0 : decode cX3_seekFor 0 = .ok (.aload_n 0, 1) := by decide +kernel
theorem dX3_seekFor_1 : decode cX3_seekFor 1 = .ok (.getfield 18, 3) := by decide +kernel
theorem dX3_seekFor_4 : decode cX3_seekFor 4 = .ok (.aload_n 1, 1) := by decide +kernel
theorem dX3_seekFor_5 : decode cX3_seekFor 5 = .ok (.invokevirtual 26, 3) := by decide +kernel
theorem dX3_seekFor_8 : decode cX3_seekFor 8 = .ok (.aload_n 0, 1) := by decide +kernel
theorem dX3_seekFor_9 : decode cX3_seekFor 9 = .ok (.invokevirtual 32, 3) := by decide +kernel
theorem dX3_seekFor_12 : decode cX3_seekFor 12 = .ok (.aload_n 0, 1) := by decide +kernel
theorem dX3_seekFor_13 : decode cX3_seekFor 13 = .ok (.iconst (-1), 1) := by decide +kernel
theorem dX3_seekFor_14 : decode cX3_seekFor 14 = .ok (.putfield 35, 3) := by decide +kernel
theorem dX3_seekFor_17 : decode cX3_seekFor 17 = .ok (.aload_n 0, 1) := by decide +kernel
theorem dX3_seekFor_18 : decode cX3_seekFor 18 = .ok (.getfield 22, 3) := by decide +kernel
theorem dX3_seekFor_21 : decode cX3_seekFor 21 = .ok (.aload_n 0, 1) := by decide +kernel
theorem dX3_seekFor_22 : decode cX3_seekFor 22 = .ok (.getfield 18, 3) := by decide +kernel
theorem dX3_seekFor_25 : decode cX3_seekFor 25 = .ok (.invokevirtual 39, 3) := by decide +kernel
theorem dX3_seekFor_28 : decode cX3_seekFor 28 = .ok (.aload_n 0, 1) := by decide +kernel
theorem dX3_seekFor_29 : decode cX3_seekFor 29 = .ok (.iconst 0, 1) := by decide +kernel
theorem dX3_seekFor_30 : decode cX3_seekFor 30 = .ok (.iconst 0, 1) := by decide +kernel
theorem dX3_seekFor_31 : decode cX3_seekFor 31 = .ok (.invokestatic 44, 3) := by decide +kernel
theorem dX3_seekFor_34 : decode cX3_seekFor 34 = .ok (.return_, 1) := by decide +kernel
set_option maxRecDepth 20000 in
theorem ggX3_reckonHopes_X2_hasParty : GoodIn wsX3_reckonHopes wsX2_hasParty := goodIn_r _ [7, 8, 72, 73, 74, 75, 76, 77, 78, 79, 80, 81, 82, 83] (by decide +kernel) (by decide +kernel)
set_option maxRecDepth 20000 in
theorem gX3_reckonHopes_X2_hasParty : GoodIn wsX3_reckonHopes (wsV RX3 48 RX2 yX2_hasParty wsX2_hasParty) := goodIn_app (goodIn_of _ (by decide +kernel)) ggX3_reckonHopes_X2_hasParty
set_option maxRecDepth 20000 in
theorem ggX3_reckonHopes_X3_canBeHeardAlone : GoodIn wsX3_reckonHopes wsX3_canBeHeardAlone := goodIn_r _ [13, 14, 2, 15, 16, 17, 18, 19, 20, 21, 22, 23, 24, 25, 6, 26, 27, 28, 29, 30, 31, 32, 33, 34, 35, 36, 37, 38, 39, 40, 41, 42, 43, 44, 45, 46, 47, 48, 49, 50, 51, 52, 53, 54, 55, 56, 57, 58, 59, 60, 61, 62, 63, 64, 65, 66, 67, 68, 69, 70, 71, 72, 73, 74, 75, 76, 77, 78, 79, 80, 81, 82, 83, 84, 85, 86, 87, 88, 89, 90] (by decide +kernel) (by decide +kernel)
set_option maxRecDepth 20000 in
theorem gX3_reckonHopes_X3_canBeHeardAlone : GoodIn wsX3_reckonHopes (wsV RX3 52 RX3 yX3_canBeHeardAlone wsX3_canBeHeardAlone) := goodIn_app (goodIn_of _ (by decide +kernel)) ggX3_reckonHopes_X3_canBeHeardAlone
theorem dX3_reckonHopes_0 : decode cX3_reckonHopes 0 = .ok (.iconst 3, 1) := by decide +kernel
theorem dX3_reckonHopes_1 : decode cX3_reckonHopes 1 = .ok (.istore_n 1, 1) := by decide +kernel
theorem dX3_reckonHopes_2 : decode cX3_reckonHopes 2 = .ok (.iload_n 1, 1) := by decide +kernel
theorem dX3_reckonHopes_3 : decode cX3_reckonHopes 3 = .ok (.ifCond .lt 48, 3) := by decide +kernel
theorem dX3_reckonHopes_6 : decode cX3_reckonHopes 6 = .ok (.aload_n 0, 1) := by decide +kernel
theorem dX3_reckonHopes_7 : decode cX3_reckonHopes 7 = .ok (.getfield 15, 3) := by decide +kernel
theorem dX3_reckonHopes_10 : decode cX3_reckonHopes 10 = .ok (.iload_n 1, 1) := by decide +kernel
theorem dX3_reckonHopes_11 : decode cX3_reckonHopes 11 = .ok (.aload_n 0, 1) := by decide +kernel
theorem dX3_reckonHopes_12 : decode cX3_reckonHopes 12 = .ok (.getfield 15, 3) := by decide +kernel
theorem dX3_reckonHopes_15 : decode cX3_reckonHopes 15 = .ok (.iload_n 1, 1) := by decide +kernel
theorem dX3_reckonHopes_16 : decode cX3_reckonHopes 16 = .ok (.iconst 1, 1) := by decide +kernel
theorem dX3_reckonHopes_17 : decode cX3_reckonHopes 17 = .ok (.iadd, 1) := by decide +kernel
theorem dX3_reckonHopes_18 : decode cX3_reckonHopes 18 = .ok (.iaload, 1) := by decide +kernel
theorem dX3_reckonHopes_19 : decode cX3_reckonHopes 19 = .ok (.aload_n 0, 1) := by decide +kernel
theorem dX3_reckonHopes_20 : decode cX3_reckonHopes 20 = .ok (.getfield 18, 3) := by decide +kernel
theorem dX3_reckonHopes_23 : decode cX3_reckonHopes 23 = .ok (.iload_n 1, 1) := by decide +kernel
theorem dX3_reckonHopes_24 : decode cX3_reckonHopes 24 = .ok (.invokevirtual 48, 3) := by decide +kernel
theorem dX3_reckonHopes_27 : decode cX3_reckonHopes 27 = .ok (.ifCond .eq 15, 3) := by decide +kernel
theorem dX3_reckonHopes_30 : decode cX3_reckonHopes 30 = .ok (.aload_n 0, 1) := by decide +kernel
theorem dX3_reckonHopes_31 : decode cX3_reckonHopes 31 = .ok (.iload_n 1, 1) := by decide +kernel
theorem dX3_reckonHopes_32 : decode cX3_reckonHopes 32 = .ok (.invokevirtual 52, 3) := by decide +kernel
theorem dX3_reckonHopes_35 : decode cX3_reckonHopes 35 = .ok (.ifCond .eq 7, 3) := by decide +kernel
theorem dX3_reckonHopes_38 : decode cX3_reckonHopes 38 = .ok (.iconst 1, 1) := by decide +kernel
theorem dX3_reckonHopes_39 : decode cX3_reckonHopes 39 = .ok (.goto 4, 3) := by decide +kernel
theorem dX3_reckonHopes_42 : decode cX3_reckonHopes 42 = .ok (.iconst 0, 1) := by decide +kernel
theorem dX3_reckonHopes_43 : decode cX3_reckonHopes 43 = .ok (.iadd, 1) := by decide +kernel
theorem dX3_reckonHopes_44 : decode cX3_reckonHopes 44 = .ok (.iastore, 1) := by decide +kernel
theorem dX3_reckonHopes_45 : decode cX3_reckonHopes 45 = .ok (.iinc 1 (-1), 3) := by decide +kernel
theorem dX3_reckonHopes_48 : decode cX3_reckonHopes 48 = .ok (.goto (-46), 3) := by decide +kernel
theorem dX3_reckonHopes_51 : decode cX3_reckonHopes 51 = .ok (.return_, 1) := by decide +kernel
set_option maxRecDepth 20000 in
theorem ggX3_canBeHeardAlone_X0_begin : GoodIn wsX3_canBeHeardAlone wsX0_begin := goodIn_r _ [7, 8, 9, 10, 11, 12, 13, 14, 15, 16, 17, 18, 19, 20, 21, 22, 23, 61, 62, 63, 64, 65, 66, 67, 68, 69, 70, 71, 72, 73, 74, 75, 76, 77, 78, 79] (by decide +kernel) (by decide +kernel)
set_option maxRecDepth 20000 in
theorem gX3_canBeHeardAlone_X0_begin : GoodIn wsX3_canBeHeardAlone (wsV RX3 39 RX0 yX0_begin wsX0_begin) := goodIn_app (goodIn_of _ (by decide +kernel)) ggX3_canBeHeardAlone_X0_begin
set_option maxRecDepth 20000 in
theorem ggX3_canBeHeardAlone_X0_runParty : GoodIn wsX3_canBeHeardAlone wsX0_runParty := goodIn_r _ [27, 9, 10, 28, 29, 30, 31, 32, 33, 34, 6, 35, 36, 37, 38, 14, 39, 22, 40, 18, 19, 20, 21, 23, 41, 42, 43, 44, 45, 46, 47, 48, 49, 50, 51, 61, 62, 63, 64, 65, 66, 67, 68, 69, 70, 71, 72, 73, 74, 75, 76, 77, 78, 79] (by decide +kernel) (by decide +kernel)
set_option maxRecDepth 20000 in
theorem gX3_canBeHeardAlone_X0_runParty : GoodIn wsX3_canBeHeardAlone (wsV RX3 61 RX0 yX0_runParty wsX0_runParty) := goodIn_app (goodIn_of _ (by decide +kernel)) ggX3_canBeHeardAlone_X0_runParty
set_option maxRecDepth 20000 in
theorem ggX3_canBeHeardAlone_X0_hasVerdict : GoodIn wsX3_canBeHeardAlone wsX0_hasVerdict := goodIn_r _ [55, 31, 73, 74, 75, 76, 77, 78, 79] (by decide +kernel) (by decide +kernel)
set_option maxRecDepth 20000 in
theorem gX3_canBeHeardAlone_X0_hasVerdict : GoodIn wsX3_canBeHeardAlone (wsV RX3 65 RX0 yX0_hasVerdict wsX0_hasVerdict) := goodIn_app (goodIn_of _ (by decide +kernel)) ggX3_canBeHeardAlone_X0_hasVerdict
theorem dX3_canBeHeardAlone_0 : decode cX3_canBeHeardAlone 0 = .ok (.aload_n 0, 1) := by decide +kernel
theorem dX3_canBeHeardAlone_1 : decode cX3_canBeHeardAlone 1 = .ok (.getfield 22, 3) := by decide +kernel
theorem dX3_canBeHeardAlone_4 : decode cX3_canBeHeardAlone 4 = .ok (.aload_n 0, 1) := by decide +kernel
theorem dX3_canBeHeardAlone_5 : decode cX3_canBeHeardAlone 5 = .ok (.getfield 18, 3) := by decide +kernel
theorem dX3_canBeHeardAlone_8 : decode cX3_canBeHeardAlone 8 = .ok (.invokevirtual 39, 3) := by decide +kernel
theorem dX3_canBeHeardAlone_11 : decode cX3_canBeHeardAlone 11 = .ok (.iconst 0, 1) := by decide +kernel
theorem dX3_canBeHeardAlone_12 : decode cX3_canBeHeardAlone 12 = .ok (.istore_n 2, 1) := by decide +kernel
theorem dX3_canBeHeardAlone_13 : decode cX3_canBeHeardAlone 13 = .ok (.iload_n 2, 1) := by decide +kernel
theorem dX3_canBeHeardAlone_14 : decode cX3_canBeHeardAlone 14 = .ok (.aload_n 0, 1) := by decide +kernel
theorem dX3_canBeHeardAlone_15 : decode cX3_canBeHeardAlone 15 = .ok (.getfield 18, 3) := by decide +kernel
theorem dX3_canBeHeardAlone_18 : decode cX3_canBeHeardAlone 18 = .ok (.getfield 55, 3) := by decide +kernel
theorem dX3_canBeHeardAlone_21 : decode cX3_canBeHeardAlone 21 = .ok (.if_icmp .ge 44, 3) := by decide +kernel
theorem dX3_canBeHeardAlone_24 : decode cX3_canBeHeardAlone 24 = .ok (.aload_n 0, 1) := by decide +kernel
theorem dX3_canBeHeardAlone_25 : decode cX3_canBeHeardAlone 25 = .ok (.getfield 18, 3) := by decide +kernel
theorem dX3_canBeHeardAlone_28 : decode cX3_canBeHeardAlone 28 = .ok (.getfield 58, 3) := by decide +kernel
theorem dX3_canBeHeardAlone_31 : decode cX3_canBeHeardAlone 31 = .ok (.iload_n 1, 1) := by decide +kernel
theorem dX3_canBeHeardAlone_32 : decode cX3_canBeHeardAlone 32 = .ok (.iload_n 2, 1) := by decide +kernel
theorem dX3_canBeHeardAlone_33 : decode cX3_canBeHeardAlone 33 = .ok (.iastore, 1) := by decide +kernel
theorem dX3_canBeHeardAlone_34 : decode cX3_canBeHeardAlone 34 = .ok (.aload_n 0, 1) := by decide +kernel
theorem dX3_canBeHeardAlone_35 : decode cX3_canBeHeardAlone 35 = .ok (.getfield 22, 3) := by decide +kernel
theorem dX3_canBeHeardAlone_38 : decode cX3_canBeHeardAlone 38 = .ok (.aload_n 0, 1) := by decide +kernel
theorem dX3_canBeHeardAlone_39 : decode cX3_canBeHeardAlone 39 = .ok (.getfield 18, 3) := by decide +kernel
theorem dX3_canBeHeardAlone_42 : decode cX3_canBeHeardAlone 42 = .ok (.iload_n 1, 1) := by decide +kernel
theorem dX3_canBeHeardAlone_43 : decode cX3_canBeHeardAlone 43 = .ok (.invokevirtual 61, 3) := by decide +kernel
theorem dX3_canBeHeardAlone_46 : decode cX3_canBeHeardAlone 46 = .ok (.aload_n 0, 1) := by decide +kernel
theorem dX3_canBeHeardAlone_47 : decode cX3_canBeHeardAlone 47 = .ok (.getfield 22, 3) := by decide +kernel
theorem dX3_canBeHeardAlone_50 : decode cX3_canBeHeardAlone 50 = .ok (.iload_n 1, 1) := by decide +kernel
theorem dX3_canBeHeardAlone_51 : decode cX3_canBeHeardAlone 51 = .ok (.invokevirtual 65, 3) := by decide +kernel
theorem dX3_canBeHeardAlone_54 : decode cX3_canBeHeardAlone 54 = .ok (.ifCond .eq 5, 3) := by decide +kernel
theorem dX3_canBeHeardAlone_57 : decode cX3_canBeHeardAlone 57 = .ok (.iconst 1, 1) := by decide +kernel
theorem dX3_canBeHeardAlone_58 : decode cX3_canBeHeardAlone 58 = .ok (.ireturn, 1) := by decide +kernel
theorem dX3_canBeHeardAlone_59 : decode cX3_canBeHeardAlone 59 = .ok (.iinc 2 1, 3) := by decide +kernel
theorem dX3_canBeHeardAlone_62 : decode cX3_canBeHeardAlone 62 = .ok (.goto (-49), 3) := by decide +kernel
theorem dX3_canBeHeardAlone_65 : decode cX3_canBeHeardAlone 65 = .ok (.iconst 0, 1) := by decide +kernel
theorem dX3_canBeHeardAlone_66 : decode cX3_canBeHeardAlone 66 = .ok (.ireturn, 1) := by decide +kernel
set_option maxRecDepth 20000 in
theorem ggX3_seekFrom_X2_hasParty : GoodIn wsX3_seekFrom wsX2_hasParty := goodIn_r _ [14, 15, 65, 66, 67, 68, 69, 70, 71, 72, 73, 74, 75, 76] (by decide +kernel) (by decide +kernel)
set_option maxRecDepth 20000 in
theorem gX3_seekFrom_X2_hasParty : GoodIn wsX3_seekFrom (wsV RX3 48 RX2 yX2_hasParty wsX2_hasParty) := goodIn_app (goodIn_of _ (by decide +kernel)) ggX3_seekFrom_X2_hasParty
set_option maxRecDepth 20000 in
theorem ggX3_seekFrom_X0_runParty : GoodIn wsX3_seekFrom wsX0_runParty := goodIn_r _ [20, 21, 22, 23, 24, 25, 26, 27, 28, 29, 19, 30, 31, 32, 33, 13, 34, 35, 36, 37, 38, 39, 40, 41, 42, 43, 44, 45, 46, 47, 48, 49, 50, 51, 52, 65, 66, 67, 68, 69, 70, 71, 72, 73, 74, 75, 76, 77, 78, 79, 80, 81, 82, 83] (by decide +kernel) (by decide +kernel)
set_option maxRecDepth 20000 in
theorem gX3_seekFrom_X0_runParty : GoodIn wsX3_seekFrom (wsV RX3 61 RX0 yX0_runParty wsX0_runParty) := goodIn_app (goodIn_of _ (by decide +kernel)) ggX3_seekFrom_X0_runParty
set_option maxRecDepth 20000 in
theorem ggX3_seekFrom_X0_hasVerdict : GoodIn wsX3_seekFrom wsX0_hasVerdict := goodIn_r _ [56, 26, 77, 78, 79, 80, 81, 82, 83] (by decide +kernel) (by decide +kernel)
set_option maxRecDepth 20000 in
theorem gX3_seekFrom_X0_hasVerdict : GoodIn wsX3_seekFrom (wsV RX3 65 RX0 yX0_hasVerdict wsX0_hasVerdict) := goodIn_app (goodIn_of _ (by decide +kernel)) ggX3_seekFrom_X0_hasVerdict
set_option maxRecDepth 20000 in
theorem ggX3_seekFrom_X3_seekFrom : GoodIn wsX3_seekFrom wsX3_seekFrom := goodIn_r _ [0, 1, 2, 3, 4, 5, 6, 7, 8, 9, 10, 11, 12, 13, 14, 15, 16, 17, 18, 19, 20, 21, 22, 23, 24, 25, 26, 27, 28, 29, 30, 31, 32, 33, 34, 35, 36, 37, 38, 39, 40, 41, 42, 43, 44, 45, 46, 47, 48, 49, 50, 51, 52, 53, 54, 55, 56, 57, 58, 59, 60, 61, 62, 63, 64, 65, 66, 67, 68, 69, 70, 71, 72, 73, 74, 75, 76, 77, 78, 79, 80, 81, 82, 83] (by decide +kernel) (by decide +kernel)
set_option maxRecDepth 20000 in
theorem gX3_seekFrom_X3_seekFrom : GoodIn wsX3_seekFrom (va_wsS RX3 44 yX3_seekFrom wsX3_seekFrom) := goodIn_app (goodIn_of _ (by decide +kernel)) ggX3_seekFrom_X3_seekFrom
theorem dX3_seekFrom_0 : decode cX3_seekFrom 0 = .ok (.iload_n 1, 1) := by decide +kernel
theorem dX3_seekFrom_1 : decode cX3_seekFrom 1 = .ok (.iconst 4, 1) := by decide +kernel
theorem dX3_seekFrom_2 : decode cX3_seekFrom 2 = .ok (.if_icmp .gt 18, 3) := by decide +kernel
theorem dX3_seekFrom_5 : decode cX3_seekFrom 5 = .ok (.iload_n 2, 1) := by decide +kernel
theorem dX3_seekFrom_6 : decode cX3_seekFrom 6 = .ok (.aload_n 0, 1) := by decide +kernel
theorem dX3_seekFrom_7 : decode cX3_seekFrom 7 = .ok (.getfield 15, 3) := by decide +kernel
theorem dX3_seekFrom_10 : decode cX3_seekFrom 10 = .ok (.iload_n 1, 1) := by decide +kernel
theorem dX3_seekFrom_11 : decode cX3_seekFrom 11 = .ok (.iaload, 1) := by decide +kernel
theorem dX3_seekFrom_12 : decode cX3_seekFrom 12 = .ok (.iadd, 1) := by decide +kernel
theorem dX3_seekFrom_13 : decode cX3_seekFrom 13 = .ok (.aload_n 0, 1) := by decide +kernel
theorem dX3_seekFrom_14 : decode cX3_seekFrom 14 = .ok (.getfield 35, 3) := by decide +kernel
theorem dX3_seekFrom_17 : decode cX3_seekFrom 17 = .ok (.if_icmp .gt 4, 3) := by decide +kernel
theorem dX3_seekFrom_20 : decode cX3_seekFrom 20 = .ok (.return_, 1) := by decide +kernel
theorem dX3_seekFrom_21 : decode cX3_seekFrom 21 = .ok (.aload_n 0, 1) := by decide +kernel
theorem dX3_seekFrom_22 : decode cX3_seekFrom 22 = .ok (.getfield 18, 3) := by decide +kernel
theorem dX3_seekFrom_25 : decode cX3_seekFrom 25 = .ok (.iload_n 1, 1) := by decide +kernel
theorem dX3_seekFrom_26 : decode cX3_seekFrom 26 = .ok (.invokevirtual 48, 3) := by decide +kernel
theorem dX3_seekFrom_29 : decode cX3_seekFrom 29 = .ok (.ifCond .ne 26, 3) := by decide +kernel
theorem dX3_seekFrom_32 : decode cX3_seekFrom 32 = .ok (.aload_n 0, 1) := by decide +kernel
theorem dX3_seekFrom_33 : decode cX3_seekFrom 33 = .ok (.iload_n 2, 1) := by decide +kernel
theorem dX3_seekFrom_34 : decode cX3_seekFrom 34 = .ok (.putfield 35, 3) := by decide +kernel
theorem dX3_seekFrom_37 : decode cX3_seekFrom 37 = .ok (.aload_n 0, 1) := by decide +kernel
theorem dX3_seekFrom_38 : decode cX3_seekFrom 38 = .ok (.getfield 18, 3) := by decide +kernel
theorem dX3_seekFrom_41 : decode cX3_seekFrom 41 = .ok (.getfield 58, 3) := by decide +kernel
theorem dX3_seekFrom_44 : decode cX3_seekFrom 44 = .ok (.iconst 0, 1) := by decide +kernel
theorem dX3_seekFrom_45 : decode cX3_seekFrom 45 = .ok (.aload_n 0, 1) := by decide +kernel
theorem dX3_seekFrom_46 : decode cX3_seekFrom 46 = .ok (.getfield 9, 3) := by decide +kernel
theorem dX3_seekFrom_49 : decode cX3_seekFrom 49 = .ok (.iconst 0, 1) := by decide +kernel
theorem dX3_seekFrom_50 : decode cX3_seekFrom 50 = .ok (.iconst 4, 1) := by decide +kernel
theorem dX3_seekFrom_51 : decode cX3_seekFrom 51 = .ok (.invokestatic 68, 3) := by decide +kernel
theorem dX3_seekFrom_54 : decode cX3_seekFrom 54 = .ok (.return_, 1) := by decide +kernel
theorem dX3_seekFrom_55 : decode cX3_seekFrom 55 = .ok (.iconst 0, 1) := by decide +kernel
theorem dX3_seekFrom_56 : decode cX3_seekFrom 56 = .ok (.istore_n 3, 1) := by decide +kernel
theorem dX3_seekFrom_57 : decode cX3_seekFrom 57 = .ok (.iload_n 3, 1) := by decide +kernel
theorem dX3_seekFrom_58 : decode cX3_seekFrom 58 = .ok (.aload_n 0, 1) := by decide +kernel
theorem dX3_seekFrom_59 : decode cX3_seekFrom 59 = .ok (.getfield 18, 3) := by decide +kernel
theorem dX3_seekFrom_62 : decode cX3_seekFrom 62 = .ok (.getfield 55, 3) := by decide +kernel
theorem dX3_seekFrom_65 : decode cX3_seekFrom 65 = .ok (.if_icmp .ge 56, 3) := by decide +kernel
theorem dX3_seekFrom_68 : decode cX3_seekFrom 68 = .ok (.aload_n 0, 1) := by decide +kernel
theorem dX3_seekFrom_69 : decode cX3_seekFrom 69 = .ok (.getfield 18, 3) := by decide +kernel
theorem dX3_seekFrom_72 : decode cX3_seekFrom 72 = .ok (.getfield 58, 3) := by decide +kernel
theorem dX3_seekFrom_75 : decode cX3_seekFrom 75 = .ok (.iload_n 1, 1) := by decide +kernel
theorem dX3_seekFrom_76 : decode cX3_seekFrom 76 = .ok (.iload_n 3, 1) := by decide +kernel
theorem dX3_seekFrom_77 : decode cX3_seekFrom 77 = .ok (.iastore, 1) := by decide +kernel
theorem dX3_seekFrom_78 : decode cX3_seekFrom 78 = .ok (.aload_n 0, 1) := by decide +kernel
theorem dX3_seekFrom_79 : decode cX3_seekFrom 79 = .ok (.getfield 22, 3) := by decide +kernel
theorem dX3_seekFrom_82 : decode cX3_seekFrom 82 = .ok (.aload_n 0, 1) := by decide +kernel
theorem dX3_seekFrom_83 : decode cX3_seekFrom 83 = .ok (.getfield 18, 3) := by decide +kernel
theorem dX3_seekFrom_86 : decode cX3_seekFrom 86 = .ok (.iload_n 1, 1) := by decide +kernel
theorem dX3_seekFrom_87 : decode cX3_seekFrom 87 = .ok (.invokevirtual 61, 3) := by decide +kernel
theorem dX3_seekFrom_90 : decode cX3_seekFrom 90 = .ok (.aload_n 0, 1) := by decide +kernel
theorem dX3_seekFrom_91 : decode cX3_seekFrom 91 = .ok (.iload_n 1, 1) := by decide +kernel
theorem dX3_seekFrom_92 : decode cX3_seekFrom 92 = .ok (.iconst 1, 1) := by decide +kernel
theorem dX3_seekFrom_93 : decode cX3_seekFrom 93 = .ok (.iadd, 1) := by decide +kernel
theorem dX3_seekFrom_94 : decode cX3_seekFrom 94 = .ok (.aload_n 0, 1) := by decide +kernel
theorem dX3_seekFrom_95 : decode cX3_seekFrom 95 = .ok (.getfield 22, 3) := by decide +kernel
theorem dX3_seekFrom_98 : decode cX3_seekFrom 98 = .ok (.iload_n 1, 1) := by decide +kernel
theorem dX3_seekFrom_99 : decode cX3_seekFrom 99 = .ok (.invokevirtual 65, 3) := by decide +kernel
theorem dX3_seekFrom_102 : decode cX3_seekFrom 102 = .ok (.ifCond .eq 9, 3) := by decide +kernel
theorem dX3_seekFrom_105 : decode cX3_seekFrom 105 = .ok (.iload_n 2, 1) := by decide +kernel
theorem dX3_seekFrom_106 : decode cX3_seekFrom 106 = .ok (.iconst 1, 1) := by decide +kernel
theorem dX3_seekFrom_107 : decode cX3_seekFrom 107 = .ok (.iadd, 1) := by decide +kernel
theorem dX3_seekFrom_108 : decode cX3_seekFrom 108 = .ok (.goto 4, 3) := by decide +kernel
theorem dX3_seekFrom_111 : decode cX3_seekFrom 111 = .ok (.iload_n 2, 1) := by decide +kernel
theorem dX3_seekFrom_112 : decode cX3_seekFrom 112 = .ok (.invokestatic 44, 3) := by decide +kernel
theorem dX3_seekFrom_115 : decode cX3_seekFrom 115 = .ok (.iinc 3 1, 3) := by decide +kernel
theorem dX3_seekFrom_118 : decode cX3_seekFrom 118 = .ok (.goto (-61), 3) := by decide +kernel
theorem dX3_seekFrom_121 : decode cX3_seekFrom 121 = .ok (.return_, 1) := by decide +kernel
theorem dX4_init_0 : decode cX4_init 0 = .ok (.aload_n 0, 1) := by decide +kernel
theorem dX4_init_1 : decode cX4_init 1 = .ok (.invokespecial 3, 3) := by decide +kernel
theorem dX4_init_4 : decode cX4_init 4 = .ok (.aload_n 0, 1) := by decide +kernel
theorem dX4_init_5 : decode cX4_init 5 = .ok (.bipush 40, 2) := by decide +kernel
theorem dX4_init_7 : decode cX4_init 7 = .ok (.newarray .int, 2) := by decide +kernel
theorem dX4_init_9 : decode cX4_init 9 = .ok (.putfield 9, 3) := by decide +kernel
theorem dX4_init_12 : decode cX4_init 12 = .ok (.return_, 1) := by decide +kernel
theorem dX4_renew_0 : decode cX4_renew 0 = .ok (.aload_n 0, 1) := by decide +kernel
theorem dX4_renew_1 : decode cX4_renew 1 = .ok (.iconst 1, 1) := by decide +kernel
theorem dX4_renew_2 : decode cX4_renew 2 = .ok (.putfield 15, 3) := by decide +kernel
theorem dX4_renew_5 : decode cX4_renew 5 = .ok (.aload_n 0, 1) := by decide +kernel
theorem dX4_renew_6 : decode cX4_renew 6 = .ok (.iload_n 1, 1) := by decide +kernel
theorem dX4_renew_7 : decode cX4_renew 7 = .ok (.putfield 19, 3) := by decide +kernel
theorem dX4_renew_10 : decode cX4_renew 10 = .ok (.aload_n 0, 1) := by decide +kernel
theorem dX4_renew_11 : decode cX4_renew 11 = .ok (.iload_n 2, 1) := by decide +kernel
theorem dX4_renew_12 : decode cX4_renew 12 = .ok (.putfield 23, 3) := by decide +kernel
theorem dX4_renew_15 : decode cX4_renew 15 = .ok (.iconst 0, 1) := by decide +kernel
theorem dX4_renew_16 : decode cX4_renew 16 = .ok (.istore_n 3, 1) := by decide +kernel
theorem dX4_renew_17 : decode cX4_renew 17 = .ok (.iload_n 3, 1) := by decide +kernel
theorem dX4_renew_18 : decode cX4_renew 18 = .ok (.bipush 40, 2) := by decide +kernel
theorem dX4_renew_20 : decode cX4_renew 20 = .ok (.if_icmp .ge 16, 3) := by decide +kernel
theorem dX4_renew_23 : decode cX4_renew 23 = .ok (.aload_n 0, 1) := by decide +kernel
theorem dX4_renew_24 : decode cX4_renew 24 = .ok (.getfield 9, 3) := by decide +kernel
theorem dX4_renew_27 : decode cX4_renew 27 = .ok (.iload_n 3, 1) := by decide +kernel
theorem dX4_renew_28 : decode cX4_renew 28 = .ok (.iconst 0, 1) := by decide +kernel
theorem dX4_renew_29 : decode cX4_renew 29 = .ok (.iastore, 1) := by decide +kernel
theorem dX4_renew_30 : decode cX4_renew 30 = .ok (.iinc 3 1, 3) := by decide +kernel
theorem dX4_renew_33 : decode cX4_renew 33 = .ok (.goto (-16), 3) := by decide +kernel
theorem dX4_renew_36 : decode cX4_renew 36 = .ok (.return_, 1) := by decide +kernel
theorem dX4_refusal_0 : decode cX4_refusal 0 = .ok (.aload_n 0, 1) := by decide +kernel
theorem dX4_refusal_1 : decode cX4_refusal 1 = .ok (.getfield 15, 3) := by decide +kernel
theorem dX4_refusal_4 : decode cX4_refusal 4 = .ok (.ifCond .ne 5, 3) := by decide +kernel
theorem dX4_refusal_7 : decode cX4_refusal 7 = .ok (.iconst 1, 1) := by decide +kernel
theorem dX4_refusal_8 : decode cX4_refusal 8 = .ok (.ireturn, 1) := by decide +kernel
theorem dX4_refusal_9 : decode cX4_refusal 9 = .ok (.iload_n 1, 1) := by decide +kernel
theorem dX4_refusal_10 : decode cX4_refusal 10 = .ok (.aload_n 0, 1) := by decide +kernel
theorem dX4_refusal_11 : decode cX4_refusal 11 = .ok (.getfield 19, 3) := by decide +kernel
theorem dX4_refusal_14 : decode cX4_refusal 14 = .ok (.if_icmp .eq 5, 3) := by decide +kernel
theorem dX4_refusal_17 : decode cX4_refusal 17 = .ok (.iconst 3, 1) := by decide +kernel
theorem dX4_refusal_18 : decode cX4_refusal 18 = .ok (.ireturn, 1) := by decide +kernel
theorem dX4_refusal_19 : decode cX4_refusal 19 = .ok (.iload_n 2, 1) := by decide +kernel
theorem dX4_refusal_20 : decode cX4_refusal 20 = .ok (.ifCond .lt 15, 3) := by decide +kernel
theorem dX4_refusal_23 : decode cX4_refusal 23 = .ok (.iload_n 2, 1) := by decide +kernel
theorem dX4_refusal_24 : decode cX4_refusal 24 = .ok (.aload_n 0, 1) := by decide +kernel
theorem dX4_refusal_25 : decode cX4_refusal 25 = .ok (.getfield 23, 3) := by decide +kernel
theorem dX4_refusal_28 : decode cX4_refusal 28 = .ok (.if_icmp .ge 7, 3) := by decide +kernel
theorem dX4_refusal_31 : decode cX4_refusal 31 = .ok (.iconst 0, 1) := by decide +kernel
theorem dX4_refusal_32 : decode cX4_refusal 32 = .ok (.goto 4, 3) := by decide +kernel
theorem dX4_refusal_35 : decode cX4_refusal 35 = .ok (.iconst 2, 1) := by decide +kernel
theorem dX4_refusal_36 : decode cX4_refusal 36 = .ok (.ireturn, 1) := by decide +kernel
set_option maxRecDepth 20000 in
theorem ggX4_refusalOfPair_X4_refusal : GoodIn wsX4_refusalOfPair wsX4_refusal := goodIn_r _ [5, 6, 7, 8, 9, 10, 11, 12] (by decide +kernel) (by decide +kernel)
set_option maxRecDepth 20000 in
theorem gX4_refusalOfPair_X4_refusal : GoodIn wsX4_refusalOfPair (wsV RX4 26 RX4 yX4_refusal wsX4_refusal) := goodIn_app (goodIn_of _ (by decide +kernel)) ggX4_refusalOfPair_X4_refusal
theorem dX4_refusalOfPair_0 : decode cX4_refusalOfPair 0 = .ok (.aload_n 0, 1) := by decide +kernel
theorem dX4_refusalOfPair_1 : decode cX4_refusalOfPair 1 = .ok (.iload_n 1, 1) := by decide +kernel
theorem dX4_refusalOfPair_2 : decode cX4_refusalOfPair 2 = .ok (.iload_n 2, 1) := by decide +kernel
theorem dX4_refusalOfPair_3 : decode cX4_refusalOfPair 3 = .ok (.invokevirtual 26, 3) := by decide +kernel
theorem dX4_refusalOfPair_6 : decode cX4_refusalOfPair 6 = .ok (.istore_n 3, 1) := by decide +kernel
theorem dX4_refusalOfPair_7 : decode cX4_refusalOfPair 7 = .ok (.iload_n 3, 1) := by decide +kernel
theorem dX4_refusalOfPair_8 : decode cX4_refusalOfPair 8 = .ok (.ifCond .eq 7, 3) := by decide +kernel
theorem dX4_refusalOfPair_11 : decode cX4_refusalOfPair 11 = .ok (.iload_n 3, 1) := by decide +kernel
theorem dX4_refusalOfPair_12 : decode cX4_refusalOfPair 12 = .ok (.goto 11, 3) := by decide +kernel
theorem dX4_refusalOfPair_15 : decode cX4_refusalOfPair 15 = .ok (.aload_n 0, 1) := by decide +kernel
theorem dX4_refusalOfPair_16 : decode cX4_refusalOfPair 16 = .ok (.iload_n 1, 1) := by decide +kernel
theorem dX4_refusalOfPair_17 : decode cX4_refusalOfPair 17 = .ok (.iload_n 2, 1) := by decide +kernel
theorem dX4_refusalOfPair_18 : decode cX4_refusalOfPair 18 = .ok (.iconst 1, 1) := by decide +kernel
theorem dX4_refusalOfPair_19 : decode cX4_refusalOfPair 19 = .ok (.iadd, 1) := by decide +kernel
theorem dX4_refusalOfPair_20 : decode cX4_refusalOfPair 20 = .ok (.invokevirtual 26, 3) := by decide +kernel
theorem dX4_refusalOfPair_23 : decode cX4_refusalOfPair 23 = .ok (.ireturn, 1) := by decide +kernel
theorem dX4_cutToLane_0 : decode cX4_cutToLane 0 = .ok (.aload_n 0, 1) := by decide +kernel
theorem dX4_cutToLane_1 : decode cX4_cutToLane 1 = .ok (.getfield 19, 3) := by decide +kernel
theorem dX4_cutToLane_4 : decode cX4_cutToLane 4 = .ok (.lookupswitch 34 #[(0, 28), (1, 31)], 28) := by decide +kernel
theorem dX4_cutToLane_32 : decode cX4_cutToLane 32 = .ok (.iload_n 1, 1) := by decide +kernel
theorem dX4_cutToLane_33 : decode cX4_cutToLane 33 = .ok (.i2b, 1) := by decide +kernel
theorem dX4_cutToLane_34 : decode cX4_cutToLane 34 = .ok (.ireturn, 1) := by decide +kernel
theorem dX4_cutToLane_35 : decode cX4_cutToLane 35 = .ok (.iload_n 1, 1) := by decide +kernel
theorem dX4_cutToLane_36 : decode cX4_cutToLane 36 = .ok (.i2s, 1) := by decide +kernel
theorem dX4_cutToLane_37 : decode cX4_cutToLane 37 = .ok (.ireturn, 1) := by decide +kernel
theorem dX4_cutToLane_38 : decode cX4_cutToLane 38 = .ok (.iload_n 1, 1) := by decide +kernel
theorem dX4_cutToLane_39 : decode cX4_cutToLane 39 = .ok (.ireturn, 1) := by decide +kernel
theorem dX5_init_0 : decode cX5_init 0 = .ok (.aload_n 0, 1) := by decide +kernel
theorem dX5_init_1 : decode cX5_init 1 = .ok (.invokespecial 3, 3) := by decide +kernel
theorem dX5_init_4 : decode cX5_init 4 = .ok (.aload_n 0, 1) := by decide +kernel
theorem dX5_init_5 : decode cX5_init 5 = .ok (.bipush 6, 2) := by decide +kernel
theorem dX5_init_7 : decode cX5_init 7 = .ok (.newarray .int, 2) := by decide +kernel
theorem dX5_init_9 : decode cX5_init 9 = .ok (.putfield 9, 3) := by decide +kernel
theorem dX5_init_12 : decode cX5_init 12 = .ok (.aload_n 0, 1) := by decide +kernel
theorem dX5_init_13 : decode cX5_init 13 = .ok (.bipush 6, 2) := by decide +kernel
theorem dX5_init_15 : decode cX5_init 15 = .ok (.newarray .int, 2) := by decide +kernel
theorem dX5_init_17 : decode cX5_init 17 = .ok (.putfield 15, 3) := by decide +kernel
theorem dX5_init_20 : decode cX5_init 20 = .ok (.return_, 1) := by decide +kernel
theorem dX5_put_0 : decode cX5_put 0 = .ok (.aload_n 0, 1) := by decide +kernel
theorem dX5_put_1 : decode cX5_put 1 = .ok (.getfield 18, 3) := by decide +kernel
theorem dX5_put_4 : decode cX5_put 4 = .ok (.bipush 6, 2) := by decide +kernel
theorem dX5_put_6 : decode cX5_put 6 = .ok (.if_icmp .lt 5, 3) := by decide +kernel
theorem dX5_put_9 : decode cX5_put 9 = .ok (.iconst 0, 1) := by decide +kernel
theorem dX5_put_10 : decode cX5_put 10 = .ok (.ireturn, 1) := by decide +kernel
theorem dX5_put_11 : decode cX5_put 11 = .ok (.aload_n 0, 1) := by decide +kernel
theorem dX5_put_12 : decode cX5_put 12 = .ok (.getfield 9, 3) := by decide +kernel
theorem dX5_put_15 : decode cX5_put 15 = .ok (.aload_n 0, 1) := by decide +kernel
theorem dX5_put_16 : decode cX5_put 16 = .ok (.getfield 18, 3) := by decide +kernel
theorem dX5_put_19 : decode cX5_put 19 = .ok (.iload_n 1, 1) := by decide +kernel
theorem dX5_put_20 : decode cX5_put 20 = .ok (.iastore, 1) := by decide +kernel
theorem dX5_put_21 : decode cX5_put 21 = .ok (.aload_n 0, 1) := by decide +kernel
theorem dX5_put_22 : decode cX5_put 22 = .ok (.getfield 15, 3) := by decide +kernel
theorem dX5_put_25 : decode cX5_put 25 = .ok (.aload_n 0, 1) := by decide +kernel
theorem dX5_put_26 : decode cX5_put 26 = .ok (.getfield 18, 3) := by decide +kernel
theorem dX5_put_29 : decode cX5_put 29 = .ok (.iload_n 2, 1) := by decide +kernel
theorem dX5_put_30 : decode cX5_put 30 = .ok (.iastore, 1) := by decide +kernel
theorem dX5_put_31 : decode cX5_put 31 = .ok (.aload_n 0, 1) := by decide +kernel
theorem dX5_put_32 : decode cX5_put 32 = .ok (.dup, 1) := by decide +kernel
theorem dX5_put_33 : decode cX5_put 33 = .ok (.getfield 18, 3) := by decide +kernel
theorem dX5_put_36 : decode cX5_put 36 = .ok (.iconst 1, 1) := by decide +kernel
theorem dX5_put_37 : decode cX5_put 37 = .ok (.iadd, 1) := by decide +kernel
theorem dX5_put_38 : decode cX5_put 38 = .ok (.putfield 18, 3) := by decide +kernel
theorem dX5_put_41 : decode cX5_put 41 = .ok (.iconst 1, 1) := by decide +kernel
theorem dX5_put_42 : decode cX5_put 42 = .ok (.ireturn, 1) := by decide +kernel
theorem dX5_copyFrom_0 : decode cX5_copyFrom 0 = .ok (.aload_n 1, 1) := by decide +kernel
theorem dX5_copyFrom_1 : decode cX5_copyFrom 1 = .ok (.getfield 9, 3) := by decide +kernel
theorem dX5_copyFrom_4 : decode cX5_copyFrom 4 = .ok (.iconst 0, 1) := by decide +kernel
theorem dX5_copyFrom_5 : decode cX5_copyFrom 5 = .ok (.aload_n 0, 1) := by decide +kernel
theorem dX5_copyFrom_6 : decode cX5_copyFrom 6 = .ok (.getfield 9, 3) := by decide +kernel
theorem dX5_copyFrom_9 : decode cX5_copyFrom 9 = .ok (.iconst 0, 1) := by decide +kernel
theorem dX5_copyFrom_10 : decode cX5_copyFrom 10 = .ok (.bipush 6, 2) := by decide +kernel
theorem dX5_copyFrom_12 : decode cX5_copyFrom 12 = .ok (.invokestatic 22, 3) := by decide +kernel
theorem dX5_copyFrom_15 : decode cX5_copyFrom 15 = .ok (.aload_n 1, 1) := by decide +kernel
theorem dX5_copyFrom_16 : decode cX5_copyFrom 16 = .ok (.getfield 15, 3) := by decide +kernel
theorem dX5_copyFrom_19 : decode cX5_copyFrom 19 = .ok (.iconst 0, 1) := by decide +kernel
theorem dX5_copyFrom_20 : decode cX5_copyFrom 20 = .ok (.aload_n 0, 1) := by decide +kernel
theorem dX5_copyFrom_21 : decode cX5_copyFrom 21 = .ok (.getfield 15, 3) := by decide +kernel
theorem dX5_copyFrom_24 : decode cX5_copyFrom 24 = .ok (.iconst 0, 1) := by decide +kernel
theorem dX5_copyFrom_25 : decode cX5_copyFrom 25 = .ok (.bipush 6, 2) := by decide +kernel
theorem dX5_copyFrom_27 : decode cX5_copyFrom 27 = .ok (.invokestatic 22, 3) := by decide +kernel
theorem dX5_copyFrom_30 : decode cX5_copyFrom 30 = .ok (.aload_n 0, 1) := by decide +kernel
theorem dX5_copyFrom_31 : decode cX5_copyFrom 31 = .ok (.aload_n 1, 1) := by decide +kernel
theorem dX5_copyFrom_32 : decode cX5_copyFrom 32 = .ok (.getfield 18, 3) := by decide +kernel
theorem dX5_copyFrom_35 : decode cX5_copyFrom 35 = .ok (.putfield 18, 3) := by decide +kernel
theorem dX5_copyFrom_38 : decode cX5_copyFrom 38 = .ok (.return_, 1) := by decide +kernel
theorem dX5_agreeWith_0 : decode cX5_agreeWith 0 = .ok (.iconst 0, 1) := by decide +kernel
theorem dX5_agreeWith_1 : decode cX5_agreeWith 1 = .ok (.istore_n 2, 1) := by decide +kernel
theorem dX5_agreeWith_2 : decode cX5_agreeWith 2 = .ok (.iload_n 2, 1) := by decide +kernel
theorem dX5_agreeWith_3 : decode cX5_agreeWith 3 = .ok (.aload_n 0, 1) := by decide +kernel
theorem dX5_agreeWith_4 : decode cX5_agreeWith 4 = .ok (.getfield 18, 3) := by decide +kernel
theorem dX5_agreeWith_7 : decode cX5_agreeWith 7 = .ok (.if_icmp .ge 31, 3) := by decide +kernel
theorem dX5_agreeWith_10 : decode cX5_agreeWith 10 = .ok (.aload_n 1, 1) := by decide +kernel
theorem dX5_agreeWith_11 : decode cX5_agreeWith 11 = .ok (.getfield 28, 3) := by decide +kernel
theorem dX5_agreeWith_14 : decode cX5_agreeWith 14 = .ok (.aload_n 0, 1) := by decide +kernel
theorem dX5_agreeWith_15 : decode cX5_agreeWith 15 = .ok (.getfield 9, 3) := by decide +kernel
theorem dX5_agreeWith_18 : decode cX5_agreeWith 18 = .ok (.iload_n 2, 1) := by decide +kernel
theorem dX5_agreeWith_19 : decode cX5_agreeWith 19 = .ok (.iaload, 1) := by decide +kernel
theorem dX5_agreeWith_20 : decode cX5_agreeWith 20 = .ok (.iaload, 1) := by decide +kernel
theorem dX5_agreeWith_21 : decode cX5_agreeWith 21 = .ok (.aload_n 0, 1) := by decide +kernel
theorem dX5_agreeWith_22 : decode cX5_agreeWith 22 = .ok (.getfield 15, 3) := by decide +kernel
theorem dX5_agreeWith_25 : decode cX5_agreeWith 25 = .ok (.iload_n 2, 1) := by decide +kernel
theorem dX5_agreeWith_26 : decode cX5_agreeWith 26 = .ok (.iaload, 1) := by decide +kernel
theorem dX5_agreeWith_27 : decode cX5_agreeWith 27 = .ok (.if_icmp .eq 5, 3) := by decide +kernel
theorem dX5_agreeWith_30 : decode cX5_agreeWith 30 = .ok (.iconst 0, 1) := by decide +kernel
theorem dX5_agreeWith_31 : decode cX5_agreeWith 31 = .ok (.ireturn, 1) := by decide +kernel
theorem dX5_agreeWith_32 : decode cX5_agreeWith 32 = .ok (.iinc 2 1, 3) := by decide +kernel
theorem dX5_agreeWith_35 : decode cX5_agreeWith 35 = .ok (.goto (-33), 3) := by decide +kernel
theorem dX5_agreeWith_38 : decode cX5_agreeWith 38 = .ok (.iconst 1, 1) := by decide +kernel
theorem dX5_agreeWith_39 : decode cX5_agreeWith 39 = .ok (.ireturn, 1) := by decide +kernel
theorem dX6_init_0 : decode cX6_init 0 = .ok (.aload_n 0, 1) := by decide +kernel
theorem dX6_init_1 : decode cX6_init 1 = .ok (.invokespecial 3, 3) := by decide +kernel
theorem dX6_init_4 : decode cX6_init 4 = .ok (.aload_n 0, 1) := by decide +kernel
theorem dX6_init_5 : decode cX6_init 5 = .ok (.sipush 160, 3) := by decide +kernel
theorem dX6_init_8 : decode cX6_init 8 = .ok (.newarray .byte, 2) := by decide +kernel
theorem dX6_init_10 : decode cX6_init 10 = .ok (.putfield 9, 3) := by decide +kernel
theorem dX6_init_13 : decode cX6_init 13 = .ok (.return_, 1) := by decide +kernel
theorem dX6_put_0 : decode cX6_put 0 = .ok (.aload_n 0, 1) := by decide +kernel
theorem dX6_put_1 : decode cX6_put 1 = .ok (.getfield 15, 3) := by decide +kernel
theorem dX6_put_4 : decode cX6_put 4 = .ok (.sipush 160, 3) := by decide +kernel
theorem dX6_put_7 : decode cX6_put 7 = .ok (.if_icmp .lt 5, 3) := by decide +kernel
theorem dX6_put_10 : decode cX6_put 10 = .ok (.iconst 0, 1) := by decide +kernel
theorem dX6_put_11 : decode cX6_put 11 = .ok (.ireturn, 1) := by decide +kernel
theorem dX6_put_12 : decode cX6_put 12 = .ok (.aload_n 0, 1) := by decide +kernel
theorem dX6_put_13 : decode cX6_put 13 = .ok (.getfield 9, 3) := by decide +kernel
theorem dX6_put_16 : decode cX6_put 16 = .ok (.aload_n 0, 1) := by decide +kernel
theorem dX6_put_17 : decode cX6_put 17 = .ok (.getfield 15, 3) := by decide +kernel
theorem dX6_put_20 : decode cX6_put 20 = .ok (.iload_n 1, 1) := by decide +kernel
theorem dX6_put_21 : decode cX6_put 21 = .ok (.i2b, 1) := by decide +kernel
theorem dX6_put_22 : decode cX6_put 22 = .ok (.bastore, 1) := by decide +kernel
theorem dX6_put_23 : decode cX6_put 23 = .ok (.aload_n 0, 1) := by decide +kernel
theorem dX6_put_24 : decode cX6_put 24 = .ok (.dup, 1) := by decide +kernel
theorem dX6_put_25 : decode cX6_put 25 = .ok (.getfield 15, 3) := by decide +kernel
theorem dX6_put_28 : decode cX6_put 28 = .ok (.iconst 1, 1) := by decide +kernel
theorem dX6_put_29 : decode cX6_put 29 = .ok (.iadd, 1) := by decide +kernel
theorem dX6_put_30 : decode cX6_put 30 = .ok (.putfield 15, 3) := by decide +kernel
theorem dX6_put_33 : decode cX6_put 33 = .ok (.iconst 1, 1) := by decide +kernel
theorem dX6_put_34 : decode cX6_put 34 = .ok (.ireturn, 1) := by decide +kernel
theorem dX6_rewind_0 : decode cX6_rewind 0 = .ok (.aload_n 0, 1) := by decide +kernel
theorem dX6_rewind_1 : decode cX6_rewind 1 = .ok (.iconst 0, 1) := by decide +kernel
theorem dX6_rewind_2 : decode cX6_rewind 2 = .ok (.putfield 19, 3) := by decide +kernel
theorem dX6_rewind_5 : decode cX6_rewind 5 = .ok (.aload_n 0, 1) := by decide +kernel
theorem dX6_rewind_6 : decode cX6_rewind 6 = .ok (.iconst 0, 1) := by decide +kernel
theorem dX6_rewind_7 : decode cX6_rewind 7 = .ok (.putfield 22, 3) := by decide +kernel
theorem dX6_rewind_10 : decode cX6_rewind 10 = .ok (.return_, 1) := by decide +kernel
theorem dX6_blame_0 : decode cX6_blame 0 = .ok (.aload_n 0, 1) := by decide +kernel
theorem dX6_blame_1 : decode cX6_blame 1 = .ok (.getfield 22, 3) := by decide +kernel
theorem dX6_blame_4 : decode cX6_blame 4 = .ok (.ifCond .ne 13, 3) := by decide +kernel
theorem dX6_blame_7 : decode cX6_blame 7 = .ok (.aload_n 0, 1) := by decide +kernel
theorem dX6_blame_8 : decode cX6_blame 8 = .ok (.iload_n 1, 1) := by decide +kernel
theorem dX6_blame_9 : decode cX6_blame 9 = .ok (.putfield 22, 3) := by decide +kernel
theorem dX6_blame_12 : decode cX6_blame 12 = .ok (.aload_n 0, 1) := by decide +kernel
theorem dX6_blame_13 : decode cX6_blame 13 = .ok (.iload_n 2, 1) := by decide +kernel
theorem dX6_blame_14 : decode cX6_blame 14 = .ok (.putfield 25, 3) := by decide +kernel
theorem dX6_blame_17 : decode cX6_blame 17 = .ok (.return_, 1) := by decide +kernel
set_option maxRecDepth 20000 in
theorem ggX6_readToken_X6_kindOf : GoodIn wsX6_readToken wsX6_kindOf := goodIn_r _ [10] (by decide +kernel) (by decide +kernel)
set_option maxRecDepth 20000 in
theorem gX6_readToken_X6_kindOf : GoodIn wsX6_readToken (va_wsS RX6 34 yX6_kindOf wsX6_kindOf) := goodIn_app (goodIn_of _ (by decide +kernel)) ggX6_readToken_X6_kindOf
set_option maxRecDepth 20000 in
theorem ggX6_readToken_X6_blame : GoodIn wsX6_readToken wsX6_blame := goodIn_r _ [14, 1, 15, 16, 17, 18, 19, 20, 21, 22] (by decide +kernel) (by decide +kernel)
set_option maxRecDepth 20000 in
theorem gX6_readToken_X6_blame : GoodIn wsX6_readToken (wsV RX6 38 RX6 yX6_blame wsX6_blame) := goodIn_app (goodIn_of _ (by decide +kernel)) ggX6_readToken_X6_blame
theorem dX6_readToken_0 : decode cX6_readToken 0 = .ok (.aload_n 0, 1) := by decide +kernel
theorem dX6_readToken_1 : decode cX6_readToken 1 = .ok (.getfield 22, 3) := by decide +kernel
theorem dX6_readToken_4 : decode cX6_readToken 4 = .ok (.ifCond .eq 4, 3) := by decide +kernel
theorem dX6_readToken_7 : decode cX6_readToken 7 = .ok (.return_, 1) := by decide +kernel
theorem dX6_readToken_8 : decode cX6_readToken 8 = .ok (.aload_n 0, 1) := by decide +kernel
theorem dX6_readToken_9 : decode cX6_readToken 9 = .ok (.getfield 19, 3) := by decide +kernel
theorem dX6_readToken_12 : decode cX6_readToken 12 = .ok (.aload_n 0, 1) := by decide +kernel
theorem dX6_readToken_13 : decode cX6_readToken 13 = .ok (.getfield 15, 3) := by decide +kernel
theorem dX6_readToken_16 : decode cX6_readToken 16 = .ok (.if_icmp .ge 30, 3) := by decide +kernel
theorem dX6_readToken_19 : decode cX6_readToken 19 = .ok (.aload_n 0, 1) := by decide +kernel
theorem dX6_readToken_20 : decode cX6_readToken 20 = .ok (.getfield 9, 3) := by decide +kernel
theorem dX6_readToken_23 : decode cX6_readToken 23 = .ok (.aload_n 0, 1) := by decide +kernel
theorem dX6_readToken_24 : decode cX6_readToken 24 = .ok (.getfield 19, 3) := by decide +kernel
theorem dX6_readToken_27 : decode cX6_readToken 27 = .ok (.baload, 1) := by decide +kernel
theorem dX6_readToken_28 : decode cX6_readToken 28 = .ok (.bipush 32, 2) := by decide +kernel
theorem dX6_readToken_30 : decode cX6_readToken 30 = .ok (.if_icmp .ne 16, 3) := by decide +kernel
theorem dX6_readToken_33 : decode cX6_readToken 33 = .ok (.aload_n 0, 1) := by decide +kernel
theorem dX6_readToken_34 : decode cX6_readToken 34 = .ok (.dup, 1) := by decide +kernel
theorem dX6_readToken_35 : decode cX6_readToken 35 = .ok (.getfield 19, 3) := by decide +kernel
theorem dX6_readToken_38 : decode cX6_readToken 38 = .ok (.iconst 1, 1) := by decide +kernel
theorem dX6_readToken_39 : decode cX6_readToken 39 = .ok (.iadd, 1) := by decide +kernel
theorem dX6_readToken_40 : decode cX6_readToken 40 = .ok (.putfield 19, 3) := by decide +kernel
theorem dX6_readToken_43 : decode cX6_readToken 43 = .ok (.goto (-35), 3) := by decide +kernel
theorem dX6_readToken_46 : decode cX6_readToken 46 = .ok (.aload_n 0, 1) := by decide +kernel
theorem dX6_readToken_47 : decode cX6_readToken 47 = .ok (.aload_n 0, 1) := by decide +kernel
theorem dX6_readToken_48 : decode cX6_readToken 48 = .ok (.getfield 19, 3) := by decide +kernel
theorem dX6_readToken_51 : decode cX6_readToken 51 = .ok (.putfield 28, 3) := by decide +kernel
theorem dX6_readToken_54 : decode cX6_readToken 54 = .ok (.aload_n 0, 1) := by decide +kernel
theorem dX6_readToken_55 : decode cX6_readToken 55 = .ok (.iconst 0, 1) := by decide +kernel
theorem dX6_readToken_56 : decode cX6_readToken 56 = .ok (.putfield 31, 3) := by decide +kernel
theorem dX6_readToken_59 : decode cX6_readToken 59 = .ok (.aload_n 0, 1) := by decide +kernel
theorem dX6_readToken_60 : decode cX6_readToken 60 = .ok (.getfield 19, 3) := by decide +kernel
theorem dX6_readToken_63 : decode cX6_readToken 63 = .ok (.aload_n 0, 1) := by decide +kernel
theorem dX6_readToken_64 : decode cX6_readToken 64 = .ok (.getfield 15, 3) := by decide +kernel
theorem dX6_readToken_67 : decode cX6_readToken 67 = .ok (.if_icmp .ge 29, 3) := by decide +kernel
theorem dX6_readToken_70 : decode cX6_readToken 70 = .ok (.aload_n 0, 1) := by decide +kernel
theorem dX6_readToken_71 : decode cX6_readToken 71 = .ok (.aload_n 0, 1) := by decide +kernel
theorem dX6_readToken_72 : decode cX6_readToken 72 = .ok (.getfield 9, 3) := by decide +kernel
theorem dX6_readToken_75 : decode cX6_readToken 75 = .ok (.aload_n 0, 1) := by decide +kernel
theorem dX6_readToken_76 : decode cX6_readToken 76 = .ok (.getfield 19, 3) := by decide +kernel
theorem dX6_readToken_79 : decode cX6_readToken 79 = .ok (.baload, 1) := by decide +kernel
theorem dX6_readToken_80 : decode cX6_readToken 80 = .ok (.invokestatic 34, 3) := by decide +kernel
theorem dX6_readToken_83 : decode cX6_readToken 83 = .ok (.putfield 31, 3) := by decide +kernel
theorem dX6_readToken_86 : decode cX6_readToken 86 = .ok (.aload_n 0, 1) := by decide +kernel
theorem dX6_readToken_87 : decode cX6_readToken 87 = .ok (.dup, 1) := by decide +kernel
theorem dX6_readToken_88 : decode cX6_readToken 88 = .ok (.getfield 19, 3) := by decide +kernel
theorem dX6_readToken_91 : decode cX6_readToken 91 = .ok (.iconst 1, 1) := by decide +kernel
theorem dX6_readToken_92 : decode cX6_readToken 92 = .ok (.iadd, 1) := by decide +kernel
theorem dX6_readToken_93 : decode cX6_readToken 93 = .ok (.putfield 19, 3) := by decide +kernel
theorem dX6_readToken_96 : decode cX6_readToken 96 = .ok (.aload_n 0, 1) := by decide +kernel
theorem dX6_readToken_97 : decode cX6_readToken 97 = .ok (.getfield 31, 3) := by decide +kernel
theorem dX6_readToken_100 : decode cX6_readToken 100 = .ok (.iconst 1, 1) := by decide +kernel
theorem dX6_readToken_101 : decode cX6_readToken 101 = .ok (.if_icmp .eq 11, 3) := by decide +kernel
theorem dX6_readToken_104 : decode cX6_readToken 104 = .ok (.aload_n 0, 1) := by decide +kernel
theorem dX6_readToken_105 : decode cX6_readToken 105 = .ok (.getfield 31, 3) := by decide +kernel
theorem dX6_readToken_108 : decode cX6_readToken 108 = .ok (.iconst 2, 1) := by decide +kernel
theorem dX6_readToken_109 : decode cX6_readToken 109 = .ok (.if_icmp .ne 7, 3) := by decide +kernel
theorem dX6_readToken_112 : decode cX6_readToken 112 = .ok (.iconst 1, 1) := by decide +kernel
theorem dX6_readToken_113 : decode cX6_readToken 113 = .ok (.goto 4, 3) := by decide +kernel
theorem dX6_readToken_116 : decode cX6_readToken 116 = .ok (.iconst 0, 1) := by decide +kernel
theorem dX6_readToken_117 : decode cX6_readToken 117 = .ok (.istore_n 1, 1) := by decide +kernel
theorem dX6_readToken_118 : decode cX6_readToken 118 = .ok (.iload_n 1, 1) := by decide +kernel
theorem dX6_readToken_119 : decode cX6_readToken 119 = .ok (.ifCond .eq 46, 3) := by decide +kernel
theorem dX6_readToken_122 : decode cX6_readToken 122 = .ok (.aload_n 0, 1) := by decide +kernel
theorem dX6_readToken_123 : decode cX6_readToken 123 = .ok (.getfield 19, 3) := by decide +kernel
theorem dX6_readToken_126 : decode cX6_readToken 126 = .ok (.aload_n 0, 1) := by decide +kernel

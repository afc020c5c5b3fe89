theorem dX9_runsIn_85 : decode cX9_runsIn 85 = .ok (.aload_n 0, 1) := by decide +kernel
theorem dX9_runsIn_86 : decode cX9_runsIn 86 = .ok (.getfield 38, 3) := by decide +kernel
theorem dX9_runsIn_89 : decode cX9_runsIn 89 = .ok (.iload_n 1, 1) := by decide +kernel
theorem dX9_runsIn_90 : decode cX9_runsIn 90 = .ok (.iload_n 3, 1) := by decide +kernel
theorem dX9_runsIn_91 : decode cX9_runsIn 91 = .ok (.ifCond .ne 7, 3) := by decide +kernel
theorem dX9_runsIn_94 : decode cX9_runsIn 94 = .ok (.iconst 1, 1) := by decide +kernel
theorem dX9_runsIn_95 : decode cX9_runsIn 95 = .ok (.goto 4, 3) := by decide +kernel
theorem dX9_runsIn_98 : decode cX9_runsIn 98 = .ok (.iconst 0, 1) := by decide +kernel
theorem dX9_runsIn_99 : decode cX9_runsIn 99 = .ok (.bastore, 1) := by decide +kernel
theorem dX9_runsIn_100 : decode cX9_runsIn 100 = .ok (.aload_n 0, 1) := by decide +kernel
theorem dX9_runsIn_101 : decode cX9_runsIn 101 = .ok (.getfield 41, 3) := by decide +kernel
theorem dX9_runsIn_104 : decode cX9_runsIn 104 = .ok (.iload_n 2, 1) := by decide +kernel
theorem dX9_runsIn_105 : decode cX9_runsIn 105 = .ok (.dup2, 1) := by decide +kernel
theorem dX9_runsIn_106 : decode cX9_runsIn 106 = .ok (.iaload, 1) := by decide +kernel
theorem dX9_runsIn_107 : decode cX9_runsIn 107 = .ok (.iconst 1, 1) := by decide +kernel
theorem dX9_runsIn_108 : decode cX9_runsIn 108 = .ok (.iload_n 1, 1) := by decide +kernel
theorem dX9_runsIn_109 : decode cX9_runsIn 109 = .ok (.ishl, 1) := by decide +kernel
theorem dX9_runsIn_110 : decode cX9_runsIn 110 = .ok (.ior, 1) := by decide +kernel
theorem dX9_runsIn_111 : decode cX9_runsIn 111 = .ok (.iastore, 1) := by decide +kernel
theorem dX9_runsIn_112 : decode cX9_runsIn 112 = .ok (.return_, 1) := by decide +kernel
set_option maxRecDepth 20000 in
theorem ggX9_mileGoes_X9_of : GoodIn wsX9_mileGoes wsX9_of := goodIn_r _ [8, 9, 38, 39, 40, 41, 42, 43, 44, 45, 46, 47, 48, 49, 50, 51, 52, 53, 54, 55, 56, 57, 58, 59, 60, 61, 62, 63, 64, 65, 66, 67, 68, 69, 70, 71, 72, 73, 74] (by decide +kernel) (by decide +kernel)
set_option maxRecDepth 20000 in
theorem gX9_mileGoes_X9_of : GoodIn wsX9_mileGoes (wsV RX9 170 RX9 yX9_of wsX9_of) := goodIn_app (goodIn_of _ (by decide +kernel)) ggX9_mileGoes_X9_of
set_option maxRecDepth 20000 in
theorem ggX9_mileGoes_X9_canRun : GoodIn wsX9_mileGoes wsX9_canRun := goodIn_r _ [13, 2, 9, 14, 4, 5, 6, 7, 8, 15, 16, 17, 18, 19, 20, 21, 22, 23, 24, 25, 26, 38, 39, 40, 41, 42, 43, 44, 45, 46, 47, 48, 49, 50, 51, 52, 53, 54, 55, 56, 57, 58, 59, 60, 61, 62, 63, 64, 65, 66, 67, 68, 69, 70, 71, 72, 73, 74] (by decide +kernel) (by decide +kernel)
set_option maxRecDepth 20000 in
theorem gX9_mileGoes_X9_canRun : GoodIn wsX9_mileGoes (wsV RX9 179 RX9 yX9_canRun wsX9_canRun) := goodIn_app (goodIn_of _ (by decide +kernel)) ggX9_mileGoes_X9_canRun
set_option maxRecDepth 20000 in
theorem ggX9_mileGoes_X9_runsIn : GoodIn wsX9_mileGoes wsX9_runsIn := goodIn_r _ [30, 14, 31, 32, 2, 33, 19, 20, 21, 7, 22, 23, 24, 25, 26, 15, 16, 17, 18, 9, 4, 5, 6, 8, 34, 35, 36, 37, 38, 39, 40, 41, 42, 43, 44, 45, 46, 47, 48, 49, 50, 51, 52, 53, 54, 55, 56, 57, 58, 59, 60, 61, 62, 63, 64, 65, 66, 67, 68, 69, 70, 71, 72, 73, 74] (by decide +kernel) (by decide +kernel)
set_option maxRecDepth 20000 in
theorem gX9_mileGoes_X9_runsIn : GoodIn wsX9_mileGoes (wsV RX9 183 RX9 yX9_runsIn wsX9_runsIn) := goodIn_app (goodIn_of _ (by decide +kernel)) ggX9_mileGoes_X9_runsIn
theorem dX9_mileGoes_0 : decode cX9_mileGoes 0 = .ok (.iconst 0, 1) := by decide +kernel
theorem dX9_mileGoes_1 : decode cX9_mileGoes 1 = .ok (.istore_n 2, 1) := by decide +kernel
theorem dX9_mileGoes_2 : decode cX9_mileGoes 2 = .ok (.iconst 0, 1) := by decide +kernel
theorem dX9_mileGoes_3 : decode cX9_mileGoes 3 = .ok (.istore_n 3, 1) := by decide +kernel
theorem dX9_mileGoes_4 : decode cX9_mileGoes 4 = .ok (.iload_n 3, 1) := by decide +kernel
theorem dX9_mileGoes_5 : decode cX9_mileGoes 5 = .ok (.aload_n 0, 1) := by decide +kernel
theorem dX9_mileGoes_6 : decode cX9_mileGoes 6 = .ok (.getfield 84, 3) := by decide +kernel
theorem dX9_mileGoes_9 : decode cX9_mileGoes 9 = .ok (.if_icmp .ge 64, 3) := by decide +kernel
theorem dX9_mileGoes_12 : decode cX9_mileGoes 12 = .ok (.aload_n 0, 1) := by decide +kernel
theorem dX9_mileGoes_13 : decode cX9_mileGoes 13 = .ok (.iload_n 3, 1) := by decide +kernel
theorem dX9_mileGoes_14 : decode cX9_mileGoes 14 = .ok (.iconst 4, 1) := by decide +kernel
theorem dX9_mileGoes_15 : decode cX9_mileGoes 15 = .ok (.invokevirtual 170, 3) := by decide +kernel
theorem dX9_mileGoes_18 : decode cX9_mileGoes 18 = .ok (.iload_n 1, 1) := by decide +kernel
theorem dX9_mileGoes_19 : decode cX9_mileGoes 19 = .ok (.if_icmp .eq 12, 3) := by decide +kernel
theorem dX9_mileGoes_22 : decode cX9_mileGoes 22 = .ok (.aload_n 0, 1) := by decide +kernel
theorem dX9_mileGoes_23 : decode cX9_mileGoes 23 = .ok (.getfield 38, 3) := by decide +kernel
theorem dX9_mileGoes_26 : decode cX9_mileGoes 26 = .ok (.iload_n 3, 1) := by decide +kernel
theorem dX9_mileGoes_27 : decode cX9_mileGoes 27 = .ok (.baload, 1) := by decide +kernel
theorem dX9_mileGoes_28 : decode cX9_mileGoes 28 = .ok (.ifCond .eq 39, 3) := by decide +kernel
theorem dX9_mileGoes_31 : decode cX9_mileGoes 31 = .ok (.aload_n 0, 1) := by decide +kernel
theorem dX9_mileGoes_32 : decode cX9_mileGoes 32 = .ok (.iload_n 3, 1) := by decide +kernel
theorem dX9_mileGoes_33 : decode cX9_mileGoes 33 = .ok (.iload_n 1, 1) := by decide +kernel
theorem dX9_mileGoes_34 : decode cX9_mileGoes 34 = .ok (.iload_n 2, 1) := by decide +kernel
theorem dX9_mileGoes_35 : decode cX9_mileGoes 35 = .ok (.invokevirtual 179, 3) := by decide +kernel
theorem dX9_mileGoes_38 : decode cX9_mileGoes 38 = .ok (.ifCond .eq 15, 3) := by decide +kernel
theorem dX9_mileGoes_41 : decode cX9_mileGoes 41 = .ok (.aload_n 0, 1) := by decide +kernel
theorem dX9_mileGoes_42 : decode cX9_mileGoes 42 = .ok (.iload_n 3, 1) := by decide +kernel
theorem dX9_mileGoes_43 : decode cX9_mileGoes 43 = .ok (.iload_n 1, 1) := by decide +kernel
theorem dX9_mileGoes_44 : decode cX9_mileGoes 44 = .ok (.invokevirtual 183, 3) := by decide +kernel
theorem dX9_mileGoes_47 : decode cX9_mileGoes 47 = .ok (.iinc 2 1, 3) := by decide +kernel
theorem dX9_mileGoes_50 : decode cX9_mileGoes 50 = .ok (.goto 17, 3) := by decide +kernel
theorem dX9_mileGoes_53 : decode cX9_mileGoes 53 = .ok (.aload_n 0, 1) := by decide +kernel
theorem dX9_mileGoes_54 : decode cX9_mileGoes 54 = .ok (.getfield 29, 3) := by decide +kernel
theorem dX9_mileGoes_57 : decode cX9_mileGoes 57 = .ok (.iload_n 3, 1) := by decide +kernel
theorem dX9_mileGoes_58 : decode cX9_mileGoes 58 = .ok (.iload_n 1, 1) := by decide +kernel
theorem dX9_mileGoes_59 : decode cX9_mileGoes 59 = .ok (.iastore, 1) := by decide +kernel
theorem dX9_mileGoes_60 : decode cX9_mileGoes 60 = .ok (.aload_n 0, 1) := by decide +kernel
theorem dX9_mileGoes_61 : decode cX9_mileGoes 61 = .ok (.getfield 38, 3) := by decide +kernel
theorem dX9_mileGoes_64 : decode cX9_mileGoes 64 = .ok (.iload_n 3, 1) := by decide +kernel
theorem dX9_mileGoes_65 : decode cX9_mileGoes 65 = .ok (.iconst 0, 1) := by decide +kernel
theorem dX9_mileGoes_66 : decode cX9_mileGoes 66 = .ok (.bastore, 1) := by decide +kernel
theorem dX9_mileGoes_67 : decode cX9_mileGoes 67 = .ok (.iinc 3 1, 3) := by decide +kernel
theorem dX9_mileGoes_70 : decode cX9_mileGoes 70 = .ok (.goto (-66), 3) := by decide +kernel
theorem dX9_mileGoes_73 : decode cX9_mileGoes 73 = .ok (.return_, 1) := by decide +kernel
set_option maxRecDepth 20000 in
theorem ggX9_drives_X9_of : GoodIn wsX9_drives wsX9_of := goodIn_r _ [14, 9, 44, 45, 46, 47, 48, 49, 50, 51, 52, 53, 54, 55, 56, 57, 58, 59, 60, 61, 62, 63, 64, 65, 66, 67, 68, 69, 70, 71, 72, 73, 74, 75, 76, 77, 78, 79, 80] (by decide +kernel) (by decide +kernel)
set_option maxRecDepth 20000 in
theorem gX9_drives_X9_of : GoodIn wsX9_drives (wsV RX9 170 RX9 yX9_of wsX9_of) := goodIn_app (goodIn_of _ (by decide +kernel)) ggX9_drives_X9_of
set_option maxRecDepth 20000 in
theorem ggX9_drives_X9_mileGoes : GoodIn wsX9_drives wsX9_mileGoes := goodIn_r _ [18, 19, 6, 3, 10, 11, 12, 13, 14, 9, 20, 21, 22, 23, 5, 24, 25, 26, 27, 28, 29, 30, 31, 32, 33, 34, 35, 36, 37, 38, 39, 4, 2, 7, 40, 41, 42, 43, 44, 45, 46, 47, 48, 49, 50, 51, 52, 53, 54, 55, 56, 57, 58, 59, 60, 61, 62, 63, 64, 65, 66, 67, 68, 69, 70, 71, 72, 73, 74, 75, 76, 77, 78, 79, 80] (by decide +kernel) (by decide +kernel)
set_option maxRecDepth 20000 in
theorem gX9_drives_X9_mileGoes : GoodIn wsX9_drives (wsV RX9 190 RX9 yX9_mileGoes wsX9_mileGoes) := goodIn_app (goodIn_of _ (by decide +kernel)) ggX9_drives_X9_mileGoes
set_option maxRecDepth 20000 in
theorem ggX9_drives_X9_minutes : GoodIn wsX9_drives wsX9_minutes := goodIn_r _ [35, 24, 25, 26, 13, 27, 9, 44, 45, 46, 47, 48, 49, 50, 51, 52, 53, 54, 55, 56, 57, 58, 59, 60, 61, 62, 63, 64, 65, 66, 67, 68, 69, 70, 71, 72, 73, 74, 75, 76, 77, 78, 79, 80] (by decide +kernel) (by decide +kernel)
set_option maxRecDepth 20000 in
theorem gX9_drives_X9_minutes : GoodIn wsX9_drives (wsV RX9 167 RX9 yX9_minutes wsX9_minutes) := goodIn_app (goodIn_of _ (by decide +kernel)) ggX9_drives_X9_minutes
theorem dX9_drives_0 : decode cX9_drives 0 = .ok (.iconst 0, 1) := by decide +kernel
theorem dX9_drives_1 : decode cX9_drives 1 = .ok (.istore_n 1, 1) := by decide +kernel
theorem dX9_drives_2 : decode cX9_drives 2 = .ok (.aload_n 0, 1) := by decide +kernel
theorem dX9_drives_3 : decode cX9_drives 3 = .ok (.iconst 0, 1) := by decide +kernel
theorem dX9_drives_4 : decode cX9_drives 4 = .ok (.putfield 187, 3) := by decide +kernel
theorem dX9_drives_7 : decode cX9_drives 7 = .ok (.iconst 0, 1) := by decide +kernel
theorem dX9_drives_8 : decode cX9_drives 8 = .ok (.istore_n 2, 1) := by decide +kernel
theorem dX9_drives_9 : decode cX9_drives 9 = .ok (.iload_n 2, 1) := by decide +kernel
theorem dX9_drives_10 : decode cX9_drives 10 = .ok (.iconst 4, 1) := by decide +kernel
theorem dX9_drives_11 : decode cX9_drives 11 = .ok (.if_icmp .ge 51, 3) := by decide +kernel
theorem dX9_drives_14 : decode cX9_drives 14 = .ok (.aload_n 0, 1) := by decide +kernel
theorem dX9_drives_15 : decode cX9_drives 15 = .ok (.getfield 26, 3) := by decide +kernel
theorem dX9_drives_18 : decode cX9_drives 18 = .ok (.iload_n 2, 1) := by decide +kernel
theorem dX9_drives_19 : decode cX9_drives 19 = .ok (.bipush (-4), 2) := by decide +kernel
theorem dX9_drives_21 : decode cX9_drives 21 = .ok (.iastore, 1) := by decide +kernel
theorem dX9_drives_22 : decode cX9_drives 22 = .ok (.aload_n 0, 1) := by decide +kernel
theorem dX9_drives_23 : decode cX9_drives 23 = .ok (.getfield 29, 3) := by decide +kernel
theorem dX9_drives_26 : decode cX9_drives 26 = .ok (.iload_n 2, 1) := by decide +kernel
theorem dX9_drives_27 : decode cX9_drives 27 = .ok (.bipush (-4), 2) := by decide +kernel
theorem dX9_drives_29 : decode cX9_drives 29 = .ok (.iastore, 1) := by decide +kernel
theorem dX9_drives_30 : decode cX9_drives 30 = .ok (.aload_n 0, 1) := by decide +kernel
theorem dX9_drives_31 : decode cX9_drives 31 = .ok (.getfield 32, 3) := by decide +kernel
theorem dX9_drives_34 : decode cX9_drives 34 = .ok (.iload_n 2, 1) := by decide +kernel
theorem dX9_drives_35 : decode cX9_drives 35 = .ok (.iconst 0, 1) := by decide +kernel
theorem dX9_drives_36 : decode cX9_drives 36 = .ok (.iastore, 1) := by decide +kernel
theorem dX9_drives_37 : decode cX9_drives 37 = .ok (.aload_n 0, 1) := by decide +kernel
theorem dX9_drives_38 : decode cX9_drives 38 = .ok (.getfield 35, 3) := by decide +kernel
theorem dX9_drives_41 : decode cX9_drives 41 = .ok (.iload_n 2, 1) := by decide +kernel
theorem dX9_drives_42 : decode cX9_drives 42 = .ok (.aload_n 0, 1) := by decide +kernel
theorem dX9_drives_43 : decode cX9_drives 43 = .ok (.iload_n 2, 1) := by decide +kernel
theorem dX9_drives_44 : decode cX9_drives 44 = .ok (.iconst 1, 1) := by decide +kernel
theorem dX9_drives_45 : decode cX9_drives 45 = .ok (.invokevirtual 170, 3) := by decide +kernel
theorem dX9_drives_48 : decode cX9_drives 48 = .ok (.iastore, 1) := by decide +kernel
theorem dX9_drives_49 : decode cX9_drives 49 = .ok (.aload_n 0, 1) := by decide +kernel
theorem dX9_drives_50 : decode cX9_drives 50 = .ok (.getfield 38, 3) := by decide +kernel
theorem dX9_drives_53 : decode cX9_drives 53 = .ok (.iload_n 2, 1) := by decide +kernel
theorem dX9_drives_54 : decode cX9_drives 54 = .ok (.iconst 0, 1) := by decide +kernel
theorem dX9_drives_55 : decode cX9_drives 55 = .ok (.bastore, 1) := by decide +kernel
theorem dX9_drives_56 : decode cX9_drives 56 = .ok (.iinc 2 1, 3) := by decide +kernel
theorem dX9_drives_59 : decode cX9_drives 59 = .ok (.goto (-50), 3) := by decide +kernel
theorem dX9_drives_62 : decode cX9_drives 62 = .ok (.iconst 0, 1) := by decide +kernel
theorem dX9_drives_63 : decode cX9_drives 63 = .ok (.istore_n 2, 1) := by decide +kernel
theorem dX9_drives_64 : decode cX9_drives 64 = .ok (.iload_n 2, 1) := by decide +kernel
theorem dX9_drives_65 : decode cX9_drives 65 = .ok (.bipush 8, 2) := by decide +kernel
theorem dX9_drives_67 : decode cX9_drives 67 = .ok (.if_icmp .ge 16, 3) := by decide +kernel
theorem dX9_drives_70 : decode cX9_drives 70 = .ok (.aload_n 0, 1) := by decide +kernel
theorem dX9_drives_71 : decode cX9_drives 71 = .ok (.getfield 41, 3) := by decide +kernel
theorem dX9_drives_74 : decode cX9_drives 74 = .ok (.iload_n 2, 1) := by decide +kernel
theorem dX9_drives_75 : decode cX9_drives 75 = .ok (.iconst 0, 1) := by decide +kernel
theorem dX9_drives_76 : decode cX9_drives 76 = .ok (.iastore, 1) := by decide +kernel
theorem dX9_drives_77 : decode cX9_drives 77 = .ok (.iinc 2 1, 3) := by decide +kernel
theorem dX9_drives_80 : decode cX9_drives 80 = .ok (.goto (-16), 3) := by decide +kernel
theorem dX9_drives_83 : decode cX9_drives 83 = .ok (.aload_n 0, 1) := by decide +kernel
theorem dX9_drives_84 : decode cX9_drives 84 = .ok (.getfield 187, 3) := by decide +kernel
theorem dX9_drives_87 : decode cX9_drives 87 = .ok (.aload_n 0, 1) := by decide +kernel
theorem dX9_drives_88 : decode cX9_drives 88 = .ok (.getfield 81, 3) := by decide +kernel
theorem dX9_drives_91 : decode cX9_drives 91 = .ok (.if_icmp .ge 46, 3) := by decide +kernel
theorem dX9_drives_94 : decode cX9_drives 94 = .ok (.iload_n 1, 1) := by decide +kernel
theorem dX9_drives_95 : decode cX9_drives 95 = .ok (.aload_n 0, 1) := by decide +kernel
theorem dX9_drives_96 : decode cX9_drives 96 = .ok (.getfield 13, 3) := by decide +kernel
theorem dX9_drives_99 : decode cX9_drives 99 = .ok (.bipush 45, 2) := by decide +kernel
theorem dX9_drives_101 : decode cX9_drives 101 = .ok (.iaload, 1) := by decide +kernel
theorem dX9_drives_102 : decode cX9_drives 102 = .ok (.if_icmp .ge 35, 3) := by decide +kernel
theorem dX9_drives_105 : decode cX9_drives 105 = .ok (.aload_n 0, 1) := by decide +kernel
theorem dX9_drives_106 : decode cX9_drives 106 = .ok (.aload_n 0, 1) := by decide +kernel
theorem dX9_drives_107 : decode cX9_drives 107 = .ok (.getfield 187, 3) := by decide +kernel
theorem dX9_drives_110 : decode cX9_drives 110 = .ok (.invokevirtual 190, 3) := by decide +kernel
theorem dX9_drives_113 : decode cX9_drives 113 = .ok (.iload_n 1, 1) := by decide +kernel
theorem dX9_drives_114 : decode cX9_drives 114 = .ok (.aload_n 0, 1) := by decide +kernel
theorem dX9_drives_115 : decode cX9_drives 115 = .ok (.aload_n 0, 1) := by decide +kernel
theorem dX9_drives_116 : decode cX9_drives 116 = .ok (.getfield 187, 3) := by decide +kernel
theorem dX9_drives_119 : decode cX9_drives 119 = .ok (.invokevirtual 167, 3) := by decide +kernel
theorem dX9_drives_122 : decode cX9_drives 122 = .ok (.iadd, 1) := by decide +kernel
theorem dX9_drives_123 : decode cX9_drives 123 = .ok (.istore_n 1, 1) := by decide +kernel
theorem dX9_drives_124 : decode cX9_drives 124 = .ok (.aload_n 0, 1) := by decide +kernel
theorem dX9_drives_125 : decode cX9_drives 125 = .ok (.dup, 1) := by decide +kernel
theorem dX9_drives_126 : decode cX9_drives 126 = .ok (.getfield 187, 3) := by decide +kernel
theorem dX9_drives_129 : decode cX9_drives 129 = .ok (.iconst 1, 1) := by decide +kernel
theorem dX9_drives_130 : decode cX9_drives 130 = .ok (.iadd, 1) := by decide +kernel
theorem dX9_drives_131 : decode cX9_drives 131 = .ok (.putfield 187, 3) := by decide +kernel
theorem dX9_drives_134 : decode cX9_drives 134 = .ok (.goto (-51), 3) := by decide +kernel
theorem dX9_drives_137 : decode cX9_drives 137 = .ok (.return_, 1) := by decide +kernel
set_option maxRecDepth 20000 in
theorem ggX9_verdicts_X9_flag : GoodIn wsX9_verdicts wsX9_flag := goodIn_r _ [6] (by decide +kernel) (by decide +kernel)
set_option maxRecDepth 20000 in
theorem gX9_verdicts_X9_flag : GoodIn wsX9_verdicts (va_wsS RX9 193 yX9_flag wsX9_flag) := goodIn_app (goodIn_of _ (by decide +kernel)) ggX9_verdicts_X9_flag
theorem dX9_verdicts_0 : decode cX9_verdicts 0 = .ok (.iconst 0, 1) := by decide +kernel
theorem dX9_verdicts_1 : decode cX9_verdicts 1 = .ok (.istore_n 1, 1) := by decide +kernel
theorem dX9_verdicts_2 : decode cX9_verdicts 2 = .ok (.iconst 0, 1) := by decide +kernel
theorem dX9_verdicts_3 : decode cX9_verdicts 3 = .ok (.istore_n 2, 1) := by decide +kernel
theorem dX9_verdicts_4 : decode cX9_verdicts 4 = .ok (.iload_n 2, 1) := by decide +kernel
theorem dX9_verdicts_5 : decode cX9_verdicts 5 = .ok (.aload_n 0, 1) := by decide +kernel
theorem dX9_verdicts_6 : decode cX9_verdicts 6 = .ok (.getfield 84, 3) := by decide +kernel
theorem dX9_verdicts_9 : decode cX9_verdicts 9 = .ok (.if_icmp .ge 33, 3) := by decide +kernel
theorem dX9_verdicts_12 : decode cX9_verdicts 12 = .ok (.iload_n 1, 1) := by decide +kernel
theorem dX9_verdicts_13 : decode cX9_verdicts 13 = .ok (.aload_n 0, 1) := by decide +kernel
theorem dX9_verdicts_14 : decode cX9_verdicts 14 = .ok (.getfield 26, 3) := by decide +kernel
theorem dX9_verdicts_17 : decode cX9_verdicts 17 = .ok (.iload_n 2, 1) := by decide +kernel
theorem dX9_verdicts_18 : decode cX9_verdicts 18 = .ok (.iaload, 1) := by decide +kernel
theorem dX9_verdicts_19 : decode cX9_verdicts 19 = .ok (.bipush (-4), 2) := by decide +kernel
theorem dX9_verdicts_21 : decode cX9_verdicts 21 = .ok (.if_icmp .eq 7, 3) := by decide +kernel
theorem dX9_verdicts_24 : decode cX9_verdicts 24 = .ok (.iconst 1, 1) := by decide +kernel
theorem dX9_verdicts_25 : decode cX9_verdicts 25 = .ok (.goto 4, 3) := by decide +kernel
theorem dX9_verdicts_28 : decode cX9_verdicts 28 = .ok (.iconst 0, 1) := by decide +kernel
theorem dX9_verdicts_29 : decode cX9_verdicts 29 = .ok (.invokestatic 193, 3) := by decide +kernel
theorem dX9_verdicts_32 : decode cX9_verdicts 32 = .ok (.iload_n 2, 1) := by decide +kernel
theorem dX9_verdicts_33 : decode cX9_verdicts 33 = .ok (.ishl, 1) := by decide +kernel
theorem dX9_verdicts_34 : decode cX9_verdicts 34 = .ok (.ior, 1) := by decide +kernel
theorem dX9_verdicts_35 : decode cX9_verdicts 35 = .ok (.istore_n 1, 1) := by decide +kernel
theorem dX9_verdicts_36 : decode cX9_verdicts 36 = .ok (.iinc 2 1, 3) := by decide +kernel
theorem dX9_verdicts_39 : decode cX9_verdicts 39 = .ok (.goto (-35), 3) := by decide +kernel
theorem dX9_verdicts_42 : decode cX9_verdicts 42 = .ok (.iload_n 1, 1) := by decide +kernel
theorem dX9_verdicts_43 : decode cX9_verdicts 43 = .ok (.ireturn, 1) := by decide +kernel
theorem dX9_bitsOf_0 : decode cX9_bitsOf 0 = .ok (.iconst 0, 1) := by decide +kernel
theorem dX9_bitsOf_1 : decode cX9_bitsOf 1 = .ok (.istore_n 1, 1) := by decide +kernel
theorem dX9_bitsOf_2 : decode cX9_bitsOf 2 = .ok (.iconst 0, 1) := by decide +kernel
theorem dX9_bitsOf_3 : decode cX9_bitsOf 3 = .ok (.istore_n 2, 1) := by decide +kernel
theorem dX9_bitsOf_4 : decode cX9_bitsOf 4 = .ok (.iload_n 2, 1) := by decide +kernel
theorem dX9_bitsOf_5 : decode cX9_bitsOf 5 = .ok (.bipush 8, 2) := by decide +kernel
theorem dX9_bitsOf_7 : decode cX9_bitsOf 7 = .ok (.if_icmp .gt 17, 3) := by decide +kernel
theorem dX9_bitsOf_10 : decode cX9_bitsOf 10 = .ok (.iload_n 1, 1) := by decide +kernel
theorem dX9_bitsOf_11 : decode cX9_bitsOf 11 = .ok (.iload_n 0, 1) := by decide +kernel
theorem dX9_bitsOf_12 : decode cX9_bitsOf 12 = .ok (.iload_n 2, 1) := by decide +kernel
theorem dX9_bitsOf_13 : decode cX9_bitsOf 13 = .ok (.ishr, 1) := by decide +kernel
theorem dX9_bitsOf_14 : decode cX9_bitsOf 14 = .ok (.iconst 1, 1) := by decide +kernel
theorem dX9_bitsOf_15 : decode cX9_bitsOf 15 = .ok (.iand, 1) := by decide +kernel
theorem dX9_bitsOf_16 : decode cX9_bitsOf 16 = .ok (.iadd, 1) := by decide +kernel
theorem dX9_bitsOf_17 : decode cX9_bitsOf 17 = .ok (.istore_n 1, 1) := by decide +kernel
theorem dX9_bitsOf_18 : decode cX9_bitsOf 18 = .ok (.iinc 2 1, 3) := by decide +kernel
theorem dX9_bitsOf_21 : decode cX9_bitsOf 21 = .ok (.goto (-17), 3) := by decide +kernel
theorem dX9_bitsOf_24 : decode cX9_bitsOf 24 = .ok (.iload_n 1, 1) := by decide +kernel
theorem dX9_bitsOf_25 : decode cX9_bitsOf 25 = .ok (.ireturn, 1) := by decide +kernel
set_option maxRecDepth 20000 in
theorem ggX9_howMany_X9_drives : GoodIn wsX9_howMany wsX9_drives := goodIn_r _ [5, 6, 7, 8, 9, 10, 11, 12, 13, 14, 15, 16, 17, 4, 18, 19, 20, 21, 22, 23, 24, 25, 26, 27, 28, 29, 30, 31, 32, 33, 34, 35, 36, 37, 38, 39, 40, 41, 42, 43, 44, 45, 46, 47, 58, 59, 60, 61, 62, 63, 64, 65, 66, 67, 68, 69, 70, 71, 72, 73, 74, 75, 76, 77, 78, 79, 80, 81, 82, 83, 84, 85, 86, 87, 88, 89, 90, 91, 92, 93, 94] (by decide +kernel) (by decide +kernel)
set_option maxRecDepth 20000 in
theorem gX9_howMany_X9_drives : GoodIn wsX9_howMany (wsV RX9 197 RX9 yX9_drives wsX9_drives) := goodIn_app (goodIn_of _ (by decide +kernel)) ggX9_howMany_X9_drives
set_option maxRecDepth 20000 in
theorem ggX9_howMany_X9_verdicts : GoodIn wsX9_howMany wsX9_verdicts := goodIn_r _ [51, 23, 7, 52, 53, 4, 54, 58, 59, 60, 61, 62, 63, 64, 65, 66, 67, 68, 69, 70, 71, 72, 73, 74, 75, 76, 77, 78, 79, 80, 81, 82, 83, 84, 85, 86, 87, 88, 89, 90, 91, 92, 93, 94] (by decide +kernel) (by decide +kernel)
set_option maxRecDepth 20000 in
theorem gX9_howMany_X9_verdicts : GoodIn wsX9_howMany (wsV RX9 200 RX9 yX9_verdicts wsX9_verdicts) := goodIn_app (goodIn_of _ (by decide +kernel)) ggX9_howMany_X9_verdicts
set_option maxRecDepth 20000 in
theorem ggX9_howMany_X9_bitsOf : GoodIn wsX9_howMany wsX9_bitsOf := goodIn_r _ [57] (by decide +kernel) (by decide +kernel)
set_option maxRecDepth 20000 in
theorem gX9_howMany_X9_bitsOf : GoodIn wsX9_howMany (va_wsS RX9 203 yX9_bitsOf wsX9_bitsOf) := goodIn_app (goodIn_of _ (by decide +kernel)) ggX9_howMany_X9_bitsOf
theorem dX9_howMany_0 : decode cX9_howMany 0 = .ok (.aload_n 0, 1) := by decide +kernel
theorem dX9_howMany_1 : decode cX9_howMany 1 = .ok (.invokevirtual 197, 3) := by decide +kernel
theorem dX9_howMany_4 : decode cX9_howMany 4 = .ok (.aload_n 0, 1) := by decide +kernel
theorem dX9_howMany_5 : decode cX9_howMany 5 = .ok (.invokevirtual 200, 3) := by decide +kernel
theorem dX9_howMany_8 : decode cX9_howMany 8 = .ok (.invokestatic 203, 3) := by decide +kernel
theorem dX9_howMany_11 : decode cX9_howMany 11 = .ok (.ireturn, 1) := by decide +kernel
set_option maxRecDepth 20000 in
theorem ggX9_rule_X9_starts : GoodIn wsX9_rule wsX9_starts := goodIn_r _ [9, 10, 3, 53, 54, 55, 56, 57, 58, 59, 60, 61, 62, 63, 64, 65, 66, 67, 68, 69, 70, 71, 72, 73, 74, 75, 76, 77, 78, 79, 80, 81, 82, 83, 84, 85, 86, 87, 88, 89] (by decide +kernel) (by decide +kernel)
set_option maxRecDepth 20000 in
theorem gX9_rule_X9_starts : GoodIn wsX9_rule (wsV RX9 206 RX9 yX9_starts wsX9_starts) := goodIn_app (goodIn_of _ (by decide +kernel)) ggX9_rule_X9_starts
set_option maxRecDepth 20000 in
theorem ggX9_rule_X9_drives : GoodIn wsX9_rule wsX9_drives := goodIn_r _ [14, 4, 15, 16, 17, 18, 19, 20, 1, 10, 21, 22, 23, 8, 24, 25, 26, 27, 28, 2, 29, 30, 31, 32, 33, 34, 35, 36, 37, 38, 39, 40, 41, 42, 43, 44, 45, 46, 47, 48, 49, 50, 51, 52, 53, 54, 55, 56, 57, 58, 59, 60, 61, 62, 63, 64, 65, 66, 67, 68, 69, 70, 71, 72, 73, 74, 75, 76, 77, 78, 79, 80, 81, 82, 83, 84, 85, 86, 87, 88, 89] (by decide +kernel) (by decide +kernel)
set_option maxRecDepth 20000 in
theorem gX9_rule_X9_drives : GoodIn wsX9_rule (wsV RX9 197 RX9 yX9_drives wsX9_drives) := goodIn_app (goodIn_of _ (by decide +kernel)) ggX9_rule_X9_drives
set_option maxRecDepth 20000 in
theorem ggX9_rule_X9_minutes : GoodIn wsX9_rule wsX9_minutes := goodIn_r _ [44, 33, 34, 35, 8, 36, 10, 53, 54, 55, 56, 57, 58, 59, 60, 61, 62, 63, 64, 65, 66, 67, 68, 69, 70, 71, 72, 73, 74, 75, 76, 77, 78, 79, 80, 81, 82, 83, 84, 85, 86, 87, 88, 89] (by decide +kernel) (by decide +kernel)
set_option maxRecDepth 20000 in
theorem gX9_rule_X9_minutes : GoodIn wsX9_rule (wsV RX9 167 RX9 yX9_minutes wsX9_minutes) := goodIn_app (goodIn_of _ (by decide +kernel)) ggX9_rule_X9_minutes
theorem dX9_rule_0 : decode cX9_rule 0 = .ok (.aload_n 0, 1) := by decide +kernel
theorem dX9_rule_1 : decode cX9_rule 1 = .ok (.invokevirtual 206, 3) := by decide +kernel
theorem dX9_rule_4 : decode cX9_rule 4 = .ok (.aload_n 0, 1) := by decide +kernel
theorem dX9_rule_5 : decode cX9_rule 5 = .ok (.invokevirtual 197, 3) := by decide +kernel
theorem dX9_rule_8 : decode cX9_rule 8 = .ok (.iconst 0, 1) := by decide +kernel
theorem dX9_rule_9 : decode cX9_rule 9 = .ok (.istore_n 2, 1) := by decide +kernel
theorem dX9_rule_10 : decode cX9_rule 10 = .ok (.iconst 0, 1) := by decide +kernel
theorem dX9_rule_11 : decode cX9_rule 11 = .ok (.istore_n 3, 1) := by decide +kernel
theorem dX9_rule_12 : decode cX9_rule 12 = .ok (.iload_n 3, 1) := by decide +kernel
theorem dX9_rule_13 : decode cX9_rule 13 = .ok (.aload_n 0, 1) := by decide +kernel
theorem dX9_rule_14 : decode cX9_rule 14 = .ok (.getfield 81, 3) := by decide +kernel
theorem dX9_rule_17 : decode cX9_rule 17 = .ok (.if_icmp .ge 17, 3) := by decide +kernel
theorem dX9_rule_20 : decode cX9_rule 20 = .ok (.iload_n 2, 1) := by decide +kernel
theorem dX9_rule_21 : decode cX9_rule 21 = .ok (.aload_n 0, 1) := by decide +kernel
theorem dX9_rule_22 : decode cX9_rule 22 = .ok (.iload_n 3, 1) := by decide +kernel
theorem dX9_rule_23 : decode cX9_rule 23 = .ok (.invokevirtual 167, 3) := by decide +kernel
theorem dX9_rule_26 : decode cX9_rule 26 = .ok (.iadd, 1) := by decide +kernel
theorem dX9_rule_27 : decode cX9_rule 27 = .ok (.istore_n 2, 1) := by decide +kernel
theorem dX9_rule_28 : decode cX9_rule 28 = .ok (.iinc 3 1, 3) := by decide +kernel
theorem dX9_rule_31 : decode cX9_rule 31 = .ok (.goto (-19), 3) := by decide +kernel
theorem dX9_rule_34 : decode cX9_rule 34 = .ok (.iload_n 1, 1) := by decide +kernel
theorem dX9_rule_35 : decode cX9_rule 35 = .ok (.tableswitch 66 0 5 #[37, 42, 47, 47, 59, 61], 37) := by decide +kernel
theorem dX9_rule_72 : decode cX9_rule 72 = .ok (.aload_n 0, 1) := by decide +kernel
theorem dX9_rule_73 : decode cX9_rule 73 = .ok (.getfield 81, 3) := by decide +kernel
theorem dX9_rule_76 : decode cX9_rule 76 = .ok (.ireturn, 1) := by decide +kernel
theorem dX9_rule_77 : decode cX9_rule 77 = .ok (.aload_n 0, 1) := by decide +kernel
theorem dX9_rule_78 : decode cX9_rule 78 = .ok (.getfield 84, 3) := by decide +kernel
theorem dX9_rule_81 : decode cX9_rule 81 = .ok (.ireturn, 1) := by decide +kernel
theorem dX9_rule_82 : decode cX9_rule 82 = .ok (.aload_n 0, 1) := by decide +kernel
theorem dX9_rule_83 : decode cX9_rule 83 = .ok (.getfield 7, 3) := by decide +kernel
theorem dX9_rule_86 : decode cX9_rule 86 = .ok (.bipush 44, 2) := by decide +kernel
theorem dX9_rule_88 : decode cX9_rule 88 = .ok (.iload_n 1, 1) := by decide +kernel
theorem dX9_rule_89 : decode cX9_rule 89 = .ok (.iadd, 1) := by decide +kernel
theorem dX9_rule_90 : decode cX9_rule 90 = .ok (.iconst 2, 1) := by decide +kernel
theorem dX9_rule_91 : decode cX9_rule 91 = .ok (.isub, 1) := by decide +kernel
theorem dX9_rule_92 : decode cX9_rule 92 = .ok (.iaload, 1) := by decide +kernel
theorem dX9_rule_93 : decode cX9_rule 93 = .ok (.ireturn, 1) := by decide +kernel
theorem dX9_rule_94 : decode cX9_rule 94 = .ok (.iload_n 2, 1) := by decide +kernel
theorem dX9_rule_95 : decode cX9_rule 95 = .ok (.ireturn, 1) := by decide +kernel
theorem dX9_rule_96 : decode cX9_rule 96 = .ok (.aload_n 0, 1) := by decide +kernel
theorem dX9_rule_97 : decode cX9_rule 97 = .ok (.getfield 187, 3) := by decide +kernel
theorem dX9_rule_100 : decode cX9_rule 100 = .ok (.ireturn, 1) := by decide +kernel
theorem dX9_rule_101 : decode cX9_rule 101 = .ok (.iconst (-1), 1) := by decide +kernel
theorem dX9_rule_102 : decode cX9_rule 102 = .ok (.ireturn, 1) := by decide +kernel
set_option maxRecDepth 20000 in
theorem ggX9_mile_X9_isMile : GoodIn wsX9_mile wsX9_isMile := goodIn_r _ [6, 7, 8, 9, 5, 10, 29, 30, 31, 32, 33, 34, 35, 36, 37, 38, 39, 40, 41, 42, 43, 44, 45, 46, 47, 48, 49, 50, 51, 52, 53, 54, 55, 56, 57, 58, 59, 60, 61, 62, 63, 64, 65] (by decide +kernel) (by decide +kernel)
set_option maxRecDepth 20000 in
theorem gX9_mile_X9_isMile : GoodIn wsX9_mile (wsV RX9 209 RX9 yX9_isMile wsX9_isMile) := goodIn_app (goodIn_of _ (by decide +kernel)) ggX9_mile_X9_isMile
set_option maxRecDepth 20000 in
theorem ggX9_mile_X9_in : GoodIn wsX9_mile wsX9_in := goodIn_r _ [10] (by decide +kernel) (by decide +kernel)
set_option maxRecDepth 20000 in
theorem gX9_mile_X9_in : GoodIn wsX9_mile (va_wsS RX9 89 yX9_in wsX9_in) := goodIn_app (goodIn_of _ (by decide +kernel)) ggX9_mile_X9_in
set_option maxRecDepth 20000 in
theorem ggX9_mile_X9_starts : GoodIn wsX9_mile wsX9_starts := goodIn_r _ [14, 15, 16, 29, 30, 31, 32, 33, 34, 35, 36, 37, 38, 39, 40, 41, 42, 43, 44, 45, 46, 47, 48, 49, 50, 51, 52, 53, 54, 55, 56, 57, 58, 59, 60, 61, 62, 63, 64, 65] (by decide +kernel) (by decide +kernel)
set_option maxRecDepth 20000 in
theorem gX9_mile_X9_starts : GoodIn wsX9_mile (wsV RX9 206 RX9 yX9_starts wsX9_starts) := goodIn_app (goodIn_of _ (by decide +kernel)) ggX9_mile_X9_starts
set_option maxRecDepth 20000 in
theorem ggX9_mile_X9_ofMile : GoodIn wsX9_mile wsX9_ofMile := goodIn_r _ [20, 15, 29, 30, 31, 32, 33, 34, 35, 36, 37, 38, 39, 40, 41, 42, 43, 44, 45, 46, 47, 48, 49, 50, 51, 52, 53, 54, 55, 56, 57, 58, 59, 60, 61, 62, 63, 64, 65] (by decide +kernel) (by decide +kernel)
set_option maxRecDepth 20000 in
theorem gX9_mile_X9_ofMile : GoodIn wsX9_mile (wsV RX9 164 RX9 yX9_ofMile wsX9_ofMile) := goodIn_app (goodIn_of _ (by decide +kernel)) ggX9_mile_X9_ofMile
set_option maxRecDepth 20000 in
theorem ggX9_mile_X9_minutes : GoodIn wsX9_mile wsX9_minutes := goodIn_r _ [24, 17, 18, 19, 5, 20, 15, 29, 30, 31, 32, 33, 34, 35, 36, 37, 38, 39, 40, 41, 42, 43, 44, 45, 46, 47, 48, 49, 50, 51, 52, 53, 54, 55, 56, 57, 58, 59, 60, 61, 62, 63, 64, 65] (by decide +kernel) (by decide +kernel)
set_option maxRecDepth 20000 in
theorem gX9_mile_X9_minutes : GoodIn wsX9_mile (wsV RX9 167 RX9 yX9_minutes wsX9_minutes) := goodIn_app (goodIn_of _ (by decide +kernel)) ggX9_mile_X9_minutes
set_option maxRecDepth 20000 in
theorem ggX9_mile_X9_hearing : GoodIn wsX9_mile wsX9_hearing := goodIn_r _ [28, 17, 18, 19, 5, 20, 15, 21, 22, 23, 24, 29, 30, 31, 32, 33, 34, 35, 36, 37, 38, 39, 40, 41, 42, 43, 44, 45, 46, 47, 48, 49, 50, 51, 52, 53, 54, 55, 56, 57, 58, 59, 60, 61, 62, 63, 64, 65] (by decide +kernel) (by decide +kernel)
set_option maxRecDepth 20000 in
theorem gX9_mile_X9_hearing : GoodIn wsX9_mile (wsV RX9 176 RX9 yX9_hearing wsX9_hearing) := goodIn_app (goodIn_of _ (by decide +kernel)) ggX9_mile_X9_hearing
theorem dX9_mile_0 : decode cX9_mile 0 = .ok (.aload_n 0, 1) := by decide +kernel
theorem dX9_mile_1 : decode cX9_mile 1 = .ok (.iload_n 1, 1) := by decide +kernel
theorem dX9_mile_2 : decode cX9_mile 2 = .ok (.invokevirtual 209, 3) := by decide +kernel
theorem dX9_mile_5 : decode cX9_mile 5 = .ok (.ifCond .eq 15, 3) := by decide +kernel
theorem dX9_mile_8 : decode cX9_mile 8 = .ok (.iload_n 2, 1) := by decide +kernel
theorem dX9_mile_9 : decode cX9_mile 9 = .ok (.i2l, 1) := by decide +kernel
theorem dX9_mile_10 : decode cX9_mile 10 = .ok (.lconst 0, 1) := by decide +kernel
theorem dX9_mile_11 : decode cX9_mile 11 = .ok (.ldc2_w 213, 3) := by decide +kernel
theorem dX9_mile_14 : decode cX9_mile 14 = .ok (.invokestatic 89, 3) := by decide +kernel
theorem dX9_mile_17 : decode cX9_mile 17 = .ok (.ifCond .ne 5, 3) := by decide +kernel
theorem dX9_mile_20 : decode cX9_mile 20 = .ok (.iconst (-1), 1) := by decide +kernel
theorem dX9_mile_21 : decode cX9_mile 21 = .ok (.ireturn, 1) := by decide +kernel
theorem dX9_mile_22 : decode cX9_mile 22 = .ok (.aload_n 0, 1) := by decide +kernel
theorem dX9_mile_23 : decode cX9_mile 23 = .ok (.invokevirtual 206, 3) := by decide +kernel
theorem dX9_mile_26 : decode cX9_mile 26 = .ok (.iload_n 2, 1) := by decide +kernel
theorem dX9_mile_27 : decode cX9_mile 27 = .ok (.iconst 3, 1) := by decide +kernel
theorem dX9_mile_28 : decode cX9_mile 28 = .ok (.if_icmp .ge 12, 3) := by decide +kernel
theorem dX9_mile_31 : decode cX9_mile 31 = .ok (.aload_n 0, 1) := by decide +kernel
theorem dX9_mile_32 : decode cX9_mile 32 = .ok (.iload_n 1, 1) := by decide +kernel
theorem dX9_mile_33 : decode cX9_mile 33 = .ok (.iload_n 2, 1) := by decide +kernel
theorem dX9_mile_34 : decode cX9_mile 34 = .ok (.invokevirtual 164, 3) := by decide +kernel
theorem dX9_mile_37 : decode cX9_mile 37 = .ok (.goto 21, 3) := by decide +kernel
theorem dX9_mile_40 : decode cX9_mile 40 = .ok (.iload_n 2, 1) := by decide +kernel
theorem dX9_mile_41 : decode cX9_mile 41 = .ok (.iconst 3, 1) := by decide +kernel
theorem dX9_mile_42 : decode cX9_mile 42 = .ok (.if_icmp .ne 11, 3) := by decide +kernel
theorem dX9_mile_45 : decode cX9_mile 45 = .ok (.aload_n 0, 1) := by decide +kernel
theorem dX9_mile_46 : decode cX9_mile 46 = .ok (.iload_n 1, 1) := by decide +kernel
theorem dX9_mile_47 : decode cX9_mile 47 = .ok (.invokevirtual 167, 3) := by decide +kernel
theorem dX9_mile_50 : decode cX9_mile 50 = .ok (.goto 8, 3) := by decide +kernel
theorem dX9_mile_53 : decode cX9_mile 53 = .ok (.aload_n 0, 1) := by decide +kernel
theorem dX9_mile_54 : decode cX9_mile 54 = .ok (.iload_n 1, 1) := by decide +kernel
theorem dX9_mile_55 : decode cX9_mile 55 = .ok (.invokevirtual 176, 3) := by decide +kernel
theorem dX9_mile_58 : decode cX9_mile 58 = .ok (.ireturn, 1) := by decide +kernel
set_option maxRecDepth 20000 in
theorem ggX9_party_X9_isParty : GoodIn wsX9_party wsX9_isParty := goodIn_r _ [7, 8, 9, 10, 6, 11, 12, 13, 14, 15, 16, 17, 18, 19, 20, 21, 22, 23, 24, 25, 26, 27, 28, 29, 30, 31, 32, 33, 34, 35, 36, 37, 38, 39, 40, 41, 42, 43, 44, 45, 46, 47, 48] (by decide +kernel) (by decide +kernel)
set_option maxRecDepth 20000 in
theorem gX9_party_X9_isParty : GoodIn wsX9_party (wsV RX9 215 RX9 yX9_isParty wsX9_isParty) := goodIn_app (goodIn_of _ (by decide +kernel)) ggX9_party_X9_isParty
set_option maxRecDepth 20000 in
theorem ggX9_party_X9_in : GoodIn wsX9_party wsX9_in := goodIn_r _ [11] (by decide +kernel) (by decide +kernel)
set_option maxRecDepth 20000 in
theorem gX9_party_X9_in : GoodIn wsX9_party (va_wsS RX9 89 yX9_in wsX9_in) := goodIn_app (goodIn_of _ (by decide +kernel)) ggX9_party_X9_in
theorem dX9_party_0 : decode cX9_party 0 = .ok (.aload_n 0, 1) := by decide +kernel
theorem dX9_party_1 : decode cX9_party 1 = .ok (.iload_n 1, 1) := by decide +kernel
theorem dX9_party_2 : decode cX9_party 2 = .ok (.invokevirtual 215, 3) := by decide +kernel
theorem dX9_party_5 : decode cX9_party 5 = .ok (.ifCond .eq 31, 3) := by decide +kernel
theorem dX9_party_8 : decode cX9_party 8 = .ok (.iload_n 2, 1) := by decide +kernel
theorem dX9_party_9 : decode cX9_party 9 = .ok (.i2l, 1) := by decide +kernel
theorem dX9_party_10 : decode cX9_party 10 = .ok (.lconst 0, 1) := by decide +kernel
theorem dX9_party_11 : decode cX9_party 11 = .ok (.ldc2_w 213, 3) := by decide +kernel
theorem dX9_party_14 : decode cX9_party 14 = .ok (.invokestatic 89, 3) := by decide +kernel
theorem dX9_party_17 : decode cX9_party 17 = .ok (.ifCond .eq 19, 3) := by decide +kernel
theorem dX9_party_20 : decode cX9_party 20 = .ok (.aload_n 0, 1) := by decide +kernel
theorem dX9_party_21 : decode cX9_party 21 = .ok (.getfield 7, 3) := by decide +kernel
theorem dX9_party_24 : decode cX9_party 24 = .ok (.bipush 24, 2) := by decide +kernel
theorem dX9_party_26 : decode cX9_party 26 = .ok (.iconst 5, 1) := by decide +kernel
theorem dX9_party_27 : decode cX9_party 27 = .ok (.iload_n 1, 1) := by decide +kernel
theorem dX9_party_28 : decode cX9_party 28 = .ok (.imul, 1) := by decide +kernel
theorem dX9_party_29 : decode cX9_party 29 = .ok (.iadd, 1) := by decide +kernel
theorem dX9_party_30 : decode cX9_party 30 = .ok (.iload_n 2, 1) := by decide +kernel
theorem dX9_party_31 : decode cX9_party 31 = .ok (.iadd, 1) := by decide +kernel
theorem dX9_party_32 : decode cX9_party 32 = .ok (.iaload, 1) := by decide +kernel
theorem dX9_party_33 : decode cX9_party 33 = .ok (.goto 4, 3) := by decide +kernel
theorem dX9_party_36 : decode cX9_party 36 = .ok (.iconst (-1), 1) := by decide +kernel
theorem dX9_party_37 : decode cX9_party 37 = .ok (.ireturn, 1) := by decide +kernel
set_option maxRecDepth 20000 in
theorem ggX9_strain_X9_isParty : GoodIn wsX9_strain wsX9_isParty := goodIn_r _ [5, 6, 7, 8, 4, 9, 37, 38, 39, 40, 41, 42, 43, 44, 45, 46, 47, 48, 49, 50, 51, 52, 53, 54, 55, 56, 57, 58, 59, 60, 61, 62, 63, 64, 65, 66, 67, 68, 69, 70, 71, 72, 73] (by decide +kernel) (by decide +kernel)
set_option maxRecDepth 20000 in
theorem gX9_strain_X9_isParty : GoodIn wsX9_strain (wsV RX9 215 RX9 yX9_isParty wsX9_isParty) := goodIn_app (goodIn_of _ (by decide +kernel)) ggX9_strain_X9_isParty
set_option maxRecDepth 20000 in
theorem ggX9_strain_X9_isMile : GoodIn wsX9_strain wsX9_isMile := goodIn_r _ [13, 14, 7, 8, 4, 9, 37, 38, 39, 40, 41, 42, 43, 44, 45, 46, 47, 48, 49, 50, 51, 52, 53, 54, 55, 56, 57, 58, 59, 60, 61, 62, 63, 64, 65, 66, 67, 68, 69, 70, 71, 72, 73] (by decide +kernel) (by decide +kernel)
set_option maxRecDepth 20000 in
theorem gX9_strain_X9_isMile : GoodIn wsX9_strain (wsV RX9 209 RX9 yX9_isMile wsX9_isMile) := goodIn_app (goodIn_of _ (by decide +kernel)) ggX9_strain_X9_isMile
set_option maxRecDepth 20000 in
theorem ggX9_strain_X9_starts : GoodIn wsX9_strain wsX9_starts := goodIn_r _ [18, 19, 20, 37, 38, 39, 40, 41, 42, 43, 44, 45, 46, 47, 48, 49, 50, 51, 52, 53, 54, 55, 56, 57, 58, 59, 60, 61, 62, 63, 64, 65, 66, 67, 68, 69, 70, 71, 72, 73] (by decide +kernel) (by decide +kernel)
set_option maxRecDepth 20000 in
theorem gX9_strain_X9_starts : GoodIn wsX9_strain (wsV RX9 206 RX9 yX9_starts wsX9_starts) := goodIn_app (goodIn_of _ (by decide +kernel)) ggX9_strain_X9_starts
set_option maxRecDepth 20000 in
theorem ggX9_strain_X9_strainOf : GoodIn wsX9_strain wsX9_strainOf := goodIn_r _ [24, 25, 26, 27, 4, 28, 29, 30, 31, 32, 19, 33, 34, 35, 36, 37, 38, 39, 40, 41, 42, 43, 44, 45, 46, 47, 48, 49, 50, 51, 52, 53, 54, 55, 56, 57, 58, 59, 60, 61, 62, 63, 64, 65, 66, 67, 68, 69, 70, 71, 72, 73] (by decide +kernel) (by decide +kernel)
set_option maxRecDepth 20000 in
theorem gX9_strain_X9_strainOf : GoodIn wsX9_strain (wsV RX9 173 RX9 yX9_strainOf wsX9_strainOf) := goodIn_app (goodIn_of _ (by decide +kernel)) ggX9_strain_X9_strainOf
theorem dX9_strain_0 : decode cX9_strain 0 = .ok (.aload_n 0, 1) := by decide +kernel
theorem dX9_strain_1 : decode cX9_strain 1 = .ok (.iload_n 1, 1) := by decide +kernel
theorem dX9_strain_2 : decode cX9_strain 2 = .ok (.invokevirtual 215, 3) := by decide +kernel
theorem dX9_strain_5 : decode cX9_strain 5 = .ok (.ifCond .eq 11, 3) := by decide +kernel
theorem dX9_strain_8 : decode cX9_strain 8 = .ok (.aload_n 0, 1) := by decide +kernel
theorem dX9_strain_9 : decode cX9_strain 9 = .ok (.iload_n 2, 1) := by decide +kernel
theorem dX9_strain_10 : decode cX9_strain 10 = .ok (.invokevirtual 209, 3) := by decide +kernel
theorem dX9_strain_13 : decode cX9_strain 13 = .ok (.ifCond .ne 5, 3) := by decide +kernel
theorem dX9_strain_16 : decode cX9_strain 16 = .ok (.iconst (-1), 1) := by decide +kernel
theorem dX9_strain_17 : decode cX9_strain 17 = .ok (.ireturn, 1) := by decide +kernel
theorem dX9_strain_18 : decode cX9_strain 18 = .ok (.aload_n 0, 1) := by decide +kernel
theorem dX9_strain_19 : decode cX9_strain 19 = .ok (.invokevirtual 206, 3) := by decide +kernel
theorem dX9_strain_22 : decode cX9_strain 22 = .ok (.aload_n 0, 1) := by decide +kernel
theorem dX9_strain_23 : decode cX9_strain 23 = .ok (.iload_n 1, 1) := by decide +kernel
theorem dX9_strain_24 : decode cX9_strain 24 = .ok (.iload_n 2, 1) := by decide +kernel
theorem dX9_strain_25 : decode cX9_strain 25 = .ok (.invokevirtual 173, 3) := by decide +kernel
theorem dX9_strain_28 : decode cX9_strain 28 = .ok (.ireturn, 1) := by decide +kernel
theorem dX9_becomes_0 : decode cX9_becomes 0 = .ok (.aload_n 0, 1) := by decide +kernel
theorem dX9_becomes_1 : decode cX9_becomes 1 = .ok (.getfield 7, 3) := by decide +kernel
theorem dX9_becomes_4 : decode cX9_becomes 4 = .ok (.iload_n 1, 1) := by decide +kernel
theorem dX9_becomes_5 : decode cX9_becomes 5 = .ok (.iaload, 1) := by decide +kernel
theorem dX9_becomes_6 : decode cX9_becomes 6 = .ok (.istore_n 3, 1) := by decide +kernel
theorem dX9_becomes_7 : decode cX9_becomes 7 = .ok (.aload_n 0, 1) := by decide +kernel
theorem dX9_becomes_8 : decode cX9_becomes 8 = .ok (.getfield 7, 3) := by decide +kernel
theorem dX9_becomes_11 : decode cX9_becomes 11 = .ok (.iload_n 1, 1) := by decide +kernel
theorem dX9_becomes_12 : decode cX9_becomes 12 = .ok (.iload_n 2, 1) := by decide +kernel
theorem dX9_becomes_13 : decode cX9_becomes 13 = .ok (.iastore, 1) := by decide +kernel
theorem dX9_becomes_14 : decode cX9_becomes 14 = .ok (.iload_n 3, 1) := by decide +kernel
theorem dX9_becomes_15 : decode cX9_becomes 15 = .ok (.ireturn, 1) := by decide +kernel
set_option maxRecDepth 20000 in
theorem ggX9_pave_X9_in : GoodIn wsX9_pave wsX9_in := goodIn_r _ [5] (by decide +kernel) (by decide +kernel)
set_option maxRecDepth 20000 in
theorem gX9_pave_X9_in : GoodIn wsX9_pave (va_wsS RX9 89 yX9_in wsX9_in) := goodIn_app (goodIn_of _ (by decide +kernel)) ggX9_pave_X9_in
set_option maxRecDepth 20000 in
theorem ggX9_pave_X9_isPart : GoodIn wsX9_pave wsX9_isPart := goodIn_r _ [8, 2, 3, 4, 5] (by decide +kernel) (by decide +kernel)
set_option maxRecDepth 20000 in
theorem gX9_pave_X9_isPart : GoodIn wsX9_pave (va_wsS RX9 220 yX9_isPart wsX9_isPart) := goodIn_app (goodIn_of _ (by decide +kernel)) ggX9_pave_X9_isPart
set_option maxRecDepth 20000 in
theorem ggX9_pave_X9_isMile : GoodIn wsX9_pave wsX9_isMile := goodIn_r _ [12, 13, 2, 3, 4, 5, 19, 20, 21, 22, 23, 24, 25, 26, 27, 28, 29, 30, 31, 32, 33, 34, 35, 36, 37, 38, 39, 40, 41, 42, 43, 44, 45, 46, 47, 48, 49, 50, 51, 52, 53, 54, 55] (by decide +kernel) (by decide +kernel)
set_option maxRecDepth 20000 in
theorem gX9_pave_X9_isMile : GoodIn wsX9_pave (wsV RX9 209 RX9 yX9_isMile wsX9_isMile) := goodIn_app (goodIn_of _ (by decide +kernel)) ggX9_pave_X9_isMile
set_option maxRecDepth 20000 in
theorem ggX9_pave_X9_becomes : GoodIn wsX9_pave wsX9_becomes := goodIn_r _ [17, 18, 19, 20, 21, 22, 23, 24, 25, 26, 27, 28, 29, 30, 31, 32, 33, 34, 35, 36, 37, 38, 39, 40, 41, 42, 43, 44, 45, 46, 47, 48, 49, 50, 51, 52, 53, 54, 55] (by decide +kernel) (by decide +kernel)
set_option maxRecDepth 20000 in
theorem gX9_pave_X9_becomes : GoodIn wsX9_pave (wsV RX9 223 RX9 yX9_becomes wsX9_becomes) := goodIn_app (goodIn_of _ (by decide +kernel)) ggX9_pave_X9_becomes
theorem dX9_pave_0 : decode cX9_pave 0 = .ok (.iload_n 2, 1) := by decide +kernel
theorem dX9_pave_1 : decode cX9_pave 1 = .ok (.ifCond .ne 15, 3) := by decide +kernel
theorem dX9_pave_4 : decode cX9_pave 4 = .ok (.iload_n 3, 1) := by decide +kernel
theorem dX9_pave_5 : decode cX9_pave 5 = .ok (.i2l, 1) := by decide +kernel
theorem dX9_pave_6 : decode cX9_pave 6 = .ok (.lconst 0, 1) := by decide +kernel
theorem dX9_pave_7 : decode cX9_pave 7 = .ok (.ldc2_w 218, 3) := by decide +kernel
theorem dX9_pave_10 : decode cX9_pave 10 = .ok (.invokestatic 89, 3) := by decide +kernel
theorem dX9_pave_13 : decode cX9_pave 13 = .ok (.goto 37, 3) := by decide +kernel
theorem dX9_pave_16 : decode cX9_pave 16 = .ok (.iload_n 2, 1) := by decide +kernel
theorem dX9_pave_17 : decode cX9_pave 17 = .ok (.iconst 1, 1) := by decide +kernel
theorem dX9_pave_18 : decode cX9_pave 18 = .ok (.if_icmp .ne 15, 3) := by decide +kernel
theorem dX9_pave_21 : decode cX9_pave 21 = .ok (.iload_n 3, 1) := by decide +kernel
theorem dX9_pave_22 : decode cX9_pave 22 = .ok (.i2l, 1) := by decide +kernel
theorem dX9_pave_23 : decode cX9_pave 23 = .ok (.lconst 0, 1) := by decide +kernel
theorem dX9_pave_24 : decode cX9_pave 24 = .ok (.ldc2_w 218, 3) := by decide +kernel
theorem dX9_pave_27 : decode cX9_pave 27 = .ok (.invokestatic 89, 3) := by decide +kernel
theorem dX9_pave_30 : decode cX9_pave 30 = .ok (.goto 20, 3) := by decide +kernel
theorem dX9_pave_33 : decode cX9_pave 33 = .ok (.iload_n 2, 1) := by decide +kernel
theorem dX9_pave_34 : decode cX9_pave 34 = .ok (.iconst 2, 1) := by decide +kernel
theorem dX9_pave_35 : decode cX9_pave 35 = .ok (.if_icmp .ne 14, 3) := by decide +kernel
theorem dX9_pave_38 : decode cX9_pave 38 = .ok (.iload_n 3, 1) := by decide +kernel
theorem dX9_pave_39 : decode cX9_pave 39 = .ok (.invokestatic 220, 3) := by decide +kernel
theorem dX9_pave_42 : decode cX9_pave 42 = .ok (.ifCond .eq 7, 3) := by decide +kernel
theorem dX9_pave_45 : decode cX9_pave 45 = .ok (.iconst 1, 1) := by decide +kernel
theorem dX9_pave_46 : decode cX9_pave 46 = .ok (.goto 4, 3) := by decide +kernel
theorem dX9_pave_49 : decode cX9_pave 49 = .ok (.iconst 0, 1) := by decide +kernel
theorem dX9_pave_50 : decode cX9_pave 50 = .ok (.istore 4, 2) := by decide +kernel
theorem dX9_pave_52 : decode cX9_pave 52 = .ok (.aload_n 0, 1) := by decide +kernel
theorem dX9_pave_53 : decode cX9_pave 53 = .ok (.iload_n 1, 1) := by decide +kernel
theorem dX9_pave_54 : decode cX9_pave 54 = .ok (.invokevirtual 209, 3) := by decide +kernel
theorem dX9_pave_57 : decode cX9_pave 57 = .ok (.ifCond .eq 21, 3) := by decide +kernel
theorem dX9_pave_60 : decode cX9_pave 60 = .ok (.iload 4, 2) := by decide +kernel
theorem dX9_pave_62 : decode cX9_pave 62 = .ok (.ifCond .eq 16, 3) := by decide +kernel
theorem dX9_pave_65 : decode cX9_pave 65 = .ok (.aload_n 0, 1) := by decide +kernel
theorem dX9_pave_66 : decode cX9_pave 66 = .ok (.iconst 3, 1) := by decide +kernel
theorem dX9_pave_67 : decode cX9_pave 67 = .ok (.iload_n 1, 1) := by decide +kernel
theorem dX9_pave_68 : decode cX9_pave 68 = .ok (.imul, 1) := by decide +kernel
theorem dX9_pave_69 : decode cX9_pave 69 = .ok (.iload_n 2, 1) := by decide +kernel
theorem dX9_pave_70 : decode cX9_pave 70 = .ok (.iadd, 1) := by decide +kernel
theorem dX9_pave_71 : decode cX9_pave 71 = .ok (.iload_n 3, 1) := by decide +kernel
theorem dX9_pave_72 : decode cX9_pave 72 = .ok (.invokevirtual 223, 3) := by decide +kernel
theorem dX9_pave_75 : decode cX9_pave 75 = .ok (.goto 4, 3) := by decide +kernel
theorem dX9_pave_78 : decode cX9_pave 78 = .ok (.iconst (-1), 1) := by decide +kernel
theorem dX9_pave_79 : decode cX9_pave 79 = .ok (.ireturn, 1) := by decide +kernel
set_option maxRecDepth 20000 in
theorem ggX9_alter_X9_in : GoodIn wsX9_alter wsX9_in := goodIn_r _ [7] (by decide +kernel) (by decide +kernel)
set_option maxRecDepth 20000 in
theorem gX9_alter_X9_in : GoodIn wsX9_alter (va_wsS RX9 89 yX9_in wsX9_in) := goodIn_app (goodIn_of _ (by decide +kernel)) ggX9_alter_X9_in
set_option maxRecDepth 20000 in
theorem ggX9_alter_X9_isParty : GoodIn wsX9_alter wsX9_isParty := goodIn_r _ [11, 12, 4, 5, 6, 7, 18, 19, 20, 21, 22, 23, 24, 25, 26, 27, 28, 29, 30, 31, 32, 33, 34, 35, 36, 37, 38, 39, 40, 41, 42, 43, 44, 45, 46, 47, 48, 49, 50, 51, 52, 53, 54] (by decide +kernel) (by decide +kernel)
set_option maxRecDepth 20000 in
theorem gX9_alter_X9_isParty : GoodIn wsX9_alter (wsV RX9 215 RX9 yX9_isParty wsX9_isParty) := goodIn_app (goodIn_of _ (by decide +kernel)) ggX9_alter_X9_isParty
set_option maxRecDepth 20000 in
theorem ggX9_alter_X9_becomes : GoodIn wsX9_alter wsX9_becomes := goodIn_r _ [16, 17, 18, 19, 20, 21, 22, 23, 24, 25, 26, 27, 28, 29, 30, 31, 32, 33, 34, 35, 36, 37, 38, 39, 40, 41, 42, 43, 44, 45, 46, 47, 48, 49, 50, 51, 52, 53, 54] (by decide +kernel) (by decide +kernel)
set_option maxRecDepth 20000 in
theorem gX9_alter_X9_becomes : GoodIn wsX9_alter (wsV RX9 223 RX9 yX9_becomes wsX9_becomes) := goodIn_app (goodIn_of _ (by decide +kernel)) ggX9_alter_X9_becomes
theorem dX9_alter_0 : decode cX9_alter 0 = .ok (.iload_n 2, 1) := by decide +kernel
theorem dX9_alter_1 : decode cX9_alter 1 = .ok (.ifCond .ne 15, 3) := by decide +kernel
theorem dX9_alter_4 : decode cX9_alter 4 = .ok (.iload_n 3, 1) := by decide +kernel
theorem dX9_alter_5 : decode cX9_alter 5 = .ok (.i2l, 1) := by decide +kernel
theorem dX9_alter_6 : decode cX9_alter 6 = .ok (.lconst 0, 1) := by decide +kernel
theorem dX9_alter_7 : decode cX9_alter 7 = .ok (.ldc2_w 218, 3) := by decide +kernel
theorem dX9_alter_10 : decode cX9_alter 10 = .ok (.invokestatic 89, 3) := by decide +kernel
theorem dX9_alter_13 : decode cX9_alter 13 = .ok (.goto 59, 3) := by decide +kernel
theorem dX9_alter_16 : decode cX9_alter 16 = .ok (.iload_n 2, 1) := by decide +kernel
theorem dX9_alter_17 : decode cX9_alter 17 = .ok (.iconst 1, 1) := by decide +kernel
theorem dX9_alter_18 : decode cX9_alter 18 = .ok (.if_icmp .ne 15, 3) := by decide +kernel
theorem dX9_alter_21 : decode cX9_alter 21 = .ok (.iload_n 3, 1) := by decide +kernel
theorem dX9_alter_22 : decode cX9_alter 22 = .ok (.i2l, 1) := by decide +kernel
theorem dX9_alter_23 : decode cX9_alter 23 = .ok (.lconst 0, 1) := by decide +kernel
theorem dX9_alter_24 : decode cX9_alter 24 = .ok (.ldc2_w 226, 3) := by decide +kernel
theorem dX9_alter_27 : decode cX9_alter 27 = .ok (.invokestatic 89, 3) := by decide +kernel
theorem dX9_alter_30 : decode cX9_alter 30 = .ok (.goto 42, 3) := by decide +kernel
theorem dX9_alter_33 : decode cX9_alter 33 = .ok (.iload_n 2, 1) := by decide +kernel
theorem dX9_alter_34 : decode cX9_alter 34 = .ok (.iconst 2, 1) := by decide +kernel
theorem dX9_alter_35 : decode cX9_alter 35 = .ok (.if_icmp .ne 15, 3) := by decide +kernel
theorem dX9_alter_38 : decode cX9_alter 38 = .ok (.iload_n 3, 1) := by decide +kernel
theorem dX9_alter_39 : decode cX9_alter 39 = .ok (.i2l, 1) := by decide +kernel
theorem dX9_alter_40 : decode cX9_alter 40 = .ok (.lconst 1, 1) := by decide +kernel
theorem dX9_alter_41 : decode cX9_alter 41 = .ok (.ldc2_w 228, 3) := by decide +kernel
theorem dX9_alter_44 : decode cX9_alter 44 = .ok (.invokestatic 89, 3) := by decide +kernel
theorem dX9_alter_47 : decode cX9_alter 47 = .ok (.goto 25, 3) := by decide +kernel
theorem dX9_alter_50 : decode cX9_alter 50 = .ok (.iload_n 2, 1) := by decide +kernel
theorem dX9_alter_51 : decode cX9_alter 51 = .ok (.iconst 3, 1) := by decide +kernel
theorem dX9_alter_52 : decode cX9_alter 52 = .ok (.if_icmp .ne 19, 3) := by decide +kernel
theorem dX9_alter_55 : decode cX9_alter 55 = .ok (.iload_n 3, 1) := by decide +kernel
theorem dX9_alter_56 : decode cX9_alter 56 = .ok (.i2l, 1) := by decide +kernel
theorem dX9_alter_57 : decode cX9_alter 57 = .ok (.lconst 0, 1) := by decide +kernel
theorem dX9_alter_58 : decode cX9_alter 58 = .ok (.ldc2_w 218, 3) := by decide +kernel
theorem dX9_alter_61 : decode cX9_alter 61 = .ok (.invokestatic 89, 3) := by decide +kernel
theorem dX9_alter_64 : decode cX9_alter 64 = .ok (.ifCond .eq 7, 3) := by decide +kernel
theorem dX9_alter_67 : decode cX9_alter 67 = .ok (.iconst 1, 1) := by decide +kernel
theorem dX9_alter_68 : decode cX9_alter 68 = .ok (.goto 4, 3) := by decide +kernel
theorem dX9_alter_71 : decode cX9_alter 71 = .ok (.iconst 0, 1) := by decide +kernel
theorem dX9_alter_72 : decode cX9_alter 72 = .ok (.istore 4, 2) := by decide +kernel
theorem dX9_alter_74 : decode cX9_alter 74 = .ok (.aload_n 0, 1) := by decide +kernel
theorem dX9_alter_75 : decode cX9_alter 75 = .ok (.iload_n 1, 1) := by decide +kernel
theorem dX9_alter_76 : decode cX9_alter 76 = .ok (.invokevirtual 215, 3) := by decide +kernel
theorem dX9_alter_79 : decode cX9_alter 79 = .ok (.ifCond .eq 24, 3) := by decide +kernel
theorem dX9_alter_82 : decode cX9_alter 82 = .ok (.iload 4, 2) := by decide +kernel
theorem dX9_alter_84 : decode cX9_alter 84 = .ok (.ifCond .eq 19, 3) := by decide +kernel
theorem dX9_alter_87 : decode cX9_alter 87 = .ok (.aload_n 0, 1) := by decide +kernel
theorem dX9_alter_88 : decode cX9_alter 88 = .ok (.bipush 24, 2) := by decide +kernel
theorem dX9_alter_90 : decode cX9_alter 90 = .ok (.iconst 5, 1) := by decide +kernel
theorem dX9_alter_91 : decode cX9_alter 91 = .ok (.iload_n 1, 1) := by decide +kernel
theorem dX9_alter_92 : decode cX9_alter 92 = .ok (.imul, 1) := by decide +kernel
theorem dX9_alter_93 : decode cX9_alter 93 = .ok (.iadd, 1) := by decide +kernel
theorem dX9_alter_94 : decode cX9_alter 94 = .ok (.iload_n 2, 1) := by decide +kernel
theorem dX9_alter_95 : decode cX9_alter 95 = .ok (.iadd, 1) := by decide +kernel
theorem dX9_alter_96 : decode cX9_alter 96 = .ok (.iload_n 3, 1) := by decide +kernel
theorem dX9_alter_97 : decode cX9_alter 97 = .ok (.invokevirtual 223, 3) := by decide +kernel
theorem dX9_alter_100 : decode cX9_alter 100 = .ok (.goto 4, 3) := by decide +kernel
theorem dX9_alter_103 : decode cX9_alter 103 = .ok (.iconst (-1), 1) := by decide +kernel
theorem dX9_alter_104 : decode cX9_alter 104 = .ok (.ireturn, 1) := by decide +kernel
set_option maxRecDepth 20000 in
theorem ggX9_stand_X9_isParty : GoodIn wsX9_stand wsX9_isParty := goodIn_r _ [5, 6, 7, 8, 4, 9, 20, 21, 22, 23, 24, 25, 26, 27, 28, 29, 30, 31, 32, 33, 34, 35, 36, 37, 38, 39, 40, 41, 42, 43, 44, 45, 46, 47, 48, 49, 50, 51, 52, 53, 54, 55, 56] (by decide +kernel) (by decide +kernel)
set_option maxRecDepth 20000 in
theorem gX9_stand_X9_isParty : GoodIn wsX9_stand (wsV RX9 215 RX9 yX9_isParty wsX9_isParty) := goodIn_app (goodIn_of _ (by decide +kernel)) ggX9_stand_X9_isParty
set_option maxRecDepth 20000 in
theorem ggX9_stand_X9_isMile : GoodIn wsX9_stand wsX9_isMile := goodIn_r _ [13, 14, 7, 8, 4, 9, 20, 21, 22, 23, 24, 25, 26, 27, 28, 29, 30, 31, 32, 33, 34, 35, 36, 37, 38, 39, 40, 41, 42, 43, 44, 45, 46, 47, 48, 49, 50, 51, 52, 53, 54, 55, 56] (by decide +kernel) (by decide +kernel)
set_option maxRecDepth 20000 in
theorem gX9_stand_X9_isMile : GoodIn wsX9_stand (wsV RX9 209 RX9 yX9_isMile wsX9_isMile) := goodIn_app (goodIn_of _ (by decide +kernel)) ggX9_stand_X9_isMile
set_option maxRecDepth 20000 in
theorem ggX9_stand_X9_becomes : GoodIn wsX9_stand wsX9_becomes := goodIn_r _ [18, 19, 20, 21, 22, 23, 24, 25, 26, 27, 28, 29, 30, 31, 32, 33, 34, 35, 36, 37, 38, 39, 40, 41, 42, 43, 44, 45, 46, 47, 48, 49, 50, 51, 52, 53, 54, 55, 56] (by decide +kernel) (by decide +kernel)
set_option maxRecDepth 20000 in
theorem gX9_stand_X9_becomes : GoodIn wsX9_stand (wsV RX9 223 RX9 yX9_becomes wsX9_becomes) := goodIn_app (goodIn_of _ (by decide +kernel)) ggX9_stand_X9_becomes
theorem dX9_stand_0 : decode cX9_stand 0 = .ok (.aload_n 0, 1) := by decide +kernel
theorem dX9_stand_1 : decode cX9_stand 1 = .ok (.iload_n 1, 1) := by decide +kernel
theorem dX9_stand_2 : decode cX9_stand 2 = .ok (.invokevirtual 215, 3) := by decide +kernel
theorem dX9_stand_5 : decode cX9_stand 5 = .ok (.ifCond .eq 27, 3) := by decide +kernel
theorem dX9_stand_8 : decode cX9_stand 8 = .ok (.aload_n 0, 1) := by decide +kernel
theorem dX9_stand_9 : decode cX9_stand 9 = .ok (.iload_n 2, 1) := by decide +kernel
theorem dX9_stand_10 : decode cX9_stand 10 = .ok (.invokevirtual 209, 3) := by decide +kernel
theorem dX9_stand_13 : decode cX9_stand 13 = .ok (.ifCond .eq 19, 3) := by decide +kernel
theorem dX9_stand_16 : decode cX9_stand 16 = .ok (.aload_n 0, 1) := by decide +kernel
theorem dX9_stand_17 : decode cX9_stand 17 = .ok (.bipush 24, 2) := by decide +kernel
theorem dX9_stand_19 : decode cX9_stand 19 = .ok (.iconst 5, 1) := by decide +kernel
theorem dX9_stand_20 : decode cX9_stand 20 = .ok (.iload_n 1, 1) := by decide +kernel
theorem dX9_stand_21 : decode cX9_stand 21 = .ok (.imul, 1) := by decide +kernel
theorem dX9_stand_22 : decode cX9_stand 22 = .ok (.iadd, 1) := by decide +kernel
theorem dX9_stand_23 : decode cX9_stand 23 = .ok (.iconst 4, 1) := by decide +kernel
theorem dX9_stand_24 : decode cX9_stand 24 = .ok (.iadd, 1) := by decide +kernel
theorem dX9_stand_25 : decode cX9_stand 25 = .ok (.iload_n 2, 1) := by decide +kernel
theorem dX9_stand_26 : decode cX9_stand 26 = .ok (.invokevirtual 223, 3) := by decide +kernel
theorem dX9_stand_29 : decode cX9_stand 29 = .ok (.goto 4, 3) := by decide +kernel
theorem dX9_stand_32 : decode cX9_stand 32 = .ok (.iconst (-1), 1) := by decide +kernel
theorem dX9_stand_33 : decode cX9_stand 33 = .ok (.ireturn, 1) := by decide +kernel
set_option maxRecDepth 20000 in
theorem ggX9_set_X9_in : GoodIn wsX9_set wsX9_in := goodIn_r _ [6] (by decide +kernel) (by decide +kernel)
set_option maxRecDepth 20000 in
theorem gX9_set_X9_in : GoodIn wsX9_set (va_wsS RX9 89 yX9_in wsX9_in) := goodIn_app (goodIn_of _ (by decide +kernel)) ggX9_set_X9_in
set_option maxRecDepth 20000 in
theorem ggX9_set_X9_becomes : GoodIn wsX9_set wsX9_becomes := goodIn_r _ [10, 11, 12, 13, 14, 15, 16, 17, 18, 19, 20, 21, 22, 23, 24, 25, 26, 27, 28, 29, 30, 31, 32, 33, 34, 35, 36, 37, 38, 39, 40, 41, 42, 43, 44, 45, 46, 47, 48] (by decide +kernel) (by decide +kernel)
set_option maxRecDepth 20000 in
theorem gX9_set_X9_becomes : GoodIn wsX9_set (wsV RX9 223 RX9 yX9_becomes wsX9_becomes) := goodIn_app (goodIn_of _ (by decide +kernel)) ggX9_set_X9_becomes
theorem dX9_set_0 : decode cX9_set 0 = .ok (.iload_n 1, 1) := by decide +kernel
theorem dX9_set_1 : decode cX9_set 1 = .ok (.iconst 2, 1) := by decide +kernel
theorem dX9_set_2 : decode cX9_set 2 = .ok (.if_icmp .ne 15, 3) := by decide +kernel
theorem dX9_set_5 : decode cX9_set 5 = .ok (.iload_n 2, 1) := by decide +kernel
theorem dX9_set_6 : decode cX9_set 6 = .ok (.i2l, 1) := by decide +kernel
theorem dX9_set_7 : decode cX9_set 7 = .ok (.lconst 1, 1) := by decide +kernel
theorem dX9_set_8 : decode cX9_set 8 = .ok (.ldc2_w 213, 3) := by decide +kernel
theorem dX9_set_11 : decode cX9_set 11 = .ok (.invokestatic 89, 3) := by decide +kernel
theorem dX9_set_14 : decode cX9_set 14 = .ok (.goto 25, 3) := by decide +kernel
theorem dX9_set_17 : decode cX9_set 17 = .ok (.iload_n 1, 1) := by decide +kernel
theorem dX9_set_18 : decode cX9_set 18 = .ok (.iconst 3, 1) := by decide +kernel
theorem dX9_set_19 : decode cX9_set 19 = .ok (.if_icmp .ne 19, 3) := by decide +kernel
theorem dX9_set_22 : decode cX9_set 22 = .ok (.iload_n 2, 1) := by decide +kernel
theorem dX9_set_23 : decode cX9_set 23 = .ok (.i2l, 1) := by decide +kernel
theorem dX9_set_24 : decode cX9_set 24 = .ok (.lconst 0, 1) := by decide +kernel
theorem dX9_set_25 : decode cX9_set 25 = .ok (.ldc2_w 226, 3) := by decide +kernel
theorem dX9_set_28 : decode cX9_set 28 = .ok (.invokestatic 89, 3) := by decide +kernel
theorem dX9_set_31 : decode cX9_set 31 = .ok (.ifCond .eq 7, 3) := by decide +kernel
theorem dX9_set_34 : decode cX9_set 34 = .ok (.iconst 1, 1) := by decide +kernel
theorem dX9_set_35 : decode cX9_set 35 = .ok (.goto 4, 3) := by decide +kernel
theorem dX9_set_38 : decode cX9_set 38 = .ok (.iconst 0, 1) := by decide +kernel
theorem dX9_set_39 : decode cX9_set 39 = .ok (.istore_n 3, 1) := by decide +kernel
theorem dX9_set_40 : decode cX9_set 40 = .ok (.iload_n 3, 1) := by decide +kernel
theorem dX9_set_41 : decode cX9_set 41 = .ok (.ifCond .eq 17, 3) := by decide +kernel
theorem dX9_set_44 : decode cX9_set 44 = .ok (.aload_n 0, 1) := by decide +kernel
theorem dX9_set_45 : decode cX9_set 45 = .ok (.bipush 44, 2) := by decide +kernel
theorem dX9_set_47 : decode cX9_set 47 = .ok (.iload_n 1, 1) := by decide +kernel
theorem dX9_set_48 : decode cX9_set 48 = .ok (.iadd, 1) := by decide +kernel
theorem dX9_set_49 : decode cX9_set 49 = .ok (.iconst 2, 1) := by decide +kernel
theorem dX9_set_50 : decode cX9_set 50 = .ok (.isub, 1) := by decide +kernel
theorem dX9_set_51 : decode cX9_set 51 = .ok (.iload_n 2, 1) := by decide +kernel
theorem dX9_set_52 : decode cX9_set 52 = .ok (.invokevirtual 223, 3) := by decide +kernel
theorem dX9_set_55 : decode cX9_set 55 = .ok (.goto 4, 3) := by decide +kernel
theorem dX9_set_58 : decode cX9_set 58 = .ok (.iconst (-1), 1) := by decide +kernel
theorem dX9_set_59 : decode cX9_set 59 = .ok (.ireturn, 1) := by decide +kernel
set_option maxRecDepth 20000 in
theorem ggX9_turn_X9_in : GoodIn wsX9_turn wsX9_in := goodIn_r _ [6] (by decide +kernel) (by decide +kernel)
set_option maxRecDepth 20000 in
theorem gX9_turn_X9_in : GoodIn wsX9_turn (va_wsS RX9 89 yX9_in wsX9_in) := goodIn_app (goodIn_of _ (by decide +kernel)) ggX9_turn_X9_in
set_option maxRecDepth 20000 in
theorem ggX9_turn_X9_becomes : GoodIn wsX9_turn wsX9_becomes := goodIn_r _ [10, 2, 11, 12, 13, 14, 15, 16, 17, 18, 19, 20, 21, 22, 23, 24, 25, 26, 27, 28, 29, 30, 31, 32, 33, 34, 35, 36, 37, 38, 39, 40, 41, 42, 43, 44, 45, 46, 47] (by decide +kernel) (by decide +kernel)
set_option maxRecDepth 20000 in
theorem gX9_turn_X9_becomes : GoodIn wsX9_turn (wsV RX9 223 RX9 yX9_becomes wsX9_becomes) := goodIn_app (goodIn_of _ (by decide +kernel)) ggX9_turn_X9_becomes
theorem dX9_turn_0 : decode cX9_turn 0 = .ok (.iload_n 1, 1) := by decide +kernel
theorem dX9_turn_1 : decode cX9_turn 1 = .ok (.i2l, 1) := by decide +kernel
theorem dX9_turn_2 : decode cX9_turn 2 = .ok (.lconst 0, 1) := by decide +kernel
theorem dX9_turn_3 : decode cX9_turn 3 = .ok (.aload_n 0, 1) := by decide +kernel
theorem dX9_turn_4 : decode cX9_turn 4 = .ok (.getfield 81, 3) := by decide +kernel
theorem dX9_turn_7 : decode cX9_turn 7 = .ok (.iconst 2, 1) := by decide +kernel
theorem dX9_turn_8 : decode cX9_turn 8 = .ok (.isub, 1) := by decide +kernel
theorem dX9_turn_9 : decode cX9_turn 9 = .ok (.i2l, 1) := by decide +kernel
theorem dX9_turn_10 : decode cX9_turn 10 = .ok (.invokestatic 89, 3) := by decide +kernel
theorem dX9_turn_13 : decode cX9_turn 13 = .ok (.ifCond .ne 5, 3) := by decide +kernel
theorem dX9_turn_16 : decode cX9_turn 16 = .ok (.iconst (-1), 1) := by decide +kernel
theorem dX9_turn_17 : decode cX9_turn 17 = .ok (.ireturn, 1) := by decide +kernel
theorem dX9_turn_18 : decode cX9_turn 18 = .ok (.iconst 3, 1) := by decide +kernel
theorem dX9_turn_19 : decode cX9_turn 19 = .ok (.iload_n 1, 1) := by decide +kernel
theorem dX9_turn_20 : decode cX9_turn 20 = .ok (.imul, 1) := by decide +kernel
theorem dX9_turn_21 : decode cX9_turn 21 = .ok (.iconst 0, 1) := by decide +kernel
theorem dX9_turn_22 : decode cX9_turn 22 = .ok (.iadd, 1) := by decide +kernel
theorem dX9_turn_23 : decode cX9_turn 23 = .ok (.istore_n 2, 1) := by decide +kernel
theorem dX9_turn_24 : decode cX9_turn 24 = .ok (.aload_n 0, 1) := by decide +kernel
theorem dX9_turn_25 : decode cX9_turn 25 = .ok (.getfield 7, 3) := by decide +kernel
theorem dX9_turn_28 : decode cX9_turn 28 = .ok (.iload_n 2, 1) := by decide +kernel
theorem dX9_turn_29 : decode cX9_turn 29 = .ok (.iconst 3, 1) := by decide +kernel
theorem dX9_turn_30 : decode cX9_turn 30 = .ok (.iadd, 1) := by decide +kernel
theorem dX9_turn_31 : decode cX9_turn 31 = .ok (.aload_n 0, 1) := by decide +kernel
theorem dX9_turn_32 : decode cX9_turn 32 = .ok (.iload_n 2, 1) := by decide +kernel
theorem dX9_turn_33 : decode cX9_turn 33 = .ok (.aload_n 0, 1) := by decide +kernel
theorem dX9_turn_34 : decode cX9_turn 34 = .ok (.getfield 7, 3) := by decide +kernel
theorem dX9_turn_37 : decode cX9_turn 37 = .ok (.iload_n 2, 1) := by decide +kernel
theorem dX9_turn_38 : decode cX9_turn 38 = .ok (.iconst 3, 1) := by decide +kernel
theorem dX9_turn_39 : decode cX9_turn 39 = .ok (.iadd, 1) := by decide +kernel
theorem dX9_turn_40 : decode cX9_turn 40 = .ok (.iaload, 1) := by decide +kernel
theorem dX9_turn_41 : decode cX9_turn 41 = .ok (.invokevirtual 223, 3) := by decide +kernel
theorem dX9_turn_44 : decode cX9_turn 44 = .ok (.iastore, 1) := by decide +kernel
theorem dX9_turn_45 : decode cX9_turn 45 = .ok (.aload_n 0, 1) := by decide +kernel
theorem dX9_turn_46 : decode cX9_turn 46 = .ok (.getfield 7, 3) := by decide +kernel
theorem dX9_turn_49 : decode cX9_turn 49 = .ok (.iload_n 2, 1) := by decide +kernel
theorem dX9_turn_50 : decode cX9_turn 50 = .ok (.iaload, 1) := by decide +kernel
theorem dX9_turn_51 : decode cX9_turn 51 = .ok (.ireturn, 1) := by decide +kernel
set_option maxRecDepth 20000 in
theorem ggX9_fate_X9_isParty : GoodIn wsX9_fate wsX9_isParty := goodIn_r _ [10, 11, 12, 13, 9, 14, 61, 62, 63, 64, 65, 66, 67, 68, 69, 70, 71, 72, 73, 74, 75, 76, 77, 78, 79, 80, 81, 82, 83, 84, 85, 86, 87, 88, 89, 90, 91, 92, 93, 94, 95, 96, 97] (by decide +kernel) (by decide +kernel)
set_option maxRecDepth 20000 in
theorem gX9_fate_X9_isParty : GoodIn wsX9_fate (wsV RX9 215 RX9 yX9_isParty wsX9_isParty) := goodIn_app (goodIn_of _ (by decide +kernel)) ggX9_fate_X9_isParty
set_option maxRecDepth 20000 in
theorem ggX9_fate_X9_in : GoodIn wsX9_fate wsX9_in := goodIn_r _ [14] (by decide +kernel) (by decide +kernel)
set_option maxRecDepth 20000 in
theorem gX9_fate_X9_in : GoodIn wsX9_fate (va_wsS RX9 89 yX9_in wsX9_in) := goodIn_app (goodIn_of _ (by decide +kernel)) ggX9_fate_X9_in
set_option maxRecDepth 20000 in
theorem ggX9_fate_X9_starts : GoodIn wsX9_fate wsX9_starts := goodIn_r _ [18, 19, 20, 61, 62, 63, 64, 65, 66, 67, 68, 69, 70, 71, 72, 73, 74, 75, 76, 77, 78, 79, 80, 81, 82, 83, 84, 85, 86, 87, 88, 89, 90, 91, 92, 93, 94, 95, 96, 97] (by decide +kernel) (by decide +kernel)
set_option maxRecDepth 20000 in
theorem gX9_fate_X9_starts : GoodIn wsX9_fate (wsV RX9 206 RX9 yX9_starts wsX9_starts) := goodIn_app (goodIn_of _ (by decide +kernel)) ggX9_fate_X9_starts
set_option maxRecDepth 20000 in
theorem ggX9_fate_X9_drives : GoodIn wsX9_fate wsX9_drives := goodIn_r _ [24, 25, 2, 3, 4, 5, 26, 27, 28, 19, 29, 30, 31, 9, 32, 33, 34, 35, 36, 11, 37, 38, 39, 40, 41, 42, 43, 44, 45, 46, 47, 48, 49, 50, 51, 52, 53, 54, 55, 56, 57, 58, 59, 60, 61, 62, 63, 64, 65, 66, 67, 68, 69, 70, 71, 72, 73, 74, 75, 76, 77, 78, 79, 80, 81, 82, 83, 84, 85, 86, 87, 88, 89, 90, 91, 92, 93, 94, 95, 96, 97] (by decide +kernel) (by decide +kernel)
set_option maxRecDepth 20000 in
theorem gX9_fate_X9_drives : GoodIn wsX9_fate (wsV RX9 197 RX9 yX9_drives wsX9_drives) := goodIn_app (goodIn_of _ (by decide +kernel)) ggX9_fate_X9_drives
theorem dX9_fate_0 : decode cX9_fate 0 = .ok (.aload_n 0, 1) := by decide +kernel
theorem dX9_fate_1 : decode cX9_fate 1 = .ok (.iload_n 1, 1) := by decide +kernel
theorem dX9_fate_2 : decode cX9_fate 2 = .ok (.invokevirtual 215, 3) := by decide +kernel
theorem dX9_fate_5 : decode cX9_fate 5 = .ok (.ifCond .eq 15, 3) := by decide +kernel
theorem dX9_fate_8 : decode cX9_fate 8 = .ok (.iload_n 2, 1) := by decide +kernel
theorem dX9_fate_9 : decode cX9_fate 9 = .ok (.i2l, 1) := by decide +kernel
theorem dX9_fate_10 : decode cX9_fate 10 = .ok (.lconst 0, 1) := by decide +kernel
theorem dX9_fate_11 : decode cX9_fate 11 = .ok (.ldc2_w 218, 3) := by decide +kernel
theorem dX9_fate_14 : decode cX9_fate 14 = .ok (.invokestatic 89, 3) := by decide +kernel
theorem dX9_fate_17 : decode cX9_fate 17 = .ok (.ifCond .ne 5, 3) := by decide +kernel
theorem dX9_fate_20 : decode cX9_fate 20 = .ok (.iconst (-1), 1) := by decide +kernel
theorem dX9_fate_21 : decode cX9_fate 21 = .ok (.ireturn, 1) := by decide +kernel
theorem dX9_fate_22 : decode cX9_fate 22 = .ok (.aload_n 0, 1) := by decide +kernel
theorem dX9_fate_23 : decode cX9_fate 23 = .ok (.invokevirtual 206, 3) := by decide +kernel
theorem dX9_fate_26 : decode cX9_fate 26 = .ok (.aload_n 0, 1) := by decide +kernel
theorem dX9_fate_27 : decode cX9_fate 27 = .ok (.invokevirtual 197, 3) := by decide +kernel
theorem dX9_fate_30 : decode cX9_fate 30 = .ok (.iload_n 2, 1) := by decide +kernel
theorem dX9_fate_31 : decode cX9_fate 31 = .ok (.ifCond .ne 12, 3) := by decide +kernel
theorem dX9_fate_34 : decode cX9_fate 34 = .ok (.aload_n 0, 1) := by decide +kernel
theorem dX9_fate_35 : decode cX9_fate 35 = .ok (.getfield 26, 3) := by decide +kernel
theorem dX9_fate_38 : decode cX9_fate 38 = .ok (.iload_n 1, 1) := by decide +kernel
theorem dX9_fate_39 : decode cX9_fate 39 = .ok (.iaload, 1) := by decide +kernel
theorem dX9_fate_40 : decode cX9_fate 40 = .ok (.goto 37, 3) := by decide +kernel
theorem dX9_fate_43 : decode cX9_fate 43 = .ok (.iload_n 2, 1) := by decide +kernel
theorem dX9_fate_44 : decode cX9_fate 44 = .ok (.iconst 1, 1) := by decide +kernel
theorem dX9_fate_45 : decode cX9_fate 45 = .ok (.if_icmp .ne 12, 3) := by decide +kernel
theorem dX9_fate_48 : decode cX9_fate 48 = .ok (.aload_n 0, 1) := by decide +kernel
theorem dX9_fate_49 : decode cX9_fate 49 = .ok (.getfield 29, 3) := by decide +kernel
theorem dX9_fate_52 : decode cX9_fate 52 = .ok (.iload_n 1, 1) := by decide +kernel
theorem dX9_fate_53 : decode cX9_fate 53 = .ok (.iaload, 1) := by decide +kernel
theorem dX9_fate_54 : decode cX9_fate 54 = .ok (.goto 23, 3) := by decide +kernel
theorem dX9_fate_57 : decode cX9_fate 57 = .ok (.iload_n 2, 1) := by decide +kernel
theorem dX9_fate_58 : decode cX9_fate 58 = .ok (.iconst 2, 1) := by decide +kernel
theorem dX9_fate_59 : decode cX9_fate 59 = .ok (.if_icmp .ne 12, 3) := by decide +kernel
theorem dX9_fate_62 : decode cX9_fate 62 = .ok (.aload_n 0, 1) := by decide +kernel
theorem dX9_fate_63 : decode cX9_fate 63 = .ok (.getfield 32, 3) := by decide +kernel
theorem dX9_fate_66 : decode cX9_fate 66 = .ok (.iload_n 1, 1) := by decide +kernel
theorem dX9_fate_67 : decode cX9_fate 67 = .ok (.iaload, 1) := by decide +kernel
theorem dX9_fate_68 : decode cX9_fate 68 = .ok (.goto 9, 3) := by decide +kernel
theorem dX9_fate_71 : decode cX9_fate 71 = .ok (.aload_n 0, 1) := by decide +kernel
theorem dX9_fate_72 : decode cX9_fate 72 = .ok (.getfield 35, 3) := by decide +kernel
theorem dX9_fate_75 : decode cX9_fate 75 = .ok (.iload_n 1, 1) := by decide +kernel
theorem dX9_fate_76 : decode cX9_fate 76 = .ok (.iaload, 1) := by decide +kernel
theorem dX9_fate_77 : decode cX9_fate 77 = .ok (.ireturn, 1) := by decide +kernel
set_option maxRecDepth 20000 in
theorem ggX9_beside_X9_isMile : GoodIn wsX9_beside wsX9_isMile := goodIn_r _ [6, 7, 8, 9, 5, 10, 60, 61, 62, 63, 64, 65, 66, 67, 68, 69, 70, 71, 72, 73, 74, 75, 76, 77, 78, 79, 80, 81, 82, 83, 84, 85, 86, 87, 88, 89, 90, 91, 92, 93, 94, 95, 96] (by decide +kernel) (by decide +kernel)
set_option maxRecDepth 20000 in
theorem gX9_beside_X9_isMile : GoodIn wsX9_beside (wsV RX9 209 RX9 yX9_isMile wsX9_isMile) := goodIn_app (goodIn_of _ (by decide +kernel)) ggX9_beside_X9_isMile
set_option maxRecDepth 20000 in
theorem ggX9_beside_X9_starts : GoodIn wsX9_beside wsX9_starts := goodIn_r _ [14, 15, 16, 60, 61, 62, 63, 64, 65, 66, 67, 68, 69, 70, 71, 72, 73, 74, 75, 76, 77, 78, 79, 80, 81, 82, 83, 84, 85, 86, 87, 88, 89, 90, 91, 92, 93, 94, 95, 96] (by decide +kernel) (by decide +kernel)
set_option maxRecDepth 20000 in
theorem gX9_beside_X9_starts : GoodIn wsX9_beside (wsV RX9 206 RX9 yX9_starts wsX9_starts) := goodIn_app (goodIn_of _ (by decide +kernel)) ggX9_beside_X9_starts
set_option maxRecDepth 20000 in
theorem ggX9_beside_X9_drives : GoodIn wsX9_beside wsX9_drives := goodIn_r _ [20, 21, 22, 23, 24, 25, 26, 1, 7, 15, 27, 28, 29, 5, 30, 31, 32, 33, 34, 35, 36, 37, 38, 39, 40, 41, 42, 43, 44, 45, 46, 47, 48, 49, 50, 51, 52, 53, 54, 55, 56, 57, 58, 59, 60, 61, 62, 63, 64, 65, 66, 67, 68, 69, 70, 71, 72, 73, 74, 75, 76, 77, 78, 79, 80, 81, 82, 83, 84, 85, 86, 87, 88, 89, 90, 91, 92, 93, 94, 95, 96] (by decide +kernel) (by decide +kernel)
set_option maxRecDepth 20000 in
theorem gX9_beside_X9_drives : GoodIn wsX9_beside (wsV RX9 197 RX9 yX9_drives wsX9_drives) := goodIn_app (goodIn_of _ (by decide +kernel)) ggX9_beside_X9_drives
theorem dX9_beside_0 : decode cX9_beside 0 = .ok (.aload_n 0, 1) := by decide +kernel
theorem dX9_beside_1 : decode cX9_beside 1 = .ok (.iload_n 1, 1) := by decide +kernel
theorem dX9_beside_2 : decode cX9_beside 2 = .ok (.invokevirtual 209, 3) := by decide +kernel
theorem dX9_beside_5 : decode cX9_beside 5 = .ok (.ifCond .ne 5, 3) := by decide +kernel
theorem dX9_beside_8 : decode cX9_beside 8 = .ok (.iconst (-1), 1) := by decide +kernel
theorem dX9_beside_9 : decode cX9_beside 9 = .ok (.ireturn, 1) := by decide +kernel
theorem dX9_beside_10 : decode cX9_beside 10 = .ok (.aload_n 0, 1) := by decide +kernel
theorem dX9_beside_11 : decode cX9_beside 11 = .ok (.invokevirtual 206, 3) := by decide +kernel
theorem dX9_beside_14 : decode cX9_beside 14 = .ok (.aload_n 0, 1) := by decide +kernel
theorem dX9_beside_15 : decode cX9_beside 15 = .ok (.invokevirtual 197, 3) := by decide +kernel
theorem dX9_beside_18 : decode cX9_beside 18 = .ok (.aload_n 0, 1) := by decide +kernel
theorem dX9_beside_19 : decode cX9_beside 19 = .ok (.getfield 41, 3) := by decide +kernel
theorem dX9_beside_22 : decode cX9_beside 22 = .ok (.iload_n 1, 1) := by decide +kernel
theorem dX9_beside_23 : decode cX9_beside 23 = .ok (.iaload, 1) := by decide +kernel
theorem dX9_beside_24 : decode cX9_beside 24 = .ok (.ireturn, 1) := by decide +kernel
set_option maxRecDepth 20000 in
theorem ggX9_sum_X9_in : GoodIn wsX9_sum wsX9_in := goodIn_r _ [9] (by decide +kernel) (by decide +kernel)
set_option maxRecDepth 20000 in
theorem gX9_sum_X9_in : GoodIn wsX9_sum (va_wsS RX9 89 yX9_in wsX9_in) := goodIn_app (goodIn_of _ (by decide +kernel)) ggX9_sum_X9_in
set_option maxRecDepth 20000 in
theorem ggX9_sum_X9_starts : GoodIn wsX9_sum wsX9_starts := goodIn_r _ [13, 14, 15, 67, 68, 69, 70, 71, 72, 73, 74, 75, 76, 77, 78, 79, 80, 81, 82, 83, 84, 85, 86, 87, 88, 89, 90, 91, 92, 93, 94, 95, 96, 97, 98, 99, 100, 101, 102, 103] (by decide +kernel) (by decide +kernel)
set_option maxRecDepth 20000 in
theorem gX9_sum_X9_starts : GoodIn wsX9_sum (wsV RX9 206 RX9 yX9_starts wsX9_starts) := goodIn_app (goodIn_of _ (by decide +kernel)) ggX9_sum_X9_starts
set_option maxRecDepth 20000 in
theorem ggX9_sum_X9_drives : GoodIn wsX9_sum wsX9_drives := goodIn_r _ [19, 20, 3, 5, 4, 21, 22, 23, 24, 14, 25, 26, 27, 8, 28, 29, 30, 31, 32, 2, 33, 34, 35, 36, 37, 38, 39, 40, 41, 42, 43, 44, 45, 46, 47, 48, 49, 50, 51, 52, 53, 54, 55, 56, 67, 68, 69, 70, 71, 72, 73, 74, 75, 76, 77, 78, 79, 80, 81, 82, 83, 84, 85, 86, 87, 88, 89, 90, 91, 92, 93, 94, 95, 96, 97, 98, 99, 100, 101, 102, 103] (by decide +kernel) (by decide +kernel)
set_option maxRecDepth 20000 in
theorem gX9_sum_X9_drives : GoodIn wsX9_sum (wsV RX9 197 RX9 yX9_drives wsX9_drives) := goodIn_app (goodIn_of _ (by decide +kernel)) ggX9_sum_X9_drives
set_option maxRecDepth 20000 in
theorem ggX9_sum_X9_flag : GoodIn wsX9_sum wsX9_flag := goodIn_r _ [59] (by decide +kernel) (by decide +kernel)
set_option maxRecDepth 20000 in
theorem gX9_sum_X9_flag : GoodIn wsX9_sum (va_wsS RX9 193 yX9_flag wsX9_flag) := goodIn_app (goodIn_of _ (by decide +kernel)) ggX9_sum_X9_flag
set_option maxRecDepth 20000 in
theorem ggX9_sum_X9_verdicts : GoodIn wsX9_sum wsX9_verdicts := goodIn_r _ [63, 2, 3, 57, 58, 8, 59, 67, 68, 69, 70, 71, 72, 73, 74, 75, 76, 77, 78, 79, 80, 81, 82, 83, 84, 85, 86, 87, 88, 89, 90, 91, 92, 93, 94, 95, 96, 97, 98, 99, 100, 101, 102, 103] (by decide +kernel) (by decide +kernel)
set_option maxRecDepth 20000 in
theorem gX9_sum_X9_verdicts : GoodIn wsX9_sum (wsV RX9 200 RX9 yX9_verdicts wsX9_verdicts) := goodIn_app (goodIn_of _ (by decide +kernel)) ggX9_sum_X9_verdicts
set_option maxRecDepth 20000 in
theorem ggX9_sum_X9_bitsOf : GoodIn wsX9_sum wsX9_bitsOf := goodIn_r _ [66] (by decide +kernel) (by decide +kernel)
set_option maxRecDepth 20000 in
theorem gX9_sum_X9_bitsOf : GoodIn wsX9_sum (va_wsS RX9 203 yX9_bitsOf wsX9_bitsOf) := goodIn_app (goodIn_of _ (by decide +kernel)) ggX9_sum_X9_bitsOf
theorem dX9_sum_0 : decode cX9_sum 0 = .ok (.iload_n 1, 1) := by decide +kernel
theorem dX9_sum_1 : decode cX9_sum 1 = .ok (.i2l, 1) := by decide +kernel
theorem dX9_sum_2 : decode cX9_sum 2 = .ok (.lconst 0, 1) := by decide +kernel
theorem dX9_sum_3 : decode cX9_sum 3 = .ok (.ldc2_w 213, 3) := by decide +kernel
theorem dX9_sum_6 : decode cX9_sum 6 = .ok (.invokestatic 89, 3) := by decide +kernel
theorem dX9_sum_9 : decode cX9_sum 9 = .ok (.ifCond .ne 5, 3) := by decide +kernel
theorem dX9_sum_12 : decode cX9_sum 12 = .ok (.iconst (-1), 1) := by decide +kernel
theorem dX9_sum_13 : decode cX9_sum 13 = .ok (.ireturn, 1) := by decide +kernel
theorem dX9_sum_14 : decode cX9_sum 14 = .ok (.aload_n 0, 1) := by decide +kernel
theorem dX9_sum_15 : decode cX9_sum 15 = .ok (.invokevirtual 206, 3) := by decide +kernel
theorem dX9_sum_18 : decode cX9_sum 18 = .ok (.aload_n 0, 1) := by decide +kernel
theorem dX9_sum_19 : decode cX9_sum 19 = .ok (.invokevirtual 197, 3) := by decide +kernel
theorem dX9_sum_22 : decode cX9_sum 22 = .ok (.bipush (-4), 2) := by decide +kernel
theorem dX9_sum_24 : decode cX9_sum 24 = .ok (.istore_n 2, 1) := by decide +kernel
theorem dX9_sum_25 : decode cX9_sum 25 = .ok (.iconst 0, 1) := by decide +kernel
theorem dX9_sum_26 : decode cX9_sum 26 = .ok (.istore_n 3, 1) := by decide +kernel
theorem dX9_sum_27 : decode cX9_sum 27 = .ok (.iconst 0, 1) := by decide +kernel
theorem dX9_sum_28 : decode cX9_sum 28 = .ok (.istore 4, 2) := by decide +kernel
theorem dX9_sum_30 : decode cX9_sum 30 = .ok (.iconst 0, 1) := by decide +kernel
theorem dX9_sum_31 : decode cX9_sum 31 = .ok (.istore 5, 2) := by decide +kernel
theorem dX9_sum_33 : decode cX9_sum 33 = .ok (.iload 5, 2) := by decide +kernel
theorem dX9_sum_35 : decode cX9_sum 35 = .ok (.aload_n 0, 1) := by decide +kernel
theorem dX9_sum_36 : decode cX9_sum 36 = .ok (.getfield 84, 3) := by decide +kernel
theorem dX9_sum_39 : decode cX9_sum 39 = .ok (.if_icmp .ge 70, 3) := by decide +kernel
theorem dX9_sum_42 : decode cX9_sum 42 = .ok (.aload_n 0, 1) := by decide +kernel
theorem dX9_sum_43 : decode cX9_sum 43 = .ok (.getfield 26, 3) := by decide +kernel
theorem dX9_sum_46 : decode cX9_sum 46 = .ok (.iload 5, 2) := by decide +kernel
theorem dX9_sum_48 : decode cX9_sum 48 = .ok (.iaload, 1) := by decide +kernel
theorem dX9_sum_49 : decode cX9_sum 49 = .ok (.iload_n 2, 1) := by decide +kernel
theorem dX9_sum_50 : decode cX9_sum 50 = .ok (.if_icmp .le 13, 3) := by decide +kernel
theorem dX9_sum_53 : decode cX9_sum 53 = .ok (.aload_n 0, 1) := by decide +kernel
theorem dX9_sum_54 : decode cX9_sum 54 = .ok (.getfield 26, 3) := by decide +kernel
theorem dX9_sum_57 : decode cX9_sum 57 = .ok (.iload 5, 2) := by decide +kernel
theorem dX9_sum_59 : decode cX9_sum 59 = .ok (.iaload, 1) := by decide +kernel
theorem dX9_sum_60 : decode cX9_sum 60 = .ok (.goto 4, 3) := by decide +kernel
theorem dX9_sum_63 : decode cX9_sum 63 = .ok (.iload_n 2, 1) := by decide +kernel
theorem dX9_sum_64 : decode cX9_sum 64 = .ok (.istore_n 2, 1) := by decide +kernel
theorem dX9_sum_65 : decode cX9_sum 65 = .ok (.iload_n 3, 1) := by decide +kernel
theorem dX9_sum_66 : decode cX9_sum 66 = .ok (.aload_n 0, 1) := by decide +kernel
theorem dX9_sum_67 : decode cX9_sum 67 = .ok (.getfield 32, 3) := by decide +kernel
theorem dX9_sum_70 : decode cX9_sum 70 = .ok (.iload 5, 2) := by decide +kernel
theorem dX9_sum_72 : decode cX9_sum 72 = .ok (.iaload, 1) := by decide +kernel
theorem dX9_sum_73 : decode cX9_sum 73 = .ok (.iadd, 1) := by decide +kernel
theorem dX9_sum_74 : decode cX9_sum 74 = .ok (.istore_n 3, 1) := by decide +kernel
theorem dX9_sum_75 : decode cX9_sum 75 = .ok (.iload 4, 2) := by decide +kernel
theorem dX9_sum_77 : decode cX9_sum 77 = .ok (.aload_n 0, 1) := by decide +kernel
theorem dX9_sum_78 : decode cX9_sum 78 = .ok (.getfield 29, 3) := by decide +kernel
theorem dX9_sum_81 : decode cX9_sum 81 = .ok (.iload 5, 2) := by decide +kernel
theorem dX9_sum_83 : decode cX9_sum 83 = .ok (.iaload, 1) := by decide +kernel
theorem dX9_sum_84 : decode cX9_sum 84 = .ok (.bipush (-4), 2) := by decide +kernel
theorem dX9_sum_86 : decode cX9_sum 86 = .ok (.if_icmp .eq 7, 3) := by decide +kernel
theorem dX9_sum_89 : decode cX9_sum 89 = .ok (.iconst 1, 1) := by decide +kernel
theorem dX9_sum_90 : decode cX9_sum 90 = .ok (.goto 4, 3) := by decide +kernel
theorem dX9_sum_93 : decode cX9_sum 93 = .ok (.iconst 0, 1) := by decide +kernel
theorem dX9_sum_94 : decode cX9_sum 94 = .ok (.invokestatic 193, 3) := by decide +kernel
theorem dX9_sum_97 : decode cX9_sum 97 = .ok (.iload 5, 2) := by decide +kernel
theorem dX9_sum_99 : decode cX9_sum 99 = .ok (.ishl, 1) := by decide +kernel
theorem dX9_sum_100 : decode cX9_sum 100 = .ok (.ior, 1) := by decide +kernel
theorem dX9_sum_101 : decode cX9_sum 101 = .ok (.istore 4, 2) := by decide +kernel
theorem dX9_sum_103 : decode cX9_sum 103 = .ok (.iinc 5 1, 3) := by decide +kernel
theorem dX9_sum_106 : decode cX9_sum 106 = .ok (.goto (-73), 3) := by decide +kernel
theorem dX9_sum_109 : decode cX9_sum 109 = .ok (.iload_n 1, 1) := by decide +kernel
theorem dX9_sum_110 : decode cX9_sum 110 = .ok (.tableswitch 47 0 3 #[30, 38, 43, 45], 30) := by decide +kernel
theorem dX9_sum_140 : decode cX9_sum 140 = .ok (.aload_n 0, 1) := by decide +kernel
theorem dX9_sum_141 : decode cX9_sum 141 = .ok (.invokevirtual 200, 3) := by decide +kernel
theorem dX9_sum_144 : decode cX9_sum 144 = .ok (.invokestatic 203, 3) := by decide +kernel
theorem dX9_sum_147 : decode cX9_sum 147 = .ok (.ireturn, 1) := by decide +kernel
theorem dX9_sum_148 : decode cX9_sum 148 = .ok (.aload_n 0, 1) := by decide +kernel
theorem dX9_sum_149 : decode cX9_sum 149 = .ok (.invokevirtual 200, 3) := by decide +kernel
theorem dX9_sum_152 : decode cX9_sum 152 = .ok (.ireturn, 1) := by decide +kernel
theorem dX9_sum_153 : decode cX9_sum 153 = .ok (.iload_n 2, 1) := by decide +kernel
theorem dX9_sum_154 : decode cX9_sum 154 = .ok (.ireturn, 1) := by decide +kernel
theorem dX9_sum_155 : decode cX9_sum 155 = .ok (.iload_n 3, 1) := by decide +kernel
theorem dX9_sum_156 : decode cX9_sum 156 = .ok (.ireturn, 1) := by decide +kernel
theorem dX9_sum_157 : decode cX9_sum 157 = .ok (.iload 4, 2) := by decide +kernel
theorem dX9_sum_159 : decode cX9_sum 159 = .ok (.ireturn, 1) := by decide +kernel
theorem dX9_stoneIn_0 : decode cX9_stoneIn 0 = .ok (.iload_n 1, 1) := by decide +kernel
theorem dX9_stoneIn_1 : decode cX9_stoneIn 1 = .ok (.istore_n 3, 1) := by decide +kernel
theorem dX9_stoneIn_2 : decode cX9_stoneIn 2 = .ok (.aload_n 0, 1) := by decide +kernel
theorem dX9_stoneIn_3 : decode cX9_stoneIn 3 = .ok (.getfield 84, 3) := by decide +kernel
theorem dX9_stoneIn_6 : decode cX9_stoneIn 6 = .ok (.iconst 1, 1) := by decide +kernel
theorem dX9_stoneIn_7 : decode cX9_stoneIn 7 = .ok (.isub, 1) := by decide +kernel
theorem dX9_stoneIn_8 : decode cX9_stoneIn 8 = .ok (.istore 4, 2) := by decide +kernel
theorem dX9_stoneIn_10 : decode cX9_stoneIn 10 = .ok (.iload 4, 2) := by decide +kernel
theorem dX9_stoneIn_12 : decode cX9_stoneIn 12 = .ok (.iload_n 2, 1) := by decide +kernel
theorem dX9_stoneIn_13 : decode cX9_stoneIn 13 = .ok (.if_icmp .le 16, 3) := by decide +kernel
theorem dX9_stoneIn_16 : decode cX9_stoneIn 16 = .ok (.iload_n 3, 1) := by decide +kernel
theorem dX9_stoneIn_17 : decode cX9_stoneIn 17 = .ok (.aload_n 0, 1) := by decide +kernel
theorem dX9_stoneIn_18 : decode cX9_stoneIn 18 = .ok (.getfield 81, 3) := by decide +kernel
theorem dX9_stoneIn_21 : decode cX9_stoneIn 21 = .ok (.idiv, 1) := by decide +kernel
theorem dX9_stoneIn_22 : decode cX9_stoneIn 22 = .ok (.istore_n 3, 1) := by decide +kernel
theorem dX9_stoneIn_23 : decode cX9_stoneIn 23 = .ok (.iinc 4 (-1), 3) := by decide +kernel
theorem dX9_stoneIn_26 : decode cX9_stoneIn 26 = .ok (.goto (-16), 3) := by decide +kernel
theorem dX9_stoneIn_29 : decode cX9_stoneIn 29 = .ok (.iload_n 3, 1) := by decide +kernel
theorem dX9_stoneIn_30 : decode cX9_stoneIn 30 = .ok (.aload_n 0, 1) := by decide +kernel
theorem dX9_stoneIn_31 : decode cX9_stoneIn 31 = .ok (.getfield 81, 3) := by decide +kernel
theorem dX9_stoneIn_34 : decode cX9_stoneIn 34 = .ok (.irem, 1) := by decide +kernel
theorem dX9_stoneIn_35 : decode cX9_stoneIn 35 = .ok (.ireturn, 1) := by decide +kernel
set_option maxRecDepth 20000 in
theorem ggX9_best_X9_isParty : GoodIn wsX9_best wsX9_isParty := goodIn_r _ [8, 2, 9, 10, 7, 11, 78, 79, 80, 81, 82, 83, 84, 85, 86, 87, 88, 89, 90, 91, 92, 93, 94, 95, 96, 97, 98, 99, 100, 101, 102, 103, 104, 105, 106, 107, 108, 109, 110, 111, 112, 113, 114] (by decide +kernel) (by decide +kernel)
set_option maxRecDepth 20000 in
theorem gX9_best_X9_isParty : GoodIn wsX9_best (wsV RX9 215 RX9 yX9_isParty wsX9_isParty) := goodIn_app (goodIn_of _ (by decide +kernel)) ggX9_best_X9_isParty
set_option maxRecDepth 20000 in
theorem ggX9_best_X9_starts : GoodIn wsX9_best wsX9_starts := goodIn_r _ [15, 3, 16, 78, 79, 80, 81, 82, 83, 84, 85, 86, 87, 88, 89, 90, 91, 92, 93, 94, 95, 96, 97, 98, 99, 100, 101, 102, 103, 104, 105, 106, 107, 108, 109, 110, 111, 112, 113, 114] (by decide +kernel) (by decide +kernel)
set_option maxRecDepth 20000 in
theorem gX9_best_X9_starts : GoodIn wsX9_best (wsV RX9 206 RX9 yX9_starts wsX9_starts) := goodIn_app (goodIn_of _ (by decide +kernel)) ggX9_best_X9_starts
set_option maxRecDepth 20000 in
theorem ggX9_best_X9_stoneIn : GoodIn wsX9_best wsX9_stoneIn := goodIn_r _ [20, 2, 1, 78, 79, 80, 81, 82, 83, 84, 85, 86, 87, 88, 89, 90, 91, 92, 93, 94, 95, 96, 97, 98, 99, 100, 101, 102, 103, 104, 105, 106, 107, 108, 109, 110, 111, 112, 113, 114] (by decide +kernel) (by decide +kernel)
set_option maxRecDepth 20000 in
theorem gX9_best_X9_stoneIn : GoodIn wsX9_best (wsV RX9 230 RX9 yX9_stoneIn wsX9_stoneIn) := goodIn_app (goodIn_of _ (by decide +kernel)) ggX9_best_X9_stoneIn
set_option maxRecDepth 20000 in
theorem ggX9_best_X9_howMany : GoodIn wsX9_best wsX9_howMany := goodIn_r _ [24, 25, 26, 27, 7, 28, 29, 30, 31, 32, 33, 34, 35, 1, 3, 36, 37, 38, 39, 40, 41, 42, 43, 2, 44, 45, 46, 47, 48, 49, 50, 51, 52, 53, 54, 55, 56, 57, 58, 59, 60, 61, 62, 63, 64, 65, 66, 67, 68, 69, 70, 71, 72, 73, 74, 75, 76, 77, 78, 79, 80, 81, 82, 83, 84, 85, 86, 87, 88, 89, 90, 91, 92, 93, 94, 95, 96, 97, 98, 99, 100, 101, 102, 103, 104, 105, 106, 107, 108, 109, 110, 111, 112, 113, 114] (by decide +kernel) (by decide +kernel)
set_option maxRecDepth 20000 in
theorem gX9_best_X9_howMany : GoodIn wsX9_best (wsV RX9 233 RX9 yX9_howMany wsX9_howMany) := goodIn_app (goodIn_of _ (by decide +kernel)) ggX9_best_X9_howMany
theorem dX9_best_0 : decode cX9_best 0 = .ok (.iload_n 1, 1) := by decide +kernel
theorem dX9_best_1 : decode cX9_best 1 = .ok (.ifCond .eq 16, 3) := by decide +kernel
theorem dX9_best_4 : decode cX9_best 4 = .ok (.aload_n 0, 1) := by decide +kernel
theorem dX9_best_5 : decode cX9_best 5 = .ok (.iload_n 1, 1) := by decide +kernel
theorem dX9_best_6 : decode cX9_best 6 = .ok (.bipush 10, 2) := by decide +kernel
theorem dX9_best_8 : decode cX9_best 8 = .ok (.isub, 1) := by decide +kernel
theorem dX9_best_9 : decode cX9_best 9 = .ok (.invokevirtual 215, 3) := by decide +kernel
theorem dX9_best_12 : decode cX9_best 12 = .ok (.ifCond .ne 5, 3) := by decide +kernel
theorem dX9_best_15 : decode cX9_best 15 = .ok (.iconst (-1), 1) := by decide +kernel
theorem dX9_best_16 : decode cX9_best 16 = .ok (.ireturn, 1) := by decide +kernel
theorem dX9_best_17 : decode cX9_best 17 = .ok (.aload_n 0, 1) := by decide +kernel
theorem dX9_best_18 : decode cX9_best 18 = .ok (.getfield 81, 3) := by decide +kernel
theorem dX9_best_21 : decode cX9_best 21 = .ok (.ifCond .ne 6, 3) := by decide +kernel
theorem dX9_best_24 : decode cX9_best 24 = .ok (.bipush (-2), 2) := by decide +kernel
theorem dX9_best_26 : decode cX9_best 26 = .ok (.ireturn, 1) := by decide +kernel
theorem dX9_best_27 : decode cX9_best 27 = .ok (.iconst 1, 1) := by decide +kernel
theorem dX9_best_28 : decode cX9_best 28 = .ok (.istore_n 2, 1) := by decide +kernel
theorem dX9_best_29 : decode cX9_best 29 = .ok (.iconst 0, 1) := by decide +kernel
theorem dX9_best_30 : decode cX9_best 30 = .ok (.istore_n 3, 1) := by decide +kernel
theorem dX9_best_31 : decode cX9_best 31 = .ok (.iload_n 3, 1) := by decide +kernel
theorem dX9_best_32 : decode cX9_best 32 = .ok (.aload_n 0, 1) := by decide +kernel
theorem dX9_best_33 : decode cX9_best 33 = .ok (.getfield 84, 3) := by decide +kernel
theorem dX9_best_36 : decode cX9_best 36 = .ok (.if_icmp .ge 16, 3) := by decide +kernel
theorem dX9_best_39 : decode cX9_best 39 = .ok (.iload_n 2, 1) := by decide +kernel
theorem dX9_best_40 : decode cX9_best 40 = .ok (.aload_n 0, 1) := by decide +kernel
theorem dX9_best_41 : decode cX9_best 41 = .ok (.getfield 81, 3) := by decide +kernel
theorem dX9_best_44 : decode cX9_best 44 = .ok (.imul, 1) := by decide +kernel
theorem dX9_best_45 : decode cX9_best 45 = .ok (.istore_n 2, 1) := by decide +kernel
theorem dX9_best_46 : decode cX9_best 46 = .ok (.iinc 3 1, 3) := by decide +kernel
theorem dX9_best_49 : decode cX9_best 49 = .ok (.goto (-18), 3) := by decide +kernel
theorem dX9_best_52 : decode cX9_best 52 = .ok (.iconst (-1), 1) := by decide +kernel
theorem dX9_best_53 : decode cX9_best 53 = .ok (.istore_n 3, 1) := by decide +kernel
theorem dX9_best_54 : decode cX9_best 54 = .ok (.iconst 0, 1) := by decide +kernel
theorem dX9_best_55 : decode cX9_best 55 = .ok (.istore 4, 2) := by decide +kernel
theorem dX9_best_57 : decode cX9_best 57 = .ok (.aload_n 0, 1) := by decide +kernel
theorem dX9_best_58 : decode cX9_best 58 = .ok (.invokevirtual 206, 3) := by decide +kernel
theorem dX9_best_61 : decode cX9_best 61 = .ok (.iconst 0, 1) := by decide +kernel
theorem dX9_best_62 : decode cX9_best 62 = .ok (.istore 5, 2) := by decide +kernel
theorem dX9_best_64 : decode cX9_best 64 = .ok (.iload 5, 2) := by decide +kernel
theorem dX9_best_66 : decode cX9_best 66 = .ok (.iload_n 2, 1) := by decide +kernel
theorem dX9_best_67 : decode cX9_best 67 = .ok (.if_icmp .ge 83, 3) := by decide +kernel
theorem dX9_best_70 : decode cX9_best 70 = .ok (.iconst 0, 1) := by decide +kernel
theorem dX9_best_71 : decode cX9_best 71 = .ok (.istore 6, 2) := by decide +kernel
theorem dX9_best_73 : decode cX9_best 73 = .ok (.iload 6, 2) := by decide +kernel
theorem dX9_best_75 : decode cX9_best 75 = .ok (.aload_n 0, 1) := by decide +kernel
theorem dX9_best_76 : decode cX9_best 76 = .ok (.getfield 84, 3) := by decide +kernel
theorem dX9_best_79 : decode cX9_best 79 = .ok (.if_icmp .ge 31, 3) := by decide +kernel
theorem dX9_best_82 : decode cX9_best 82 = .ok (.aload_n 0, 1) := by decide +kernel
theorem dX9_best_83 : decode cX9_best 83 = .ok (.getfield 13, 3) := by decide +kernel
theorem dX9_best_86 : decode cX9_best 86 = .ok (.bipush 24, 2) := by decide +kernel
theorem dX9_best_88 : decode cX9_best 88 = .ok (.iconst 5, 1) := by decide +kernel
theorem dX9_best_89 : decode cX9_best 89 = .ok (.iload 6, 2) := by decide +kernel
theorem dX9_best_91 : decode cX9_best 91 = .ok (.imul, 1) := by decide +kernel
theorem dX9_best_92 : decode cX9_best 92 = .ok (.iadd, 1) := by decide +kernel
theorem dX9_best_93 : decode cX9_best 93 = .ok (.iconst 4, 1) := by decide +kernel
theorem dX9_best_94 : decode cX9_best 94 = .ok (.iadd, 1) := by decide +kernel
theorem dX9_best_95 : decode cX9_best 95 = .ok (.aload_n 0, 1) := by decide +kernel
theorem dX9_best_96 : decode cX9_best 96 = .ok (.iload 5, 2) := by decide +kernel
theorem dX9_best_98 : decode cX9_best 98 = .ok (.iload 6, 2) := by decide +kernel
theorem dX9_best_100 : decode cX9_best 100 = .ok (.invokevirtual 230, 3) := by decide +kernel
theorem dX9_best_103 : decode cX9_best 103 = .ok (.iastore, 1) := by decide +kernel
theorem dX9_best_104 : decode cX9_best 104 = .ok (.iinc 6 1, 3) := by decide +kernel
theorem dX9_best_107 : decode cX9_best 107 = .ok (.goto (-34), 3) := by decide +kernel
theorem dX9_best_110 : decode cX9_best 110 = .ok (.aload_n 0, 1) := by decide +kernel
theorem dX9_best_111 : decode cX9_best 111 = .ok (.invokevirtual 233, 3) := by decide +kernel
theorem dX9_best_114 : decode cX9_best 114 = .ok (.istore 6, 2) := by decide +kernel
theorem dX9_best_116 : decode cX9_best 116 = .ok (.iload 6, 2) := by decide +kernel
theorem dX9_best_118 : decode cX9_best 118 = .ok (.iload_n 3, 1) := by decide +kernel
theorem dX9_best_119 : decode cX9_best 119 = .ok (.if_icmp .le 8, 3) := by decide +kernel
theorem dX9_best_122 : decode cX9_best 122 = .ok (.iload 5, 2) := by decide +kernel
theorem dX9_best_124 : decode cX9_best 124 = .ok (.goto 5, 3) := by decide +kernel
theorem dX9_best_127 : decode cX9_best 127 = .ok (.iload 4, 2) := by decide +kernel
theorem dX9_best_129 : decode cX9_best 129 = .ok (.istore 4, 2) := by decide +kernel
theorem dX9_best_131 : decode cX9_best 131 = .ok (.iload 6, 2) := by decide +kernel
theorem dX9_best_133 : decode cX9_best 133 = .ok (.iload_n 3, 1) := by decide +kernel
theorem dX9_best_134 : decode cX9_best 134 = .ok (.if_icmp .le 8, 3) := by decide +kernel
theorem dX9_best_137 : decode cX9_best 137 = .ok (.iload 6, 2) := by decide +kernel
theorem dX9_best_139 : decode cX9_best 139 = .ok (.goto 4, 3) := by decide +kernel
theorem dX9_best_142 : decode cX9_best 142 = .ok (.iload_n 3, 1) := by decide +kernel
theorem dX9_best_143 : decode cX9_best 143 = .ok (.istore_n 3, 1) := by decide +kernel
theorem dX9_best_144 : decode cX9_best 144 = .ok (.iinc 5 1, 3) := by decide +kernel
theorem dX9_best_147 : decode cX9_best 147 = .ok (.goto (-83), 3) := by decide +kernel
theorem dX9_best_150 : decode cX9_best 150 = .ok (.iload_n 1, 1) := by decide +kernel
theorem dX9_best_151 : decode cX9_best 151 = .ok (.ifCond .ne 7, 3) := by decide +kernel
theorem dX9_best_154 : decode cX9_best 154 = .ok (.iload_n 3, 1) := by decide +kernel
theorem dX9_best_155 : decode cX9_best 155 = .ok (.goto 13, 3) := by decide +kernel
theorem dX9_best_158 : decode cX9_best 158 = .ok (.aload_n 0, 1) := by decide +kernel
theorem dX9_best_159 : decode cX9_best 159 = .ok (.iload 4, 2) := by decide +kernel
theorem dX9_best_161 : decode cX9_best 161 = .ok (.iload_n 1, 1) := by decide +kernel
theorem dX9_best_162 : decode cX9_best 162 = .ok (.bipush 10, 2) := by decide +kernel
theorem dX9_best_164 : decode cX9_best 164 = .ok (.isub, 1) := by decide +kernel
theorem dX9_best_165 : decode cX9_best 165 = .ok (.invokevirtual 230, 3) := by decide +kernel
theorem dX9_best_168 : decode cX9_best 168 = .ok (.ireturn, 1) := by decide +kernel
set_option maxRecDepth 20000 in
theorem ggX9_findPlace_X9_starts : GoodIn wsX9_findPlace wsX9_starts := goodIn_r _ [11, 5, 12, 56, 57, 58, 59, 60, 61, 62, 63, 64, 65, 66, 67, 68, 69, 70, 71, 72, 73, 74, 75, 76, 77, 78, 79, 80, 81, 82, 83, 84, 85, 86, 87, 88, 89, 90, 91, 92] (by decide +kernel) (by decide +kernel)
set_option maxRecDepth 20000 in
theorem gX9_findPlace_X9_starts : GoodIn wsX9_findPlace (wsV RX9 206 RX9 yX9_starts wsX9_starts) := goodIn_app (goodIn_of _ (by decide +kernel)) ggX9_findPlace_X9_starts
set_option maxRecDepth 20000 in
theorem ggX9_findPlace_X9_drives : GoodIn wsX9_findPlace wsX9_drives := goodIn_r _ [16, 17, 6, 18, 19, 20, 21, 22, 4, 5, 23, 24, 25, 10, 26, 27, 28, 29, 30, 31, 32, 33, 34, 35, 36, 37, 38, 39, 40, 41, 42, 43, 44, 45, 46, 47, 48, 49, 50, 51, 52, 53, 54, 55, 56, 57, 58, 59, 60, 61, 62, 63, 64, 65, 66, 67, 68, 69, 70, 71, 72, 73, 74, 75, 76, 77, 78, 79, 80, 81, 82, 83, 84, 85, 86, 87, 88, 89, 90, 91, 92] (by decide +kernel) (by decide +kernel)
set_option maxRecDepth 20000 in
theorem gX9_findPlace_X9_drives : GoodIn wsX9_findPlace (wsV RX9 197 RX9 yX9_drives wsX9_drives) := goodIn_app (goodIn_of _ (by decide +kernel)) ggX9_findPlace_X9_drives
theorem dX9_findPlace_0 : decode cX9_findPlace 0 = .ok (.aload_n 0, 1) := by decide +kernel
theorem dX9_findPlace_1 : decode cX9_findPlace 1 = .ok (.bipush (-4), 2) := by decide +kernel
theorem dX9_findPlace_3 : decode cX9_findPlace 3 = .ok (.putfield 236, 3) := by decide +kernel
theorem dX9_findPlace_6 : decode cX9_findPlace 6 = .ok (.aload_n 0, 1) := by decide +kernel
theorem dX9_findPlace_7 : decode cX9_findPlace 7 = .ok (.ldc 239, 2) := by decide +kernel
theorem dX9_findPlace_9 : decode cX9_findPlace 9 = .ok (.putfield 240, 3) := by decide +kernel
theorem dX9_findPlace_12 : decode cX9_findPlace 12 = .ok (.aload_n 0, 1) := by decide +kernel
theorem dX9_findPlace_13 : decode cX9_findPlace 13 = .ok (.invokevirtual 206, 3) := by decide +kernel
theorem dX9_findPlace_16 : decode cX9_findPlace 16 = .ok (.iconst 0, 1) := by decide +kernel
theorem dX9_findPlace_17 : decode cX9_findPlace 17 = .ok (.istore_n 2, 1) := by decide +kernel
theorem dX9_findPlace_18 : decode cX9_findPlace 18 = .ok (.iload_n 2, 1) := by decide +kernel
theorem dX9_findPlace_19 : decode cX9_findPlace 19 = .ok (.aload_n 0, 1) := by decide +kernel
theorem dX9_findPlace_20 : decode cX9_findPlace 20 = .ok (.getfield 81, 3) := by decide +kernel
theorem dX9_findPlace_23 : decode cX9_findPlace 23 = .ok (.if_icmp .ge 94, 3) := by decide +kernel
theorem dX9_findPlace_26 : decode cX9_findPlace 26 = .ok (.aload_n 0, 1) := by decide +kernel
theorem dX9_findPlace_27 : decode cX9_findPlace 27 = .ok (.getfield 13, 3) := by decide +kernel
theorem dX9_findPlace_30 : decode cX9_findPlace 30 = .ok (.bipush 24, 2) := by decide +kernel
theorem dX9_findPlace_32 : decode cX9_findPlace 32 = .ok (.iconst 5, 1) := by decide +kernel
theorem dX9_findPlace_33 : decode cX9_findPlace 33 = .ok (.iload_n 1, 1) := by decide +kernel
theorem dX9_findPlace_34 : decode cX9_findPlace 34 = .ok (.imul, 1) := by decide +kernel
theorem dX9_findPlace_35 : decode cX9_findPlace 35 = .ok (.iadd, 1) := by decide +kernel
theorem dX9_findPlace_36 : decode cX9_findPlace 36 = .ok (.iconst 4, 1) := by decide +kernel
theorem dX9_findPlace_37 : decode cX9_findPlace 37 = .ok (.iadd, 1) := by decide +kernel
theorem dX9_findPlace_38 : decode cX9_findPlace 38 = .ok (.iload_n 2, 1) := by decide +kernel
theorem dX9_findPlace_39 : decode cX9_findPlace 39 = .ok (.iastore, 1) := by decide +kernel
theorem dX9_findPlace_40 : decode cX9_findPlace 40 = .ok (.aload_n 0, 1) := by decide +kernel
theorem dX9_findPlace_41 : decode cX9_findPlace 41 = .ok (.invokevirtual 197, 3) := by decide +kernel
theorem dX9_findPlace_44 : decode cX9_findPlace 44 = .ok (.aload_n 0, 1) := by decide +kernel
theorem dX9_findPlace_45 : decode cX9_findPlace 45 = .ok (.getfield 26, 3) := by decide +kernel
theorem dX9_findPlace_48 : decode cX9_findPlace 48 = .ok (.iload_n 1, 1) := by decide +kernel
theorem dX9_findPlace_49 : decode cX9_findPlace 49 = .ok (.iaload, 1) := by decide +kernel
theorem dX9_findPlace_50 : decode cX9_findPlace 50 = .ok (.bipush (-4), 2) := by decide +kernel
theorem dX9_findPlace_52 : decode cX9_findPlace 52 = .ok (.if_icmp .eq 20, 3) := by decide +kernel
theorem dX9_findPlace_55 : decode cX9_findPlace 55 = .ok (.aload_n 0, 1) := by decide +kernel
theorem dX9_findPlace_56 : decode cX9_findPlace 56 = .ok (.getfield 26, 3) := by decide +kernel
theorem dX9_findPlace_59 : decode cX9_findPlace 59 = .ok (.iload_n 1, 1) := by decide +kernel
theorem dX9_findPlace_60 : decode cX9_findPlace 60 = .ok (.iaload, 1) := by decide +kernel
theorem dX9_findPlace_61 : decode cX9_findPlace 61 = .ok (.aload_n 0, 1) := by decide +kernel
theorem dX9_findPlace_62 : decode cX9_findPlace 62 = .ok (.getfield 240, 3) := by decide +kernel
theorem dX9_findPlace_65 : decode cX9_findPlace 65 = .ok (.if_icmp .gt 7, 3) := by decide +kernel
theorem dX9_findPlace_68 : decode cX9_findPlace 68 = .ok (.iconst 1, 1) := by decide +kernel
theorem dX9_findPlace_69 : decode cX9_findPlace 69 = .ok (.goto 4, 3) := by decide +kernel
theorem dX9_findPlace_72 : decode cX9_findPlace 72 = .ok (.iconst 0, 1) := by decide +kernel
theorem dX9_findPlace_73 : decode cX9_findPlace 73 = .ok (.istore_n 3, 1) := by decide +kernel
theorem dX9_findPlace_74 : decode cX9_findPlace 74 = .ok (.aload_n 0, 1) := by decide +kernel
theorem dX9_findPlace_75 : decode cX9_findPlace 75 = .ok (.iload_n 3, 1) := by decide +kernel
theorem dX9_findPlace_76 : decode cX9_findPlace 76 = .ok (.ifCond .eq 7, 3) := by decide +kernel
theorem dX9_findPlace_79 : decode cX9_findPlace 79 = .ok (.iload_n 2, 1) := by decide +kernel
theorem dX9_findPlace_80 : decode cX9_findPlace 80 = .ok (.goto 7, 3) := by decide +kernel
theorem dX9_findPlace_83 : decode cX9_findPlace 83 = .ok (.aload_n 0, 1) := by decide +kernel
theorem dX9_findPlace_84 : decode cX9_findPlace 84 = .ok (.getfield 236, 3) := by decide +kernel
theorem dX9_findPlace_87 : decode cX9_findPlace 87 = .ok (.putfield 236, 3) := by decide +kernel
theorem dX9_findPlace_90 : decode cX9_findPlace 90 = .ok (.aload_n 0, 1) := by decide +kernel
theorem dX9_findPlace_91 : decode cX9_findPlace 91 = .ok (.iload_n 3, 1) := by decide +kernel
theorem dX9_findPlace_92 : decode cX9_findPlace 92 = .ok (.ifCond .eq 12, 3) := by decide +kernel
theorem dX9_findPlace_95 : decode cX9_findPlace 95 = .ok (.aload_n 0, 1) := by decide +kernel
theorem dX9_findPlace_96 : decode cX9_findPlace 96 = .ok (.getfield 26, 3) := by decide +kernel
theorem dX9_findPlace_99 : decode cX9_findPlace 99 = .ok (.iload_n 1, 1) := by decide +kernel
theorem dX9_findPlace_100 : decode cX9_findPlace 100 = .ok (.iaload, 1) := by decide +kernel
theorem dX9_findPlace_101 : decode cX9_findPlace 101 = .ok (.goto 7, 3) := by decide +kernel
theorem dX9_findPlace_104 : decode cX9_findPlace 104 = .ok (.aload_n 0, 1) := by decide +kernel
theorem dX9_findPlace_105 : decode cX9_findPlace 105 = .ok (.getfield 240, 3) := by decide +kernel
theorem dX9_findPlace_108 : decode cX9_findPlace 108 = .ok (.putfield 240, 3) := by decide +kernel
theorem dX9_findPlace_111 : decode cX9_findPlace 111 = .ok (.iinc 2 1, 3) := by decide +kernel
theorem dX9_findPlace_114 : decode cX9_findPlace 114 = .ok (.goto (-96), 3) := by decide +kernel
theorem dX9_findPlace_117 : decode cX9_findPlace 117 = .ok (.return_, 1) := by decide +kernel
set_option maxRecDepth 20000 in
theorem ggX9_place_X9_isParty : GoodIn wsX9_place wsX9_isParty := goodIn_r _ [7, 8, 9, 10, 6, 11, 70, 71, 72, 73, 74, 75, 76, 77, 78, 79, 80, 81, 82, 83, 84, 85, 86, 87, 88, 89, 90, 91, 92, 93, 94, 95, 96, 97, 98, 99, 100, 101, 102, 103, 104, 105, 106] (by decide +kernel) (by decide +kernel)
set_option maxRecDepth 20000 in
theorem gX9_place_X9_isParty : GoodIn wsX9_place (wsV RX9 215 RX9 yX9_isParty wsX9_isParty) := goodIn_app (goodIn_of _ (by decide +kernel)) ggX9_place_X9_isParty
set_option maxRecDepth 20000 in
theorem ggX9_place_X9_isPart : GoodIn wsX9_place wsX9_isPart := goodIn_r _ [14, 9, 10, 6, 11] (by decide +kernel) (by decide +kernel)
set_option maxRecDepth 20000 in
theorem gX9_place_X9_isPart : GoodIn wsX9_place (va_wsS RX9 220 yX9_isPart wsX9_isPart) := goodIn_app (goodIn_of _ (by decide +kernel)) ggX9_place_X9_isPart
set_option maxRecDepth 20000 in
theorem ggX9_place_X9_findPlace : GoodIn wsX9_place wsX9_findPlace := goodIn_r _ [18, 1, 19, 2, 20, 21, 22, 23, 24, 25, 6, 26, 27, 28, 29, 30, 31, 32, 33, 34, 35, 36, 37, 38, 39, 40, 41, 42, 43, 44, 45, 8, 46, 47, 48, 49, 50, 51, 52, 53, 54, 55, 56, 57, 58, 59, 60, 61, 62, 63, 64, 65, 66, 67, 68, 69, 70, 71, 72, 73, 74, 75, 76, 77, 78, 79, 80, 81, 82, 83, 84, 85, 86, 87, 88, 89, 90, 91, 92, 93, 94, 95, 96, 97, 98, 99, 100, 101, 102, 103, 104, 105, 106] (by decide +kernel) (by decide +kernel)
set_option maxRecDepth 20000 in
theorem gX9_place_X9_findPlace : GoodIn wsX9_place (wsV RX9 243 RX9 yX9_findPlace wsX9_findPlace) := goodIn_app (goodIn_of _ (by decide +kernel)) ggX9_place_X9_findPlace
theorem dX9_place_0 : decode cX9_place 0 = .ok (.aload_n 0, 1) := by decide +kernel
theorem dX9_place_1 : decode cX9_place 1 = .ok (.iload_n 1, 1) := by decide +kernel
theorem dX9_place_2 : decode cX9_place 2 = .ok (.invokevirtual 215, 3) := by decide +kernel
theorem dX9_place_5 : decode cX9_place 5 = .ok (.ifCond .eq 10, 3) := by decide +kernel
theorem dX9_place_8 : decode cX9_place 8 = .ok (.iload_n 2, 1) := by decide +kernel
theorem dX9_place_9 : decode cX9_place 9 = .ok (.invokestatic 220, 3) := by decide +kernel
theorem dX9_place_12 : decode cX9_place 12 = .ok (.ifCond .ne 5, 3) := by decide +kernel
theorem dX9_place_15 : decode cX9_place 15 = .ok (.iconst (-1), 1) := by decide +kernel
theorem dX9_place_16 : decode cX9_place 16 = .ok (.ireturn, 1) := by decide +kernel
theorem dX9_place_17 : decode cX9_place 17 = .ok (.aload_n 0, 1) := by decide +kernel
theorem dX9_place_18 : decode cX9_place 18 = .ok (.iload_n 1, 1) := by decide +kernel
theorem dX9_place_19 : decode cX9_place 19 = .ok (.invokevirtual 243, 3) := by decide +kernel
theorem dX9_place_22 : decode cX9_place 22 = .ok (.aload_n 0, 1) := by decide +kernel
theorem dX9_place_23 : decode cX9_place 23 = .ok (.getfield 236, 3) := by decide +kernel
theorem dX9_place_26 : decode cX9_place 26 = .ok (.bipush (-4), 2) := by decide +kernel
theorem dX9_place_28 : decode cX9_place 28 = .ok (.if_icmp .ne 8, 3) := by decide +kernel
theorem dX9_place_31 : decode cX9_place 31 = .ok (.bipush (-4), 2) := by decide +kernel
theorem dX9_place_33 : decode cX9_place 33 = .ok (.goto 18, 3) := by decide +kernel
theorem dX9_place_36 : decode cX9_place 36 = .ok (.iload_n 2, 1) := by decide +kernel
theorem dX9_place_37 : decode cX9_place 37 = .ok (.ifCond .ne 10, 3) := by decide +kernel
theorem dX9_place_40 : decode cX9_place 40 = .ok (.aload_n 0, 1) := by decide +kernel
theorem dX9_place_41 : decode cX9_place 41 = .ok (.getfield 236, 3) := by decide +kernel
theorem dX9_place_44 : decode cX9_place 44 = .ok (.goto 7, 3) := by decide +kernel
theorem dX9_place_47 : decode cX9_place 47 = .ok (.aload_n 0, 1) := by decide +kernel
theorem dX9_place_48 : decode cX9_place 48 = .ok (.getfield 240, 3) := by decide +kernel
theorem dX9_place_51 : decode cX9_place 51 = .ok (.ireturn, 1) := by decide +kernel
set_option maxRecDepth 20000 in
theorem ggX9_never_X9_findPlace : GoodIn wsX9_never wsX9_findPlace := goodIn_r _ [7, 2, 8, 9, 10, 11, 12, 13, 14, 15, 6, 16, 17, 18, 19, 20, 21, 22, 23, 24, 25, 26, 27, 28, 29, 30, 31, 32, 33, 34, 35, 1, 36, 37, 38, 39, 40, 41, 42, 43, 44, 45, 46, 47, 48, 49, 50, 51, 52, 53, 54, 55, 56, 57, 58, 59, 63, 64, 65, 66, 67, 68, 69, 70, 71, 72, 73, 74, 75, 76, 77, 78, 79, 80, 81, 82, 83, 84, 85, 86, 87, 88, 89, 90, 91, 92, 93, 94, 95, 96, 97, 98, 99] (by decide +kernel) (by decide +kernel)
set_option maxRecDepth 20000 in
theorem gX9_never_X9_findPlace : GoodIn wsX9_never (wsV RX9 243 RX9 yX9_findPlace wsX9_findPlace) := goodIn_app (goodIn_of _ (by decide +kernel)) ggX9_never_X9_findPlace
set_option maxRecDepth 20000 in
theorem ggX9_never_X9_flag : GoodIn wsX9_never wsX9_flag := goodIn_r _ [62] (by decide +kernel) (by decide +kernel)
set_option maxRecDepth 20000 in
theorem gX9_never_X9_flag : GoodIn wsX9_never (va_wsS RX9 193 yX9_flag wsX9_flag) := goodIn_app (goodIn_of _ (by decide +kernel)) ggX9_never_X9_flag
theorem dX9_never_0 : decode cX9_never 0 = .ok (.iconst 0, 1) := by decide +kernel
theorem dX9_never_1 : decode cX9_never 1 = .ok (.istore_n 1, 1) := by decide +kernel
theorem dX9_never_2 : decode cX9_never 2 = .ok (.iconst 0, 1) := by decide +kernel
theorem dX9_never_3 : decode cX9_never 3 = .ok (.istore_n 2, 1) := by decide +kernel
theorem dX9_never_4 : decode cX9_never 4 = .ok (.iload_n 2, 1) := by decide +kernel
theorem dX9_never_5 : decode cX9_never 5 = .ok (.aload_n 0, 1) := by decide +kernel
theorem dX9_never_6 : decode cX9_never 6 = .ok (.getfield 84, 3) := by decide +kernel
theorem dX9_never_9 : decode cX9_never 9 = .ok (.if_icmp .ge 36, 3) := by decide +kernel
theorem dX9_never_12 : decode cX9_never 12 = .ok (.aload_n 0, 1) := by decide +kernel
theorem dX9_never_13 : decode cX9_never 13 = .ok (.iload_n 2, 1) := by decide +kernel
theorem dX9_never_14 : decode cX9_never 14 = .ok (.invokevirtual 243, 3) := by decide +kernel
theorem dX9_never_17 : decode cX9_never 17 = .ok (.iload_n 1, 1) := by decide +kernel
theorem dX9_never_18 : decode cX9_never 18 = .ok (.aload_n 0, 1) := by decide +kernel
theorem dX9_never_19 : decode cX9_never 19 = .ok (.getfield 236, 3) := by decide +kernel
theorem dX9_never_22 : decode cX9_never 22 = .ok (.bipush (-4), 2) := by decide +kernel
theorem dX9_never_24 : decode cX9_never 24 = .ok (.if_icmp .ne 7, 3) := by decide +kernel
theorem dX9_never_27 : decode cX9_never 27 = .ok (.iconst 1, 1) := by decide +kernel
theorem dX9_never_28 : decode cX9_never 28 = .ok (.goto 4, 3) := by decide +kernel
theorem dX9_never_31 : decode cX9_never 31 = .ok (.iconst 0, 1) := by decide +kernel
theorem dX9_never_32 : decode cX9_never 32 = .ok (.invokestatic 193, 3) := by decide +kernel
theorem dX9_never_35 : decode cX9_never 35 = .ok (.iload_n 2, 1) := by decide +kernel
theorem dX9_never_36 : decode cX9_never 36 = .ok (.ishl, 1) := by decide +kernel
theorem dX9_never_37 : decode cX9_never 37 = .ok (.ior, 1) := by decide +kernel
theorem dX9_never_38 : decode cX9_never 38 = .ok (.istore_n 1, 1) := by decide +kernel
theorem dX9_never_39 : decode cX9_never 39 = .ok (.iinc 2 1, 3) := by decide +kernel
theorem dX9_never_42 : decode cX9_never 42 = .ok (.goto (-38), 3) := by decide +kernel
theorem dX9_never_45 : decode cX9_never 45 = .ok (.iload_n 1, 1) := by decide +kernel
theorem dX9_never_46 : decode cX9_never 46 = .ok (.ireturn, 1) := by decide +kernel
set_option maxRecDepth 20000 in
theorem ggX9_oats_X9_isParty : GoodIn wsX9_oats wsX9_isParty := goodIn_r _ [7, 8, 9, 10, 6, 11, 60, 61, 62, 63, 64, 65, 66, 67, 68, 69, 70, 71, 72, 73, 74, 75, 76, 77, 78, 79, 80, 81, 82, 83, 84, 85, 86, 87, 88, 89, 90, 91, 92, 93, 94, 95, 96] (by decide +kernel) (by decide +kernel)
set_option maxRecDepth 20000 in
theorem gX9_oats_X9_isParty : GoodIn wsX9_oats (wsV RX9 215 RX9 yX9_isParty wsX9_isParty) := goodIn_app (goodIn_of _ (by decide +kernel)) ggX9_oats_X9_isParty
set_option maxRecDepth 20000 in
theorem ggX9_oats_X9_starts : GoodIn wsX9_oats wsX9_starts := goodIn_r _ [15, 1, 16, 60, 61, 62, 63, 64, 65, 66, 67, 68, 69, 70, 71, 72, 73, 74, 75, 76, 77, 78, 79, 80, 81, 82, 83, 84, 85, 86, 87, 88, 89, 90, 91, 92, 93, 94, 95, 96] (by decide +kernel) (by decide +kernel)
set_option maxRecDepth 20000 in
theorem gX9_oats_X9_starts : GoodIn wsX9_oats (wsV RX9 206 RX9 yX9_starts wsX9_starts) := goodIn_app (goodIn_of _ (by decide +kernel)) ggX9_oats_X9_starts
set_option maxRecDepth 20000 in
theorem ggX9_oats_X9_drives : GoodIn wsX9_oats wsX9_drives := goodIn_r _ [20, 21, 2, 22, 23, 24, 25, 26, 27, 1, 28, 29, 30, 6, 31, 32, 33, 34, 35, 8, 36, 37, 38, 39, 40, 41, 42, 43, 44, 45, 46, 47, 48, 49, 50, 51, 52, 53, 54, 55, 56, 57, 58, 59, 60, 61, 62, 63, 64, 65, 66, 67, 68, 69, 70, 71, 72, 73, 74, 75, 76, 77, 78, 79, 80, 81, 82, 83, 84, 85, 86, 87, 88, 89, 90, 91, 92, 93, 94, 95, 96] (by decide +kernel) (by decide +kernel)
set_option maxRecDepth 20000 in
theorem gX9_oats_X9_drives : GoodIn wsX9_oats (wsV RX9 197 RX9 yX9_drives wsX9_drives) := goodIn_app (goodIn_of _ (by decide +kernel)) ggX9_oats_X9_drives
theorem dX9_oats_0 : decode cX9_oats 0 = .ok (.aload_n 0, 1) := by decide +kernel
theorem dX9_oats_1 : decode cX9_oats 1 = .ok (.iload_n 1, 1) := by decide +kernel
theorem dX9_oats_2 : decode cX9_oats 2 = .ok (.invokevirtual 215, 3) := by decide +kernel
theorem dX9_oats_5 : decode cX9_oats 5 = .ok (.ifCond .ne 5, 3) := by decide +kernel
theorem dX9_oats_8 : decode cX9_oats 8 = .ok (.iconst (-1), 1) := by decide +kernel
theorem dX9_oats_9 : decode cX9_oats 9 = .ok (.ireturn, 1) := by decide +kernel
theorem dX9_oats_10 : decode cX9_oats 10 = .ok (.aload_n 0, 1) := by decide +kernel
theorem dX9_oats_11 : decode cX9_oats 11 = .ok (.invokevirtual 206, 3) := by decide +kernel
theorem dX9_oats_14 : decode cX9_oats 14 = .ok (.iconst 0, 1) := by decide +kernel
theorem dX9_oats_15 : decode cX9_oats 15 = .ok (.istore_n 2, 1) := by decide +kernel
theorem dX9_oats_16 : decode cX9_oats 16 = .ok (.iload_n 2, 1) := by decide +kernel
theorem dX9_oats_17 : decode cX9_oats 17 = .ok (.bipush 99, 2) := by decide +kernel
theorem dX9_oats_19 : decode cX9_oats 19 = .ok (.if_icmp .gt 40, 3) := by decide +kernel
theorem dX9_oats_22 : decode cX9_oats 22 = .ok (.aload_n 0, 1) := by decide +kernel
theorem dX9_oats_23 : decode cX9_oats 23 = .ok (.getfield 13, 3) := by decide +kernel
theorem dX9_oats_26 : decode cX9_oats 26 = .ok (.bipush 24, 2) := by decide +kernel
theorem dX9_oats_28 : decode cX9_oats 28 = .ok (.iconst 5, 1) := by decide +kernel
theorem dX9_oats_29 : decode cX9_oats 29 = .ok (.iload_n 1, 1) := by decide +kernel
theorem dX9_oats_30 : decode cX9_oats 30 = .ok (.imul, 1) := by decide +kernel
theorem dX9_oats_31 : decode cX9_oats 31 = .ok (.iadd, 1) := by decide +kernel
theorem dX9_oats_32 : decode cX9_oats 32 = .ok (.iconst 1, 1) := by decide +kernel
theorem dX9_oats_33 : decode cX9_oats 33 = .ok (.iadd, 1) := by decide +kernel
theorem dX9_oats_34 : decode cX9_oats 34 = .ok (.iload_n 2, 1) := by decide +kernel
theorem dX9_oats_35 : decode cX9_oats 35 = .ok (.iastore, 1) := by decide +kernel
theorem dX9_oats_36 : decode cX9_oats 36 = .ok (.aload_n 0, 1) := by decide +kernel
theorem dX9_oats_37 : decode cX9_oats 37 = .ok (.invokevirtual 197, 3) := by decide +kernel
theorem dX9_oats_40 : decode cX9_oats 40 = .ok (.aload_n 0, 1) := by decide +kernel
theorem dX9_oats_41 : decode cX9_oats 41 = .ok (.getfield 26, 3) := by decide +kernel
theorem dX9_oats_44 : decode cX9_oats 44 = .ok (.iload_n 1, 1) := by decide +kernel
theorem dX9_oats_45 : decode cX9_oats 45 = .ok (.iaload, 1) := by decide +kernel
theorem dX9_oats_46 : decode cX9_oats 46 = .ok (.bipush (-4), 2) := by decide +kernel
theorem dX9_oats_48 : decode cX9_oats 48 = .ok (.if_icmp .eq 5, 3) := by decide +kernel
theorem dX9_oats_51 : decode cX9_oats 51 = .ok (.iload_n 2, 1) := by decide +kernel
theorem dX9_oats_52 : decode cX9_oats 52 = .ok (.ireturn, 1) := by decide +kernel
theorem dX9_oats_53 : decode cX9_oats 53 = .ok (.iinc 2 1, 3) := by decide +kernel
theorem dX9_oats_56 : decode cX9_oats 56 = .ok (.goto (-40), 3) := by decide +kernel
theorem dX9_oats_59 : decode cX9_oats 59 = .ok (.bipush (-4), 2) := by decide +kernel
theorem dX9_oats_61 : decode cX9_oats 61 = .ok (.ireturn, 1) := by decide +kernel
set_option maxRecDepth 20000 in
theorem ggX9_leastOf_X9_starts : GoodIn wsX9_leastOf wsX9_starts := goodIn_r _ [6, 1, 7, 67, 68, 69, 70, 71, 72, 73, 74, 75, 76, 77, 78, 79, 80, 81, 82, 83, 84, 85, 86, 87, 88, 89, 90, 91, 92, 93, 94, 95, 96, 97, 98, 99, 100, 101, 102, 103] (by decide +kernel) (by decide +kernel)
set_option maxRecDepth 20000 in
theorem gX9_leastOf_X9_starts : GoodIn wsX9_leastOf (wsV RX9 206 RX9 yX9_starts wsX9_starts) := goodIn_app (goodIn_of _ (by decide +kernel)) ggX9_leastOf_X9_starts
set_option maxRecDepth 20000 in
theorem ggX9_leastOf_X9_howMany : GoodIn wsX9_leastOf wsX9_howMany := goodIn_r _ [11, 12, 13, 14, 5, 15, 16, 17, 18, 19, 20, 21, 22, 23, 1, 24, 25, 26, 27, 28, 29, 30, 31, 32, 33, 34, 35, 36, 37, 38, 39, 40, 41, 42, 43, 44, 45, 46, 47, 48, 49, 50, 51, 52, 53, 54, 55, 56, 57, 58, 59, 60, 61, 62, 63, 64, 65, 66, 67, 68, 69, 70, 71, 72, 73, 74, 75, 76, 77, 78, 79, 80, 81, 82, 83, 84, 85, 86, 87, 88, 89, 90, 91, 92, 93, 94, 95, 96, 97, 98, 99, 100, 101, 102, 103] (by decide +kernel) (by decide +kernel)
set_option maxRecDepth 20000 in
theorem gX9_leastOf_X9_howMany : GoodIn wsX9_leastOf (wsV RX9 233 RX9 yX9_howMany wsX9_howMany) := goodIn_app (goodIn_of _ (by decide +kernel)) ggX9_leastOf_X9_howMany
theorem dX9_leastOf_0 : decode cX9_leastOf 0 = .ok (.aload_n 0, 1) := by decide +kernel
theorem dX9_leastOf_1 : decode cX9_leastOf 1 = .ok (.invokevirtual 206, 3) := by decide +kernel
theorem dX9_leastOf_4 : decode cX9_leastOf 4 = .ok (.aload_n 0, 1) := by decide +kernel
theorem dX9_leastOf_5 : decode cX9_leastOf 5 = .ok (.getfield 13, 3) := by decide +kernel
theorem dX9_leastOf_8 : decode cX9_leastOf 8 = .ok (.iload_n 1, 1) := by decide +kernel
theorem dX9_leastOf_9 : decode cX9_leastOf 9 = .ok (.iload_n 3, 1) := by decide +kernel
theorem dX9_leastOf_10 : decode cX9_leastOf 10 = .ok (.iastore, 1) := by decide +kernel
theorem dX9_leastOf_11 : decode cX9_leastOf 11 = .ok (.aload_n 0, 1) := by decide +kernel
theorem dX9_leastOf_12 : decode cX9_leastOf 12 = .ok (.invokevirtual 233, 3) := by decide +kernel
theorem dX9_leastOf_15 : decode cX9_leastOf 15 = .ok (.istore 4, 2) := by decide +kernel
theorem dX9_leastOf_17 : decode cX9_leastOf 17 = .ok (.iload_n 2, 1) := by decide +kernel
theorem dX9_leastOf_18 : decode cX9_leastOf 18 = .ok (.istore 5, 2) := by decide +kernel
theorem dX9_leastOf_20 : decode cX9_leastOf 20 = .ok (.iload 5, 2) := by decide +kernel
theorem dX9_leastOf_22 : decode cX9_leastOf 22 = .ok (.iload_n 3, 1) := by decide +kernel
theorem dX9_leastOf_23 : decode cX9_leastOf 23 = .ok (.if_icmp .ge 29, 3) := by decide +kernel
theorem dX9_leastOf_26 : decode cX9_leastOf 26 = .ok (.aload_n 0, 1) := by decide +kernel
theorem dX9_leastOf_27 : decode cX9_leastOf 27 = .ok (.getfield 13, 3) := by decide +kernel
theorem dX9_leastOf_30 : decode cX9_leastOf 30 = .ok (.iload_n 1, 1) := by decide +kernel
theorem dX9_leastOf_31 : decode cX9_leastOf 31 = .ok (.iload 5, 2) := by decide +kernel
theorem dX9_leastOf_33 : decode cX9_leastOf 33 = .ok (.iastore, 1) := by decide +kernel
theorem dX9_leastOf_34 : decode cX9_leastOf 34 = .ok (.aload_n 0, 1) := by decide +kernel
theorem dX9_leastOf_35 : decode cX9_leastOf 35 = .ok (.invokevirtual 233, 3) := by decide +kernel
theorem dX9_leastOf_38 : decode cX9_leastOf 38 = .ok (.iload 4, 2) := by decide +kernel
theorem dX9_leastOf_40 : decode cX9_leastOf 40 = .ok (.if_icmp .ne 6, 3) := by decide +kernel
theorem dX9_leastOf_43 : decode cX9_leastOf 43 = .ok (.iload 5, 2) := by decide +kernel
theorem dX9_leastOf_45 : decode cX9_leastOf 45 = .ok (.ireturn, 1) := by decide +kernel
theorem dX9_leastOf_46 : decode cX9_leastOf 46 = .ok (.iinc 5 1, 3) := by decide +kernel
theorem dX9_leastOf_49 : decode cX9_leastOf 49 = .ok (.goto (-29), 3) := by decide +kernel
theorem dX9_leastOf_52 : decode cX9_leastOf 52 = .ok (.iload_n 3, 1) := by decide +kernel
theorem dX9_leastOf_53 : decode cX9_leastOf 53 = .ok (.ireturn, 1) := by decide +kernel
set_option maxRecDepth 20000 in
theorem ggX9_room_X9_leastOf : GoodIn wsX9_room wsX9_leastOf := goodIn_r _ [5, 6, 7, 8, 9, 4, 10, 11, 12, 13, 14, 15, 16, 17, 18, 19, 20, 21, 22, 23, 24, 25, 26, 27, 28, 29, 30, 31, 32, 33, 34, 35, 36, 37, 38, 39, 40, 41, 42, 43, 44, 45, 46, 47, 48, 49, 50, 51, 52, 53, 54, 55, 56, 57, 58, 59, 60, 61, 62, 63, 64, 65, 66, 67, 68, 69, 70, 71, 72, 73, 74, 75, 76, 77, 78, 79, 80, 81, 82, 83, 84, 85, 86, 87, 88, 89, 90, 91, 92, 93, 94, 95, 96, 97, 98, 99, 100, 101, 102, 103, 104, 105, 106, 107] (by decide +kernel) (by decide +kernel)
set_option maxRecDepth 20000 in
theorem gX9_room_X9_leastOf : GoodIn wsX9_room (wsV RX9 246 RX9 yX9_leastOf wsX9_leastOf) := goodIn_app (goodIn_of _ (by decide +kernel)) ggX9_room_X9_leastOf
theorem dX9_room_0 : decode cX9_room 0 = .ok (.aload_n 0, 1) := by decide +kernel
theorem dX9_room_1 : decode cX9_room 1 = .ok (.bipush 44, 2) := by decide +kernel
theorem dX9_room_3 : decode cX9_room 3 = .ok (.iconst 1, 1) := by decide +kernel
theorem dX9_room_4 : decode cX9_room 4 = .ok (.iconst 4, 1) := by decide +kernel
theorem dX9_room_5 : decode cX9_room 5 = .ok (.invokevirtual 246, 3) := by decide +kernel
theorem dX9_room_8 : decode cX9_room 8 = .ok (.ireturn, 1) := by decide +kernel
set_option maxRecDepth 20000 in
theorem ggX9_snow_X9_leastOf : GoodIn wsX9_snow wsX9_leastOf := goodIn_r _ [5, 6, 7, 8, 9, 4, 10, 11, 12, 13, 14, 15, 16, 17, 18, 19, 20, 21, 22, 23, 24, 25, 26, 27, 28, 29, 30, 31, 32, 33, 34, 35, 36, 37, 38, 39, 40, 41, 42, 43, 44, 45, 46, 47, 48, 49, 50, 51, 52, 53, 54, 55, 56, 57, 58, 59, 60, 61, 62, 63, 64, 65, 66, 67, 68, 69, 70, 71, 72, 73, 74, 75, 76, 77, 78, 79, 80, 81, 82, 83, 84, 85, 86, 87, 88, 89, 90, 91, 92, 93, 94, 95, 96, 97, 98, 99, 100, 101, 102, 103, 104, 105, 106, 107] (by decide +kernel) (by decide +kernel)
set_option maxRecDepth 20000 in
theorem gX9_snow_X9_leastOf : GoodIn wsX9_snow (wsV RX9 246 RX9 yX9_leastOf wsX9_leastOf) := goodIn_app (goodIn_of _ (by decide +kernel)) ggX9_snow_X9_leastOf
theorem dX9_snow_0 : decode cX9_snow 0 = .ok (.aload_n 0, 1) := by decide +kernel
theorem dX9_snow_1 : decode cX9_snow 1 = .ok (.bipush 45, 2) := by decide +kernel
theorem dX9_snow_3 : decode cX9_snow 3 = .ok (.iconst 0, 1) := by decide +kernel
theorem dX9_snow_4 : decode cX9_snow 4 = .ok (.bipush 99, 2) := by decide +kernel
theorem dX9_snow_6 : decode cX9_snow 6 = .ok (.invokevirtual 246, 3) := by decide +kernel
theorem dX9_snow_9 : decode cX9_snow 9 = .ok (.ireturn, 1) := by decide +kernel
set_option maxRecDepth 20000 in
theorem ggX9_rain_X9_isPart : GoodIn wsX9_rain wsX9_isPart := goodIn_r _ [6, 7, 8, 5, 9] (by decide +kernel) (by decide +kernel)
set_option maxRecDepth 20000 in
theorem gX9_rain_X9_isPart : GoodIn wsX9_rain (va_wsS RX9 220 yX9_isPart wsX9_isPart) := goodIn_app (goodIn_of _ (by decide +kernel)) ggX9_rain_X9_isPart
set_option maxRecDepth 20000 in
theorem ggX9_rain_X9_starts : GoodIn wsX9_rain wsX9_starts := goodIn_r _ [13, 2, 14, 73, 74, 75, 76, 77, 78, 79, 80, 81, 82, 83, 84, 85, 86, 87, 88, 89, 90, 91, 92, 93, 94, 95, 96, 97, 98, 99, 100, 101, 102, 103, 104, 105, 106, 107, 108, 109] (by decide +kernel) (by decide +kernel)
set_option maxRecDepth 20000 in
theorem gX9_rain_X9_starts : GoodIn wsX9_rain (wsV RX9 206 RX9 yX9_starts wsX9_starts) := goodIn_app (goodIn_of _ (by decide +kernel)) ggX9_rain_X9_starts
set_option maxRecDepth 20000 in
theorem ggX9_rain_X9_howMany : GoodIn wsX9_rain wsX9_howMany := goodIn_r _ [18, 19, 20, 21, 5, 22, 23, 24, 25, 26, 27, 28, 29, 1, 2, 30, 31, 32, 33, 34, 35, 36, 37, 38, 39, 40, 41, 42, 43, 44, 45, 46, 47, 48, 49, 50, 51, 52, 53, 54, 55, 56, 57, 58, 59, 60, 61, 62, 63, 64, 65, 66, 67, 68, 69, 70, 71, 72, 73, 74, 75, 76, 77, 78, 79, 80, 81, 82, 83, 84, 85, 86, 87, 88, 89, 90, 91, 92, 93, 94, 95, 96, 97, 98, 99, 100, 101, 102, 103, 104, 105, 106, 107, 108, 109] (by decide +kernel) (by decide +kernel)
set_option maxRecDepth 20000 in
theorem gX9_rain_X9_howMany : GoodIn wsX9_rain (wsV RX9 233 RX9 yX9_howMany wsX9_howMany) := goodIn_app (goodIn_of _ (by decide +kernel)) ggX9_rain_X9_howMany
set_option maxRecDepth 20000 in
theorem ggX9_rain_X9_ofMile : GoodIn wsX9_rain wsX9_ofMile := goodIn_r _ [46, 2, 73, 74, 75, 76, 77, 78, 79, 80, 81, 82, 83, 84, 85, 86, 87, 88, 89, 90, 91, 92, 93, 94, 95, 96, 97, 98, 99, 100, 101, 102, 103, 104, 105, 106, 107, 108, 109] (by decide +kernel) (by decide +kernel)
set_option maxRecDepth 20000 in
theorem gX9_rain_X9_ofMile : GoodIn wsX9_rain (wsV RX9 164 RX9 yX9_ofMile wsX9_ofMile) := goodIn_app (goodIn_of _ (by decide +kernel)) ggX9_rain_X9_ofMile
theorem dX9_rain_0 : decode cX9_rain 0 = .ok (.iload_n 1, 1) := by decide +kernel
theorem dX9_rain_1 : decode cX9_rain 1 = .ok (.invokestatic 220, 3) := by decide +kernel
theorem dX9_rain_4 : decode cX9_rain 4 = .ok (.ifCond .ne 5, 3) := by decide +kernel
theorem dX9_rain_7 : decode cX9_rain 7 = .ok (.iconst (-1), 1) := by decide +kernel
theorem dX9_rain_8 : decode cX9_rain 8 = .ok (.ireturn, 1) := by decide +kernel
theorem dX9_rain_9 : decode cX9_rain 9 = .ok (.aload_n 0, 1) := by decide +kernel
theorem dX9_rain_10 : decode cX9_rain 10 = .ok (.invokevirtual 206, 3) := by decide +kernel
theorem dX9_rain_13 : decode cX9_rain 13 = .ok (.aload_n 0, 1) := by decide +kernel
theorem dX9_rain_14 : decode cX9_rain 14 = .ok (.invokevirtual 233, 3) := by decide +kernel
theorem dX9_rain_17 : decode cX9_rain 17 = .ok (.istore_n 2, 1) := by decide +kernel
theorem dX9_rain_18 : decode cX9_rain 18 = .ok (.bipush (-4), 2) := by decide +kernel
theorem dX9_rain_20 : decode cX9_rain 20 = .ok (.istore_n 3, 1) := by decide +kernel
theorem dX9_rain_21 : decode cX9_rain 21 = .ok (.iconst 0, 1) := by decide +kernel
theorem dX9_rain_22 : decode cX9_rain 22 = .ok (.istore 4, 2) := by decide +kernel
theorem dX9_rain_24 : decode cX9_rain 24 = .ok (.iload 4, 2) := by decide +kernel
theorem dX9_rain_26 : decode cX9_rain 26 = .ok (.aload_n 0, 1) := by decide +kernel
theorem dX9_rain_27 : decode cX9_rain 27 = .ok (.getfield 81, 3) := by decide +kernel
theorem dX9_rain_30 : decode cX9_rain 30 = .ok (.if_icmp .ge 65, 3) := by decide +kernel
theorem dX9_rain_33 : decode cX9_rain 33 = .ok (.aload_n 0, 1) := by decide +kernel
theorem dX9_rain_34 : decode cX9_rain 34 = .ok (.invokevirtual 206, 3) := by decide +kernel
theorem dX9_rain_37 : decode cX9_rain 37 = .ok (.aload_n 0, 1) := by decide +kernel
theorem dX9_rain_38 : decode cX9_rain 38 = .ok (.getfield 13, 3) := by decide +kernel
theorem dX9_rain_41 : decode cX9_rain 41 = .ok (.iconst 3, 1) := by decide +kernel
theorem dX9_rain_42 : decode cX9_rain 42 = .ok (.iload 4, 2) := by decide +kernel
theorem dX9_rain_44 : decode cX9_rain 44 = .ok (.imul, 1) := by decide +kernel
theorem dX9_rain_45 : decode cX9_rain 45 = .ok (.iconst 2, 1) := by decide +kernel
theorem dX9_rain_46 : decode cX9_rain 46 = .ok (.iadd, 1) := by decide +kernel
theorem dX9_rain_47 : decode cX9_rain 47 = .ok (.iconst 1, 1) := by decide +kernel
theorem dX9_rain_48 : decode cX9_rain 48 = .ok (.aload_n 0, 1) := by decide +kernel
theorem dX9_rain_49 : decode cX9_rain 49 = .ok (.iload 4, 2) := by decide +kernel
theorem dX9_rain_51 : decode cX9_rain 51 = .ok (.iconst 2, 1) := by decide +kernel
theorem dX9_rain_52 : decode cX9_rain 52 = .ok (.invokevirtual 164, 3) := by decide +kernel
theorem dX9_rain_55 : decode cX9_rain 55 = .ok (.isub, 1) := by decide +kernel
theorem dX9_rain_56 : decode cX9_rain 56 = .ok (.iastore, 1) := by decide +kernel
theorem dX9_rain_57 : decode cX9_rain 57 = .ok (.aload_n 0, 1) := by decide +kernel
theorem dX9_rain_58 : decode cX9_rain 58 = .ok (.invokevirtual 233, 3) := by decide +kernel
theorem dX9_rain_61 : decode cX9_rain 61 = .ok (.istore 5, 2) := by decide +kernel
theorem dX9_rain_63 : decode cX9_rain 63 = .ok (.iload 5, 2) := by decide +kernel
theorem dX9_rain_65 : decode cX9_rain 65 = .ok (.iload_n 2, 1) := by decide +kernel
theorem dX9_rain_66 : decode cX9_rain 66 = .ok (.if_icmp .le 8, 3) := by decide +kernel
theorem dX9_rain_69 : decode cX9_rain 69 = .ok (.iload 4, 2) := by decide +kernel
theorem dX9_rain_71 : decode cX9_rain 71 = .ok (.goto 4, 3) := by decide +kernel
theorem dX9_rain_74 : decode cX9_rain 74 = .ok (.iload_n 3, 1) := by decide +kernel
theorem dX9_rain_75 : decode cX9_rain 75 = .ok (.istore_n 3, 1) := by decide +kernel
theorem dX9_rain_76 : decode cX9_rain 76 = .ok (.iload 5, 2) := by decide +kernel
theorem dX9_rain_78 : decode cX9_rain 78 = .ok (.iload_n 2, 1) := by decide +kernel
theorem dX9_rain_79 : decode cX9_rain 79 = .ok (.if_icmp .le 8, 3) := by decide +kernel
theorem dX9_rain_82 : decode cX9_rain 82 = .ok (.iload 5, 2) := by decide +kernel
theorem dX9_rain_84 : decode cX9_rain 84 = .ok (.goto 4, 3) := by decide +kernel
theorem dX9_rain_87 : decode cX9_rain 87 = .ok (.iload_n 2, 1) := by decide +kernel
theorem dX9_rain_88 : decode cX9_rain 88 = .ok (.istore_n 2, 1) := by decide +kernel
theorem dX9_rain_89 : decode cX9_rain 89 = .ok (.iinc 4 1, 3) := by decide +kernel
theorem dX9_rain_92 : decode cX9_rain 92 = .ok (.goto (-68), 3) := by decide +kernel
theorem dX9_rain_95 : decode cX9_rain 95 = .ok (.iload_n 3, 1) := by decide +kernel
theorem dX9_rain_96 : decode cX9_rain 96 = .ok (.bipush (-4), 2) := by decide +kernel
theorem dX9_rain_98 : decode cX9_rain 98 = .ok (.if_icmp .ne 8, 3) := by decide +kernel
theorem dX9_rain_101 : decode cX9_rain 101 = .ok (.bipush (-4), 2) := by decide +kernel
theorem dX9_rain_103 : decode cX9_rain 103 = .ok (.goto 12, 3) := by decide +kernel
theorem dX9_rain_106 : decode cX9_rain 106 = .ok (.iload_n 1, 1) := by decide +kernel
theorem dX9_rain_107 : decode cX9_rain 107 = .ok (.ifCond .ne 7, 3) := by decide +kernel
theorem dX9_rain_110 : decode cX9_rain 110 = .ok (.iload_n 3, 1) := by decide +kernel
theorem dX9_rain_111 : decode cX9_rain 111 = .ok (.goto 4, 3) := by decide +kernel
theorem dX9_rain_114 : decode cX9_rain 114 = .ok (.iload_n 2, 1) := by decide +kernel
theorem dX9_rain_115 : decode cX9_rain 115 = .ok (.ireturn, 1) := by decide +kernel
theorem dX9_common_0 : decode cX9_common 0 = .ok (.lload_n 0, 1) := by decide +kernel
theorem dX9_common_1 : decode cX9_common 1 = .ok (.lstore 4, 2) := by decide +kernel
theorem dX9_common_3 : decode cX9_common 3 = .ok (.lload_n 2, 1) := by decide +kernel
theorem dX9_common_4 : decode cX9_common 4 = .ok (.lstore 6, 2) := by decide +kernel
theorem dX9_common_6 : decode cX9_common 6 = .ok (.lload 6, 2) := by decide +kernel
theorem dX9_common_8 : decode cX9_common 8 = .ok (.lconst 0, 1) := by decide +kernel
theorem dX9_common_9 : decode cX9_common 9 = .ok (.lcmp, 1) := by decide +kernel
theorem dX9_common_10 : decode cX9_common 10 = .ok (.ifCond .eq 21, 3) := by decide +kernel
theorem dX9_common_13 : decode cX9_common 13 = .ok (.lload 4, 2) := by decide +kernel
theorem dX9_common_15 : decode cX9_common 15 = .ok (.lload 6, 2) := by decide +kernel
theorem dX9_common_17 : decode cX9_common 17 = .ok (.lrem, 1) := by decide +kernel
theorem dX9_common_18 : decode cX9_common 18 = .ok (.lstore 8, 2) := by decide +kernel
theorem dX9_common_20 : decode cX9_common 20 = .ok (.lload 6, 2) := by decide +kernel
theorem dX9_common_22 : decode cX9_common 22 = .ok (.lstore 4, 2) := by decide +kernel
theorem dX9_common_24 : decode cX9_common 24 = .ok (.lload 8, 2) := by decide +kernel
theorem dX9_common_26 : decode cX9_common 26 = .ok (.lstore 6, 2) := by decide +kernel
theorem dX9_common_28 : decode cX9_common 28 = .ok (.goto (-22), 3) := by decide +kernel
theorem dX9_common_31 : decode cX9_common 31 = .ok (.lload 4, 2) := by decide +kernel
theorem dX9_common_33 : decode cX9_common 33 = .ok (.lreturn, 1) := by decide +kernel
set_option maxRecDepth 20000 in
theorem ggX9_told_X9_common : GoodIn wsX9_told wsX9_common := goodIn_r _ [4] (by decide +kernel) (by decide +kernel)
set_option maxRecDepth 20000 in
theorem gX9_told_X9_common : GoodIn wsX9_told (va_wsS RX9 250 yX9_common wsX9_common) := goodIn_app (goodIn_of _ (by decide +kernel)) ggX9_told_X9_common
theorem dX9_told_0 : decode cX9_told 0 = .ok (.lload_n 2, 1) := by decide +kernel
theorem dX9_told_1 : decode cX9_told 1 = .ok (.lload_n 0, 1) := by decide +kernel
theorem dX9_told_2 : decode cX9_told 2 = .ok (.invokestatic 250, 3) := by decide +kernel
theorem dX9_told_5 : decode cX9_told 5 = .ok (.lstore 5, 2) := by decide +kernel
theorem dX9_told_7 : decode cX9_told 7 = .ok (.iload 4, 2) := by decide +kernel
theorem dX9_told_9 : decode cX9_told 9 = .ok (.ifCond .ne 10, 3) := by decide +kernel
theorem dX9_told_12 : decode cX9_told 12 = .ok (.lload_n 0, 1) := by decide +kernel
theorem dX9_told_13 : decode cX9_told 13 = .ok (.lload 5, 2) := by decide +kernel
theorem dX9_told_15 : decode cX9_told 15 = .ok (.ldiv, 1) := by decide +kernel
theorem dX9_told_16 : decode cX9_told 16 = .ok (.goto 7, 3) := by decide +kernel
theorem dX9_told_19 : decode cX9_told 19 = .ok (.lload_n 2, 1) := by decide +kernel
theorem dX9_told_20 : decode cX9_told 20 = .ok (.lload 5, 2) := by decide +kernel
theorem dX9_told_22 : decode cX9_told 22 = .ok (.ldiv, 1) := by decide +kernel
theorem dX9_told_23 : decode cX9_told 23 = .ok (.lreturn, 1) := by decide +kernel
set_option maxRecDepth 20000 in
theorem ggX9_findOdds_X9_starts : GoodIn wsX9_findOdds wsX9_starts := goodIn_r _ [12, 6, 13, 67, 68, 69, 70, 71, 72, 73, 74, 75, 76, 77, 78, 79, 80, 81, 82, 83, 84, 85, 86, 87, 88, 89, 90, 91, 92, 93, 94, 95, 96, 97, 98, 99, 100, 101, 102, 103] (by decide +kernel) (by decide +kernel)
set_option maxRecDepth 20000 in
theorem gX9_findOdds_X9_starts : GoodIn wsX9_findOdds (wsV RX9 206 RX9 yX9_starts wsX9_starts) := goodIn_app (goodIn_of _ (by decide +kernel)) ggX9_findOdds_X9_starts
set_option maxRecDepth 20000 in
theorem ggX9_findOdds_X9_drives : GoodIn wsX9_findOdds wsX9_drives := goodIn_r _ [17, 18, 7, 19, 20, 21, 22, 23, 4, 6, 24, 25, 26, 11, 27, 28, 29, 30, 31, 32, 33, 34, 35, 36, 37, 38, 39, 40, 41, 42, 43, 44, 45, 46, 47, 48, 49, 50, 51, 52, 53, 54, 55, 56, 67, 68, 69, 70, 71, 72, 73, 74, 75, 76, 77, 78, 79, 80, 81, 82, 83, 84, 85, 86, 87, 88, 89, 90, 91, 92, 93, 94, 95, 96, 97, 98, 99, 100, 101, 102, 103] (by decide +kernel) (by decide +kernel)
set_option maxRecDepth 20000 in
theorem gX9_findOdds_X9_drives : GoodIn wsX9_findOdds (wsV RX9 197 RX9 yX9_drives wsX9_drives) := goodIn_app (goodIn_of _ (by decide +kernel)) ggX9_findOdds_X9_drives
set_option maxRecDepth 20000 in
theorem ggX9_findOdds_X9_verdicts : GoodIn wsX9_findOdds wsX9_verdicts := goodIn_r _ [60, 32, 7, 61, 62, 11, 63, 67, 68, 69, 70, 71, 72, 73, 74, 75, 76, 77, 78, 79, 80, 81, 82, 83, 84, 85, 86, 87, 88, 89, 90, 91, 92, 93, 94, 95, 96, 97, 98, 99, 100, 101, 102, 103] (by decide +kernel) (by decide +kernel)
set_option maxRecDepth 20000 in
theorem gX9_findOdds_X9_verdicts : GoodIn wsX9_findOdds (wsV RX9 200 RX9 yX9_verdicts wsX9_verdicts) := goodIn_app (goodIn_of _ (by decide +kernel)) ggX9_findOdds_X9_verdicts
set_option maxRecDepth 20000 in
theorem ggX9_findOdds_X9_bitsOf : GoodIn wsX9_findOdds wsX9_bitsOf := goodIn_r _ [66] (by decide +kernel) (by decide +kernel)
set_option maxRecDepth 20000 in
theorem gX9_findOdds_X9_bitsOf : GoodIn wsX9_findOdds (va_wsS RX9 203 yX9_bitsOf wsX9_bitsOf) := goodIn_app (goodIn_of _ (by decide +kernel)) ggX9_findOdds_X9_bitsOf
theorem dX9_findOdds_0 : decode cX9_findOdds 0 = .ok (.aload_n 0, 1) := by decide +kernel
theorem dX9_findOdds_1 : decode cX9_findOdds 1 = .ok (.lconst 0, 1) := by decide +kernel
theorem dX9_findOdds_2 : decode cX9_findOdds 2 = .ok (.putfield 254, 3) := by decide +kernel
theorem dX9_findOdds_5 : decode cX9_findOdds 5 = .ok (.aload_n 0, 1) := by decide +kernel
theorem dX9_findOdds_6 : decode cX9_findOdds 6 = .ok (.lconst 0, 1) := by decide +kernel
theorem dX9_findOdds_7 : decode cX9_findOdds 7 = .ok (.putfield 258, 3) := by decide +kernel
theorem dX9_findOdds_10 : decode cX9_findOdds 10 = .ok (.aload_n 0, 1) := by decide +kernel
theorem dX9_findOdds_11 : decode cX9_findOdds 11 = .ok (.lconst 1, 1) := by decide +kernel
theorem dX9_findOdds_12 : decode cX9_findOdds 12 = .ok (.putfield 261, 3) := by decide +kernel
theorem dX9_findOdds_15 : decode cX9_findOdds 15 = .ok (.iconst 0, 1) := by decide +kernel
theorem dX9_findOdds_16 : decode cX9_findOdds 16 = .ok (.istore_n 3, 1) := by decide +kernel
theorem dX9_findOdds_17 : decode cX9_findOdds 17 = .ok (.iload_n 3, 1) := by decide +kernel
theorem dX9_findOdds_18 : decode cX9_findOdds 18 = .ok (.aload_n 0, 1) := by decide +kernel
theorem dX9_findOdds_19 : decode cX9_findOdds 19 = .ok (.getfield 81, 3) := by decide +kernel
theorem dX9_findOdds_22 : decode cX9_findOdds 22 = .ok (.if_icmp .ge 21, 3) := by decide +kernel
theorem dX9_findOdds_25 : decode cX9_findOdds 25 = .ok (.aload_n 0, 1) := by decide +kernel
theorem dX9_findOdds_26 : decode cX9_findOdds 26 = .ok (.dup, 1) := by decide +kernel
theorem dX9_findOdds_27 : decode cX9_findOdds 27 = .ok (.getfield 261, 3) := by decide +kernel
theorem dX9_findOdds_30 : decode cX9_findOdds 30 = .ok (.ldc2_w 264, 3) := by decide +kernel
theorem dX9_findOdds_33 : decode cX9_findOdds 33 = .ok (.lmul, 1) := by decide +kernel
theorem dX9_findOdds_34 : decode cX9_findOdds 34 = .ok (.putfield 261, 3) := by decide +kernel
theorem dX9_findOdds_37 : decode cX9_findOdds 37 = .ok (.iinc 3 1, 3) := by decide +kernel
theorem dX9_findOdds_40 : decode cX9_findOdds 40 = .ok (.goto (-23), 3) := by decide +kernel
theorem dX9_findOdds_43 : decode cX9_findOdds 43 = .ok (.aload_n 0, 1) := by decide +kernel
theorem dX9_findOdds_44 : decode cX9_findOdds 44 = .ok (.invokevirtual 206, 3) := by decide +kernel
theorem dX9_findOdds_47 : decode cX9_findOdds 47 = .ok (.iconst 0, 1) := by decide +kernel
theorem dX9_findOdds_48 : decode cX9_findOdds 48 = .ok (.istore_n 3, 1) := by decide +kernel
theorem dX9_findOdds_49 : decode cX9_findOdds 49 = .ok (.iload_n 3, 1) := by decide +kernel
theorem dX9_findOdds_50 : decode cX9_findOdds 50 = .ok (.iconst 1, 1) := by decide +kernel
theorem dX9_findOdds_51 : decode cX9_findOdds 51 = .ok (.aload_n 0, 1) := by decide +kernel
theorem dX9_findOdds_52 : decode cX9_findOdds 52 = .ok (.getfield 81, 3) := by decide +kernel
theorem dX9_findOdds_55 : decode cX9_findOdds 55 = .ok (.ishl, 1) := by decide +kernel
theorem dX9_findOdds_56 : decode cX9_findOdds 56 = .ok (.if_icmp .ge 122, 3) := by decide +kernel
theorem dX9_findOdds_59 : decode cX9_findOdds 59 = .ok (.lconst 1, 1) := by decide +kernel
theorem dX9_findOdds_60 : decode cX9_findOdds 60 = .ok (.lstore 4, 2) := by decide +kernel
theorem dX9_findOdds_62 : decode cX9_findOdds 62 = .ok (.iconst 0, 1) := by decide +kernel
theorem dX9_findOdds_63 : decode cX9_findOdds 63 = .ok (.istore 6, 2) := by decide +kernel
theorem dX9_findOdds_65 : decode cX9_findOdds 65 = .ok (.iload 6, 2) := by decide +kernel
theorem dX9_findOdds_67 : decode cX9_findOdds 67 = .ok (.aload_n 0, 1) := by decide +kernel
theorem dX9_findOdds_68 : decode cX9_findOdds 68 = .ok (.getfield 81, 3) := by decide +kernel
theorem dX9_findOdds_71 : decode cX9_findOdds 71 = .ok (.if_icmp .ge 51, 3) := by decide +kernel
theorem dX9_findOdds_74 : decode cX9_findOdds 74 = .ok (.aload_n 0, 1) := by decide +kernel
theorem dX9_findOdds_75 : decode cX9_findOdds 75 = .ok (.getfield 13, 3) := by decide +kernel

theorem dX9_init_54 : decode cX9_init 54 = .ok (.newarray .int, 2) := by decide +kernel
theorem dX9_init_56 : decode cX9_init 56 = .ok (.putfield 29, 3) := by decide +kernel
theorem dX9_init_59 : decode cX9_init 59 = .ok (.aload_n 0, 1) := by decide +kernel
theorem dX9_init_60 : decode cX9_init 60 = .ok (.iconst 4, 1) := by decide +kernel
theorem dX9_init_61 : decode cX9_init 61 = .ok (.newarray .int, 2) := by decide +kernel
theorem dX9_init_63 : decode cX9_init 63 = .ok (.putfield 32, 3) := by decide +kernel
theorem dX9_init_66 : decode cX9_init 66 = .ok (.aload_n 0, 1) := by decide +kernel
theorem dX9_init_67 : decode cX9_init 67 = .ok (.iconst 4, 1) := by decide +kernel
theorem dX9_init_68 : decode cX9_init 68 = .ok (.newarray .int, 2) := by decide +kernel
theorem dX9_init_70 : decode cX9_init 70 = .ok (.putfield 35, 3) := by decide +kernel
theorem dX9_init_73 : decode cX9_init 73 = .ok (.aload_n 0, 1) := by decide +kernel
theorem dX9_init_74 : decode cX9_init 74 = .ok (.iconst 4, 1) := by decide +kernel
theorem dX9_init_75 : decode cX9_init 75 = .ok (.newarray .boolean, 2) := by decide +kernel
theorem dX9_init_77 : decode cX9_init 77 = .ok (.putfield 38, 3) := by decide +kernel
theorem dX9_init_80 : decode cX9_init 80 = .ok (.aload_n 0, 1) := by decide +kernel
theorem dX9_init_81 : decode cX9_init 81 = .ok (.bipush 8, 2) := by decide +kernel
theorem dX9_init_83 : decode cX9_init 83 = .ok (.newarray .int, 2) := by decide +kernel
theorem dX9_init_85 : decode cX9_init 85 = .ok (.putfield 41, 3) := by decide +kernel
theorem dX9_init_88 : decode cX9_init 88 = .ok (.aload_n 0, 1) := by decide +kernel
theorem dX9_init_89 : decode cX9_init 89 = .ok (.bipush 36, 2) := by decide +kernel
theorem dX9_init_91 : decode cX9_init 91 = .ok (.newarray .int, 2) := by decide +kernel
theorem dX9_init_93 : decode cX9_init 93 = .ok (.putfield 44, 3) := by decide +kernel
theorem dX9_init_96 : decode cX9_init 96 = .ok (.aload_n 0, 1) := by decide +kernel
theorem dX9_init_97 : decode cX9_init 97 = .ok (.iconst 4, 1) := by decide +kernel
theorem dX9_init_98 : decode cX9_init 98 = .ok (.newarray .int, 2) := by decide +kernel
theorem dX9_init_100 : decode cX9_init 100 = .ok (.putfield 47, 3) := by decide +kernel
theorem dX9_init_103 : decode cX9_init 103 = .ok (.aload_n 0, 1) := by decide +kernel
theorem dX9_init_104 : decode cX9_init 104 = .ok (.iconst 4, 1) := by decide +kernel
theorem dX9_init_105 : decode cX9_init 105 = .ok (.newarray .int, 2) := by decide +kernel
theorem dX9_init_107 : decode cX9_init 107 = .ok (.putfield 50, 3) := by decide +kernel
theorem dX9_init_110 : decode cX9_init 110 = .ok (.aload_n 0, 1) := by decide +kernel
theorem dX9_init_111 : decode cX9_init 111 = .ok (.sipush 160, 3) := by decide +kernel
theorem dX9_init_114 : decode cX9_init 114 = .ok (.newarray .int, 2) := by decide +kernel
theorem dX9_init_116 : decode cX9_init 116 = .ok (.putfield 53, 3) := by decide +kernel
theorem dX9_init_119 : decode cX9_init 119 = .ok (.aload_n 0, 1) := by decide +kernel
theorem dX9_init_120 : decode cX9_init 120 = .ok (.bipush 59, 2) := by decide +kernel
theorem dX9_init_122 : decode cX9_init 122 = .ok (.newarray .int, 2) := by decide +kernel
theorem dX9_init_124 : decode cX9_init 124 = .ok (.putfield 56, 3) := by decide +kernel
theorem dX9_init_127 : decode cX9_init 127 = .ok (.iconst 0, 1) := by decide +kernel
theorem dX9_init_128 : decode cX9_init 128 = .ok (.istore_n 1, 1) := by decide +kernel
theorem dX9_init_129 : decode cX9_init 129 = .ok (.iload_n 1, 1) := by decide +kernel
theorem dX9_init_130 : decode cX9_init 130 = .ok (.iconst 4, 1) := by decide +kernel
theorem dX9_init_131 : decode cX9_init 131 = .ok (.if_icmp .ge 17, 3) := by decide +kernel
theorem dX9_init_134 : decode cX9_init 134 = .ok (.aload_n 0, 1) := by decide +kernel
theorem dX9_init_135 : decode cX9_init 135 = .ok (.getfield 47, 3) := by decide +kernel
theorem dX9_init_138 : decode cX9_init 138 = .ok (.iload_n 1, 1) := by decide +kernel
theorem dX9_init_139 : decode cX9_init 139 = .ok (.bipush (-4), 2) := by decide +kernel
theorem dX9_init_141 : decode cX9_init 141 = .ok (.iastore, 1) := by decide +kernel
theorem dX9_init_142 : decode cX9_init 142 = .ok (.iinc 1 1, 3) := by decide +kernel
theorem dX9_init_145 : decode cX9_init 145 = .ok (.goto (-16), 3) := by decide +kernel
theorem dX9_init_148 : decode cX9_init 148 = .ok (.aload_n 0, 1) := by decide +kernel
theorem dX9_init_149 : decode cX9_init 149 = .ok (.invokevirtual 59, 3) := by decide +kernel
theorem dX9_init_152 : decode cX9_init 152 = .ok (.aload_n 0, 1) := by decide +kernel
theorem dX9_init_153 : decode cX9_init 153 = .ok (.invokevirtual 62, 3) := by decide +kernel
theorem dX9_init_156 : decode cX9_init 156 = .ok (.return_, 1) := by decide +kernel
theorem dX9_in_0 : decode cX9_in 0 = .ok (.lload_n 0, 1) := by decide +kernel
theorem dX9_in_1 : decode cX9_in 1 = .ok (.lload_n 2, 1) := by decide +kernel
theorem dX9_in_2 : decode cX9_in 2 = .ok (.lcmp, 1) := by decide +kernel
theorem dX9_in_3 : decode cX9_in 3 = .ok (.ifCond .lt 14, 3) := by decide +kernel
theorem dX9_in_6 : decode cX9_in 6 = .ok (.lload_n 0, 1) := by decide +kernel
theorem dX9_in_7 : decode cX9_in 7 = .ok (.lload 4, 2) := by decide +kernel
theorem dX9_in_9 : decode cX9_in 9 = .ok (.lcmp, 1) := by decide +kernel
theorem dX9_in_10 : decode cX9_in 10 = .ok (.ifCond .gt 7, 3) := by decide +kernel
theorem dX9_in_13 : decode cX9_in 13 = .ok (.iconst 1, 1) := by decide +kernel
theorem dX9_in_14 : decode cX9_in 14 = .ok (.goto 4, 3) := by decide +kernel
theorem dX9_in_17 : decode cX9_in 17 = .ok (.iconst 0, 1) := by decide +kernel
theorem dX9_in_18 : decode cX9_in 18 = .ok (.ireturn, 1) := by decide +kernel
theorem dX9_flag_0 : decode cX9_flag 0 = .ok (.iload_n 0, 1) := by decide +kernel
theorem dX9_flag_1 : decode cX9_flag 1 = .ok (.ifCond .eq 7, 3) := by decide +kernel
theorem dX9_flag_4 : decode cX9_flag 4 = .ok (.iconst 1, 1) := by decide +kernel
theorem dX9_flag_5 : decode cX9_flag 5 = .ok (.goto 4, 3) := by decide +kernel
theorem dX9_flag_8 : decode cX9_flag 8 = .ok (.iconst 0, 1) := by decide +kernel
theorem dX9_flag_9 : decode cX9_flag 9 = .ok (.ireturn, 1) := by decide +kernel
theorem dX9_firstDraft_0 : decode cX9_firstDraft 0 = .ok (.iconst 0, 1) := by decide +kernel
theorem dX9_firstDraft_1 : decode cX9_firstDraft 1 = .ok (.istore_n 1, 1) := by decide +kernel
theorem dX9_firstDraft_2 : decode cX9_firstDraft 2 = .ok (.iload_n 1, 1) := by decide +kernel
theorem dX9_firstDraft_3 : decode cX9_firstDraft 3 = .ok (.bipush 59, 2) := by decide +kernel
theorem dX9_firstDraft_5 : decode cX9_firstDraft 5 = .ok (.if_icmp .ge 16, 3) := by decide +kernel
theorem dX9_firstDraft_8 : decode cX9_firstDraft 8 = .ok (.aload_n 0, 1) := by decide +kernel
theorem dX9_firstDraft_9 : decode cX9_firstDraft 9 = .ok (.getfield 20, 3) := by decide +kernel
theorem dX9_firstDraft_12 : decode cX9_firstDraft 12 = .ok (.iload_n 1, 1) := by decide +kernel
theorem dX9_firstDraft_13 : decode cX9_firstDraft 13 = .ok (.iconst 0, 1) := by decide +kernel
theorem dX9_firstDraft_14 : decode cX9_firstDraft 14 = .ok (.iastore, 1) := by decide +kernel
theorem dX9_firstDraft_15 : decode cX9_firstDraft 15 = .ok (.iinc 1 1, 3) := by decide +kernel
theorem dX9_firstDraft_18 : decode cX9_firstDraft 18 = .ok (.goto (-16), 3) := by decide +kernel
theorem dX9_firstDraft_21 : decode cX9_firstDraft 21 = .ok (.aload_n 0, 1) := by decide +kernel
theorem dX9_firstDraft_22 : decode cX9_firstDraft 22 = .ok (.getfield 20, 3) := by decide +kernel
theorem dX9_firstDraft_25 : decode cX9_firstDraft 25 = .ok (.bipush 44, 2) := by decide +kernel
theorem dX9_firstDraft_27 : decode cX9_firstDraft 27 = .ok (.iconst 4, 1) := by decide +kernel
theorem dX9_firstDraft_28 : decode cX9_firstDraft 28 = .ok (.iastore, 1) := by decide +kernel
theorem dX9_firstDraft_29 : decode cX9_firstDraft 29 = .ok (.aload_n 0, 1) := by decide +kernel
theorem dX9_firstDraft_30 : decode cX9_firstDraft 30 = .ok (.getfield 20, 3) := by decide +kernel
theorem dX9_firstDraft_33 : decode cX9_firstDraft 33 = .ok (.bipush 45, 2) := by decide +kernel
theorem dX9_firstDraft_35 : decode cX9_firstDraft 35 = .ok (.bipush 99, 2) := by decide +kernel
theorem dX9_firstDraft_37 : decode cX9_firstDraft 37 = .ok (.iastore, 1) := by decide +kernel
theorem dX9_firstDraft_38 : decode cX9_firstDraft 38 = .ok (.aload_n 0, 1) := by decide +kernel
theorem dX9_firstDraft_39 : decode cX9_firstDraft 39 = .ok (.iconst 0, 1) := by decide +kernel
theorem dX9_firstDraft_40 : decode cX9_firstDraft 40 = .ok (.putfield 65, 3) := by decide +kernel
theorem dX9_firstDraft_43 : decode cX9_firstDraft 43 = .ok (.aload_n 0, 1) := by decide +kernel
theorem dX9_firstDraft_44 : decode cX9_firstDraft 44 = .ok (.iconst 0, 1) := by decide +kernel
theorem dX9_firstDraft_45 : decode cX9_firstDraft 45 = .ok (.putfield 69, 3) := by decide +kernel
theorem dX9_firstDraft_48 : decode cX9_firstDraft 48 = .ok (.aload_n 0, 1) := by decide +kernel
theorem dX9_firstDraft_49 : decode cX9_firstDraft 49 = .ok (.iconst 0, 1) := by decide +kernel
theorem dX9_firstDraft_50 : decode cX9_firstDraft 50 = .ok (.putfield 72, 3) := by decide +kernel
theorem dX9_firstDraft_53 : decode cX9_firstDraft 53 = .ok (.aload_n 0, 1) := by decide +kernel
theorem dX9_firstDraft_54 : decode cX9_firstDraft 54 = .ok (.iconst 0, 1) := by decide +kernel
theorem dX9_firstDraft_55 : decode cX9_firstDraft 55 = .ok (.putfield 75, 3) := by decide +kernel
theorem dX9_firstDraft_58 : decode cX9_firstDraft 58 = .ok (.aload_n 0, 1) := by decide +kernel
theorem dX9_firstDraft_59 : decode cX9_firstDraft 59 = .ok (.bipush (-4), 2) := by decide +kernel
theorem dX9_firstDraft_61 : decode cX9_firstDraft 61 = .ok (.putfield 78, 3) := by decide +kernel
theorem dX9_firstDraft_64 : decode cX9_firstDraft 64 = .ok (.return_, 1) := by decide +kernel
theorem dX9_keepDraft_0 : decode cX9_keepDraft 0 = .ok (.iconst 0, 1) := by decide +kernel
theorem dX9_keepDraft_1 : decode cX9_keepDraft 1 = .ok (.istore_n 1, 1) := by decide +kernel
theorem dX9_keepDraft_2 : decode cX9_keepDraft 2 = .ok (.iload_n 1, 1) := by decide +kernel
theorem dX9_keepDraft_3 : decode cX9_keepDraft 3 = .ok (.bipush 59, 2) := by decide +kernel
theorem dX9_keepDraft_5 : decode cX9_keepDraft 5 = .ok (.if_icmp .ge 21, 3) := by decide +kernel
theorem dX9_keepDraft_8 : decode cX9_keepDraft 8 = .ok (.aload_n 0, 1) := by decide +kernel
theorem dX9_keepDraft_9 : decode cX9_keepDraft 9 = .ok (.getfield 7, 3) := by decide +kernel
theorem dX9_keepDraft_12 : decode cX9_keepDraft 12 = .ok (.iload_n 1, 1) := by decide +kernel
theorem dX9_keepDraft_13 : decode cX9_keepDraft 13 = .ok (.aload_n 0, 1) := by decide +kernel
theorem dX9_keepDraft_14 : decode cX9_keepDraft 14 = .ok (.getfield 20, 3) := by decide +kernel
theorem dX9_keepDraft_17 : decode cX9_keepDraft 17 = .ok (.iload_n 1, 1) := by decide +kernel
theorem dX9_keepDraft_18 : decode cX9_keepDraft 18 = .ok (.iaload, 1) := by decide +kernel
theorem dX9_keepDraft_19 : decode cX9_keepDraft 19 = .ok (.iastore, 1) := by decide +kernel
theorem dX9_keepDraft_20 : decode cX9_keepDraft 20 = .ok (.iinc 1 1, 3) := by decide +kernel
theorem dX9_keepDraft_23 : decode cX9_keepDraft 23 = .ok (.goto (-21), 3) := by decide +kernel
theorem dX9_keepDraft_26 : decode cX9_keepDraft 26 = .ok (.aload_n 0, 1) := by decide +kernel
theorem dX9_keepDraft_27 : decode cX9_keepDraft 27 = .ok (.aload_n 0, 1) := by decide +kernel
theorem dX9_keepDraft_28 : decode cX9_keepDraft 28 = .ok (.getfield 65, 3) := by decide +kernel
theorem dX9_keepDraft_31 : decode cX9_keepDraft 31 = .ok (.putfield 81, 3) := by decide +kernel
theorem dX9_keepDraft_34 : decode cX9_keepDraft 34 = .ok (.aload_n 0, 1) := by decide +kernel
theorem dX9_keepDraft_35 : decode cX9_keepDraft 35 = .ok (.aload_n 0, 1) := by decide +kernel
theorem dX9_keepDraft_36 : decode cX9_keepDraft 36 = .ok (.getfield 69, 3) := by decide +kernel
theorem dX9_keepDraft_39 : decode cX9_keepDraft 39 = .ok (.putfield 84, 3) := by decide +kernel
theorem dX9_keepDraft_42 : decode cX9_keepDraft 42 = .ok (.iconst 0, 1) := by decide +kernel
theorem dX9_keepDraft_43 : decode cX9_keepDraft 43 = .ok (.istore_n 1, 1) := by decide +kernel
theorem dX9_keepDraft_44 : decode cX9_keepDraft 44 = .ok (.iload_n 1, 1) := by decide +kernel
theorem dX9_keepDraft_45 : decode cX9_keepDraft 45 = .ok (.aload_n 0, 1) := by decide +kernel
theorem dX9_keepDraft_46 : decode cX9_keepDraft 46 = .ok (.getfield 81, 3) := by decide +kernel
theorem dX9_keepDraft_49 : decode cX9_keepDraft 49 = .ok (.if_icmp .ge 27, 3) := by decide +kernel
theorem dX9_keepDraft_52 : decode cX9_keepDraft 52 = .ok (.aload_n 0, 1) := by decide +kernel
theorem dX9_keepDraft_53 : decode cX9_keepDraft 53 = .ok (.getfield 7, 3) := by decide +kernel
theorem dX9_keepDraft_56 : decode cX9_keepDraft 56 = .ok (.iconst 3, 1) := by decide +kernel
theorem dX9_keepDraft_57 : decode cX9_keepDraft 57 = .ok (.iload_n 1, 1) := by decide +kernel
theorem dX9_keepDraft_58 : decode cX9_keepDraft 58 = .ok (.imul, 1) := by decide +kernel
theorem dX9_keepDraft_59 : decode cX9_keepDraft 59 = .ok (.iconst 2, 1) := by decide +kernel
theorem dX9_keepDraft_60 : decode cX9_keepDraft 60 = .ok (.iadd, 1) := by decide +kernel
theorem dX9_keepDraft_61 : decode cX9_keepDraft 61 = .ok (.aload_n 0, 1) := by decide +kernel
theorem dX9_keepDraft_62 : decode cX9_keepDraft 62 = .ok (.getfield 72, 3) := by decide +kernel
theorem dX9_keepDraft_65 : decode cX9_keepDraft 65 = .ok (.iload_n 1, 1) := by decide +kernel
theorem dX9_keepDraft_66 : decode cX9_keepDraft 66 = .ok (.ishr, 1) := by decide +kernel
theorem dX9_keepDraft_67 : decode cX9_keepDraft 67 = .ok (.iconst 1, 1) := by decide +kernel
theorem dX9_keepDraft_68 : decode cX9_keepDraft 68 = .ok (.iand, 1) := by decide +kernel
theorem dX9_keepDraft_69 : decode cX9_keepDraft 69 = .ok (.iastore, 1) := by decide +kernel
theorem dX9_keepDraft_70 : decode cX9_keepDraft 70 = .ok (.iinc 1 1, 3) := by decide +kernel
theorem dX9_keepDraft_73 : decode cX9_keepDraft 73 = .ok (.goto (-29), 3) := by decide +kernel
theorem dX9_keepDraft_76 : decode cX9_keepDraft 76 = .ok (.aload_n 0, 1) := by decide +kernel
theorem dX9_keepDraft_77 : decode cX9_keepDraft 77 = .ok (.getfield 16, 3) := by decide +kernel
theorem dX9_keepDraft_80 : decode cX9_keepDraft 80 = .ok (.iconst 0, 1) := by decide +kernel
theorem dX9_keepDraft_81 : decode cX9_keepDraft 81 = .ok (.iconst 0, 1) := by decide +kernel
theorem dX9_keepDraft_82 : decode cX9_keepDraft 82 = .ok (.bastore, 1) := by decide +kernel
theorem dX9_keepDraft_83 : decode cX9_keepDraft 83 = .ok (.aload_n 0, 1) := by decide +kernel
theorem dX9_keepDraft_84 : decode cX9_keepDraft 84 = .ok (.getfield 16, 3) := by decide +kernel
theorem dX9_keepDraft_87 : decode cX9_keepDraft 87 = .ok (.iconst 1, 1) := by decide +kernel
theorem dX9_keepDraft_88 : decode cX9_keepDraft 88 = .ok (.iconst 0, 1) := by decide +kernel
theorem dX9_keepDraft_89 : decode cX9_keepDraft 89 = .ok (.bastore, 1) := by decide +kernel
theorem dX9_keepDraft_90 : decode cX9_keepDraft 90 = .ok (.return_, 1) := by decide +kernel
set_option maxRecDepth 20000 in
theorem ggX9_feed_X9_in : GoodIn wsX9_feed wsX9_in := goodIn_r _ [7] (by decide +kernel) (by decide +kernel)
set_option maxRecDepth 20000 in
theorem gX9_feed_X9_in : GoodIn wsX9_feed (va_wsS RX9 89 yX9_in wsX9_in) := goodIn_app (goodIn_of _ (by decide +kernel)) ggX9_feed_X9_in
theorem dX9_feed_0 : decode cX9_feed 0 = .ok (.iload_n 1, 1) := by decide +kernel
theorem dX9_feed_1 : decode cX9_feed 1 = .ok (.i2l, 1) := by decide +kernel
theorem dX9_feed_2 : decode cX9_feed 2 = .ok (.lconst 0, 1) := by decide +kernel
theorem dX9_feed_3 : decode cX9_feed 3 = .ok (.ldc2_w 87, 3) := by decide +kernel
theorem dX9_feed_6 : decode cX9_feed 6 = .ok (.invokestatic 89, 3) := by decide +kernel
theorem dX9_feed_9 : decode cX9_feed 9 = .ok (.ifCond .ne 5, 3) := by decide +kernel
theorem dX9_feed_12 : decode cX9_feed 12 = .ok (.iconst (-1), 1) := by decide +kernel
theorem dX9_feed_13 : decode cX9_feed 13 = .ok (.ireturn, 1) := by decide +kernel
theorem dX9_feed_14 : decode cX9_feed 14 = .ok (.aload_n 0, 1) := by decide +kernel
theorem dX9_feed_15 : decode cX9_feed 15 = .ok (.getfield 93, 3) := by decide +kernel
theorem dX9_feed_18 : decode cX9_feed 18 = .ok (.sipush 160, 3) := by decide +kernel
theorem dX9_feed_21 : decode cX9_feed 21 = .ok (.if_icmp .ne 6, 3) := by decide +kernel
theorem dX9_feed_24 : decode cX9_feed 24 = .ok (.bipush (-3), 2) := by decide +kernel
theorem dX9_feed_26 : decode cX9_feed 26 = .ok (.ireturn, 1) := by decide +kernel
theorem dX9_feed_27 : decode cX9_feed 27 = .ok (.aload_n 0, 1) := by decide +kernel
theorem dX9_feed_28 : decode cX9_feed 28 = .ok (.getfield 23, 3) := by decide +kernel
theorem dX9_feed_31 : decode cX9_feed 31 = .ok (.aload_n 0, 1) := by decide +kernel
theorem dX9_feed_32 : decode cX9_feed 32 = .ok (.getfield 93, 3) := by decide +kernel
theorem dX9_feed_35 : decode cX9_feed 35 = .ok (.iload_n 1, 1) := by decide +kernel
theorem dX9_feed_36 : decode cX9_feed 36 = .ok (.iastore, 1) := by decide +kernel
theorem dX9_feed_37 : decode cX9_feed 37 = .ok (.aload_n 0, 1) := by decide +kernel
theorem dX9_feed_38 : decode cX9_feed 38 = .ok (.dup, 1) := by decide +kernel
theorem dX9_feed_39 : decode cX9_feed 39 = .ok (.getfield 93, 3) := by decide +kernel
theorem dX9_feed_42 : decode cX9_feed 42 = .ok (.iconst 1, 1) := by decide +kernel
theorem dX9_feed_43 : decode cX9_feed 43 = .ok (.iadd, 1) := by decide +kernel
theorem dX9_feed_44 : decode cX9_feed 44 = .ok (.putfield 93, 3) := by decide +kernel
theorem dX9_feed_47 : decode cX9_feed 47 = .ok (.aload_n 0, 1) := by decide +kernel
theorem dX9_feed_48 : decode cX9_feed 48 = .ok (.getfield 93, 3) := by decide +kernel
theorem dX9_feed_51 : decode cX9_feed 51 = .ok (.ireturn, 1) := by decide +kernel
set_option maxRecDepth 20000 in
theorem ggX9_end_X9_in : GoodIn wsX9_end wsX9_in := goodIn_r _ [5] (by decide +kernel) (by decide +kernel)
set_option maxRecDepth 20000 in
theorem gX9_end_X9_in : GoodIn wsX9_end (va_wsS RX9 89 yX9_in wsX9_in) := goodIn_app (goodIn_of _ (by decide +kernel)) ggX9_end_X9_in
theorem dX9_end_0 : decode cX9_end 0 = .ok (.iload_n 1, 1) := by decide +kernel
theorem dX9_end_1 : decode cX9_end 1 = .ok (.i2l, 1) := by decide +kernel
theorem dX9_end_2 : decode cX9_end 2 = .ok (.lconst 0, 1) := by decide +kernel
theorem dX9_end_3 : decode cX9_end 3 = .ok (.aload_n 0, 1) := by decide +kernel
theorem dX9_end_4 : decode cX9_end 4 = .ok (.getfield 93, 3) := by decide +kernel
theorem dX9_end_7 : decode cX9_end 7 = .ok (.i2l, 1) := by decide +kernel
theorem dX9_end_8 : decode cX9_end 8 = .ok (.invokestatic 89, 3) := by decide +kernel
theorem dX9_end_11 : decode cX9_end 11 = .ok (.ifCond .ne 5, 3) := by decide +kernel
theorem dX9_end_14 : decode cX9_end 14 = .ok (.iconst (-1), 1) := by decide +kernel
theorem dX9_end_15 : decode cX9_end 15 = .ok (.ireturn, 1) := by decide +kernel
theorem dX9_end_16 : decode cX9_end 16 = .ok (.aload_n 0, 1) := by decide +kernel
theorem dX9_end_17 : decode cX9_end 17 = .ok (.getfield 93, 3) := by decide +kernel
theorem dX9_end_20 : decode cX9_end 20 = .ok (.istore_n 2, 1) := by decide +kernel
theorem dX9_end_21 : decode cX9_end 21 = .ok (.aload_n 0, 1) := by decide +kernel
theorem dX9_end_22 : decode cX9_end 22 = .ok (.iload_n 1, 1) := by decide +kernel
theorem dX9_end_23 : decode cX9_end 23 = .ok (.putfield 93, 3) := by decide +kernel
theorem dX9_end_26 : decode cX9_end 26 = .ok (.iload_n 2, 1) := by decide +kernel
theorem dX9_end_27 : decode cX9_end 27 = .ok (.ireturn, 1) := by decide +kernel
theorem dX9_needs_0 : decode cX9_needs 0 = .ok (.iload_n 1, 1) := by decide +kernel
theorem dX9_needs_1 : decode cX9_needs 1 = .ok (.ifCond .ne 23, 3) := by decide +kernel
theorem dX9_needs_4 : decode cX9_needs 4 = .ok (.aload_n 0, 1) := by decide +kernel
theorem dX9_needs_5 : decode cX9_needs 5 = .ok (.getfield 96, 3) := by decide +kernel
theorem dX9_needs_8 : decode cX9_needs 8 = .ok (.ifCond .ne 16, 3) := by decide +kernel
theorem dX9_needs_11 : decode cX9_needs 11 = .ok (.aload_n 0, 1) := by decide +kernel
theorem dX9_needs_12 : decode cX9_needs 12 = .ok (.iload_n 2, 1) := by decide +kernel
theorem dX9_needs_13 : decode cX9_needs 13 = .ok (.putfield 96, 3) := by decide +kernel
theorem dX9_needs_16 : decode cX9_needs 16 = .ok (.aload_n 0, 1) := by decide +kernel
theorem dX9_needs_17 : decode cX9_needs 17 = .ok (.aload_n 0, 1) := by decide +kernel
theorem dX9_needs_18 : decode cX9_needs 18 = .ok (.getfield 99, 3) := by decide +kernel
theorem dX9_needs_21 : decode cX9_needs 21 = .ok (.putfield 102, 3) := by decide +kernel
theorem dX9_needs_24 : decode cX9_needs 24 = .ok (.return_, 1) := by decide +kernel
theorem dX9_byteAt_0 : decode cX9_byteAt 0 = .ok (.iload_n 1, 1) := by decide +kernel
theorem dX9_byteAt_1 : decode cX9_byteAt 1 = .ok (.aload_n 0, 1) := by decide +kernel
theorem dX9_byteAt_2 : decode cX9_byteAt 2 = .ok (.getfield 93, 3) := by decide +kernel
theorem dX9_byteAt_5 : decode cX9_byteAt 5 = .ok (.if_icmp .ge 12, 3) := by decide +kernel
theorem dX9_byteAt_8 : decode cX9_byteAt 8 = .ok (.aload_n 0, 1) := by decide +kernel
theorem dX9_byteAt_9 : decode cX9_byteAt 9 = .ok (.getfield 23, 3) := by decide +kernel
theorem dX9_byteAt_12 : decode cX9_byteAt 12 = .ok (.iload_n 1, 1) := by decide +kernel
theorem dX9_byteAt_13 : decode cX9_byteAt 13 = .ok (.iaload, 1) := by decide +kernel
theorem dX9_byteAt_14 : decode cX9_byteAt 14 = .ok (.goto 4, 3) := by decide +kernel
theorem dX9_byteAt_17 : decode cX9_byteAt 17 = .ok (.iconst (-1), 1) := by decide +kernel
theorem dX9_byteAt_18 : decode cX9_byteAt 18 = .ok (.ireturn, 1) := by decide +kernel
set_option maxRecDepth 20000 in
theorem ggX9_is_X9_byteAt : GoodIn wsX9_is wsX9_byteAt := goodIn_r _ [7, 8, 9, 10, 11, 12, 13, 14, 15, 16, 17, 18, 19, 20, 21, 22, 23, 24, 25, 26, 27, 28, 29, 30, 31, 32, 33, 34, 35, 36, 37, 38, 39, 40, 41, 42, 43, 44, 45, 46] (by decide +kernel) (by decide +kernel)
set_option maxRecDepth 20000 in
theorem gX9_is_X9_byteAt : GoodIn wsX9_is (wsV RX9 108 RX9 yX9_byteAt wsX9_byteAt) := goodIn_app (goodIn_of _ (by decide +kernel)) ggX9_is_X9_byteAt
theorem dX9_is_0 : decode cX9_is 0 = .ok (.aload_n 0, 1) := by decide +kernel
theorem dX9_is_1 : decode cX9_is 1 = .ok (.getfield 105, 3) := by decide +kernel
theorem dX9_is_4 : decode cX9_is 4 = .ok (.aload_n 0, 1) := by decide +kernel
theorem dX9_is_5 : decode cX9_is 5 = .ok (.getfield 99, 3) := by decide +kernel
theorem dX9_is_8 : decode cX9_is 8 = .ok (.isub, 1) := by decide +kernel
theorem dX9_is_9 : decode cX9_is 9 = .ok (.iload_n 1, 1) := by decide +kernel
theorem dX9_is_10 : decode cX9_is 10 = .ok (.if_icmp .ne 48, 3) := by decide +kernel
theorem dX9_is_13 : decode cX9_is 13 = .ok (.aload_n 0, 1) := by decide +kernel
theorem dX9_is_14 : decode cX9_is 14 = .ok (.aload_n 0, 1) := by decide +kernel
theorem dX9_is_15 : decode cX9_is 15 = .ok (.getfield 99, 3) := by decide +kernel
theorem dX9_is_18 : decode cX9_is 18 = .ok (.invokevirtual 108, 3) := by decide +kernel
theorem dX9_is_21 : decode cX9_is 21 = .ok (.iload_n 2, 1) := by decide +kernel
theorem dX9_is_22 : decode cX9_is 22 = .ok (.if_icmp .ne 36, 3) := by decide +kernel
theorem dX9_is_25 : decode cX9_is 25 = .ok (.aload_n 0, 1) := by decide +kernel
theorem dX9_is_26 : decode cX9_is 26 = .ok (.aload_n 0, 1) := by decide +kernel
theorem dX9_is_27 : decode cX9_is 27 = .ok (.getfield 99, 3) := by decide +kernel
theorem dX9_is_30 : decode cX9_is 30 = .ok (.iconst 1, 1) := by decide +kernel
theorem dX9_is_31 : decode cX9_is 31 = .ok (.iadd, 1) := by decide +kernel
theorem dX9_is_32 : decode cX9_is 32 = .ok (.invokevirtual 108, 3) := by decide +kernel
theorem dX9_is_35 : decode cX9_is 35 = .ok (.iload_n 3, 1) := by decide +kernel
theorem dX9_is_36 : decode cX9_is 36 = .ok (.if_icmp .ne 22, 3) := by decide +kernel
theorem dX9_is_39 : decode cX9_is 39 = .ok (.aload_n 0, 1) := by decide +kernel
theorem dX9_is_40 : decode cX9_is 40 = .ok (.aload_n 0, 1) := by decide +kernel
theorem dX9_is_41 : decode cX9_is 41 = .ok (.getfield 99, 3) := by decide +kernel
theorem dX9_is_44 : decode cX9_is 44 = .ok (.iconst 2, 1) := by decide +kernel
theorem dX9_is_45 : decode cX9_is 45 = .ok (.iadd, 1) := by decide +kernel
theorem dX9_is_46 : decode cX9_is 46 = .ok (.invokevirtual 108, 3) := by decide +kernel
theorem dX9_is_49 : decode cX9_is 49 = .ok (.iload 4, 2) := by decide +kernel
theorem dX9_is_51 : decode cX9_is 51 = .ok (.if_icmp .ne 7, 3) := by decide +kernel
theorem dX9_is_54 : decode cX9_is 54 = .ok (.iconst 1, 1) := by decide +kernel
theorem dX9_is_55 : decode cX9_is 55 = .ok (.goto 4, 3) := by decide +kernel
theorem dX9_is_58 : decode cX9_is 58 = .ok (.iconst 0, 1) := by decide +kernel
theorem dX9_is_59 : decode cX9_is 59 = .ok (.ireturn, 1) := by decide +kernel
set_option maxRecDepth 20000 in
theorem ggX9_ends_X9_byteAt : GoodIn wsX9_ends wsX9_byteAt := goodIn_r _ [6, 7, 8, 9, 10, 11, 12, 13, 14, 15, 16, 17, 18, 19, 20, 21, 22, 23, 24, 25, 26, 27, 28, 29, 30, 31, 32, 33, 34, 35, 36, 37, 38, 39, 40, 41, 42, 43, 44, 45] (by decide +kernel) (by decide +kernel)
set_option maxRecDepth 20000 in
theorem gX9_ends_X9_byteAt : GoodIn wsX9_ends (wsV RX9 108 RX9 yX9_byteAt wsX9_byteAt) := goodIn_app (goodIn_of _ (by decide +kernel)) ggX9_ends_X9_byteAt
theorem dX9_ends_0 : decode cX9_ends 0 = .ok (.aload_n 0, 1) := by decide +kernel
theorem dX9_ends_1 : decode cX9_ends 1 = .ok (.aload_n 0, 1) := by decide +kernel
theorem dX9_ends_2 : decode cX9_ends 2 = .ok (.getfield 99, 3) := by decide +kernel
theorem dX9_ends_5 : decode cX9_ends 5 = .ok (.iconst 3, 1) := by decide +kernel
theorem dX9_ends_6 : decode cX9_ends 6 = .ok (.iadd, 1) := by decide +kernel
theorem dX9_ends_7 : decode cX9_ends 7 = .ok (.invokevirtual 108, 3) := by decide +kernel
theorem dX9_ends_10 : decode cX9_ends 10 = .ok (.iload_n 1, 1) := by decide +kernel
theorem dX9_ends_11 : decode cX9_ends 11 = .ok (.if_icmp .ne 64, 3) := by decide +kernel
theorem dX9_ends_14 : decode cX9_ends 14 = .ok (.iload_n 2, 1) := by decide +kernel
theorem dX9_ends_15 : decode cX9_ends 15 = .ok (.ifCond .eq 17, 3) := by decide +kernel
theorem dX9_ends_18 : decode cX9_ends 18 = .ok (.aload_n 0, 1) := by decide +kernel
theorem dX9_ends_19 : decode cX9_ends 19 = .ok (.aload_n 0, 1) := by decide +kernel
theorem dX9_ends_20 : decode cX9_ends 20 = .ok (.getfield 99, 3) := by decide +kernel
theorem dX9_ends_23 : decode cX9_ends 23 = .ok (.iconst 4, 1) := by decide +kernel
theorem dX9_ends_24 : decode cX9_ends 24 = .ok (.iadd, 1) := by decide +kernel
theorem dX9_ends_25 : decode cX9_ends 25 = .ok (.invokevirtual 108, 3) := by decide +kernel
theorem dX9_ends_28 : decode cX9_ends 28 = .ok (.iload_n 2, 1) := by decide +kernel
theorem dX9_ends_29 : decode cX9_ends 29 = .ok (.if_icmp .ne 46, 3) := by decide +kernel
theorem dX9_ends_32 : decode cX9_ends 32 = .ok (.iload_n 3, 1) := by decide +kernel
theorem dX9_ends_33 : decode cX9_ends 33 = .ok (.ifCond .eq 17, 3) := by decide +kernel
theorem dX9_ends_36 : decode cX9_ends 36 = .ok (.aload_n 0, 1) := by decide +kernel
theorem dX9_ends_37 : decode cX9_ends 37 = .ok (.aload_n 0, 1) := by decide +kernel
theorem dX9_ends_38 : decode cX9_ends 38 = .ok (.getfield 99, 3) := by decide +kernel
theorem dX9_ends_41 : decode cX9_ends 41 = .ok (.iconst 5, 1) := by decide +kernel
theorem dX9_ends_42 : decode cX9_ends 42 = .ok (.iadd, 1) := by decide +kernel
theorem dX9_ends_43 : decode cX9_ends 43 = .ok (.invokevirtual 108, 3) := by decide +kernel
theorem dX9_ends_46 : decode cX9_ends 46 = .ok (.iload_n 3, 1) := by decide +kernel
theorem dX9_ends_47 : decode cX9_ends 47 = .ok (.if_icmp .ne 28, 3) := by decide +kernel
theorem dX9_ends_50 : decode cX9_ends 50 = .ok (.iload 4, 2) := by decide +kernel
theorem dX9_ends_52 : decode cX9_ends 52 = .ok (.ifCond .eq 19, 3) := by decide +kernel
theorem dX9_ends_55 : decode cX9_ends 55 = .ok (.aload_n 0, 1) := by decide +kernel
theorem dX9_ends_56 : decode cX9_ends 56 = .ok (.aload_n 0, 1) := by decide +kernel
theorem dX9_ends_57 : decode cX9_ends 57 = .ok (.getfield 99, 3) := by decide +kernel
theorem dX9_ends_60 : decode cX9_ends 60 = .ok (.bipush 6, 2) := by decide +kernel
theorem dX9_ends_62 : decode cX9_ends 62 = .ok (.iadd, 1) := by decide +kernel
theorem dX9_ends_63 : decode cX9_ends 63 = .ok (.invokevirtual 108, 3) := by decide +kernel
theorem dX9_ends_66 : decode cX9_ends 66 = .ok (.iload 4, 2) := by decide +kernel
theorem dX9_ends_68 : decode cX9_ends 68 = .ok (.if_icmp .ne 7, 3) := by decide +kernel
theorem dX9_ends_71 : decode cX9_ends 71 = .ok (.iconst 1, 1) := by decide +kernel
theorem dX9_ends_72 : decode cX9_ends 72 = .ok (.goto 4, 3) := by decide +kernel
theorem dX9_ends_75 : decode cX9_ends 75 = .ok (.iconst 0, 1) := by decide +kernel
theorem dX9_ends_76 : decode cX9_ends 76 = .ok (.ireturn, 1) := by decide +kernel
set_option maxRecDepth 20000 in
theorem ggX9_lineNow_X9_is : GoodIn wsX9_lineNow wsX9_is := goodIn_r _ [5, 6, 7, 8, 9, 10, 4, 11, 12, 13, 18, 19, 20, 21, 22, 23, 24, 25, 26, 27, 28, 29, 30, 31, 32, 33, 34, 35, 36, 37, 38, 39, 40, 41, 42, 43, 44, 45, 46, 47, 48, 49, 50, 51, 52, 53, 54] (by decide +kernel) (by decide +kernel)
set_option maxRecDepth 20000 in
theorem gX9_lineNow_X9_is : GoodIn wsX9_lineNow (wsV RX9 112 RX9 yX9_is wsX9_is) := goodIn_app (goodIn_of _ (by decide +kernel)) ggX9_lineNow_X9_is
set_option maxRecDepth 20000 in
theorem ggX9_lineNow_X9_ends : GoodIn wsX9_lineNow wsX9_ends := goodIn_r _ [17, 7, 8, 9, 10, 4, 11, 12, 13, 18, 19, 20, 21, 22, 23, 24, 25, 26, 27, 28, 29, 30, 31, 32, 33, 34, 35, 36, 37, 38, 39, 40, 41, 42, 43, 44, 45, 46, 47, 48, 49, 50, 51, 52, 53, 54] (by decide +kernel) (by decide +kernel)
set_option maxRecDepth 20000 in
theorem gX9_lineNow_X9_ends : GoodIn wsX9_lineNow (wsV RX9 116 RX9 yX9_ends wsX9_ends) := goodIn_app (goodIn_of _ (by decide +kernel)) ggX9_lineNow_X9_ends
theorem dX9_lineNow_0 : decode cX9_lineNow 0 = .ok (.aload_n 0, 1) := by decide +kernel
theorem dX9_lineNow_1 : decode cX9_lineNow 1 = .ok (.iconst 5, 1) := by decide +kernel
theorem dX9_lineNow_2 : decode cX9_lineNow 2 = .ok (.bipush 112, 2) := by decide +kernel
theorem dX9_lineNow_4 : decode cX9_lineNow 4 = .ok (.bipush 108, 2) := by decide +kernel
theorem dX9_lineNow_6 : decode cX9_lineNow 6 = .ok (.bipush 97, 2) := by decide +kernel
theorem dX9_lineNow_8 : decode cX9_lineNow 8 = .ok (.invokevirtual 112, 3) := by decide +kernel
theorem dX9_lineNow_11 : decode cX9_lineNow 11 = .ok (.ifCond .eq 18, 3) := by decide +kernel
theorem dX9_lineNow_14 : decode cX9_lineNow 14 = .ok (.aload_n 0, 1) := by decide +kernel
theorem dX9_lineNow_15 : decode cX9_lineNow 15 = .ok (.bipush 105, 2) := by decide +kernel
theorem dX9_lineNow_17 : decode cX9_lineNow 17 = .ok (.bipush 110, 2) := by decide +kernel
theorem dX9_lineNow_19 : decode cX9_lineNow 19 = .ok (.iconst 0, 1) := by decide +kernel
theorem dX9_lineNow_20 : decode cX9_lineNow 20 = .ok (.iconst 0, 1) := by decide +kernel
theorem dX9_lineNow_21 : decode cX9_lineNow 21 = .ok (.invokevirtual 116, 3) := by decide +kernel
theorem dX9_lineNow_24 : decode cX9_lineNow 24 = .ok (.ifCond .eq 5, 3) := by decide +kernel
theorem dX9_lineNow_27 : decode cX9_lineNow 27 = .ok (.iconst 0, 1) := by decide +kernel
theorem dX9_lineNow_28 : decode cX9_lineNow 28 = .ok (.ireturn, 1) := by decide +kernel
theorem dX9_lineNow_29 : decode cX9_lineNow 29 = .ok (.aload_n 0, 1) := by decide +kernel
theorem dX9_lineNow_30 : decode cX9_lineNow 30 = .ok (.iconst 5, 1) := by decide +kernel
theorem dX9_lineNow_31 : decode cX9_lineNow 31 = .ok (.bipush 114, 2) := by decide +kernel
theorem dX9_lineNow_33 : decode cX9_lineNow 33 = .ok (.bipush 105, 2) := by decide +kernel
theorem dX9_lineNow_35 : decode cX9_lineNow 35 = .ok (.bipush 100, 2) := by decide +kernel
theorem dX9_lineNow_37 : decode cX9_lineNow 37 = .ok (.invokevirtual 112, 3) := by decide +kernel
theorem dX9_lineNow_40 : decode cX9_lineNow 40 = .ok (.ifCond .eq 18, 3) := by decide +kernel
theorem dX9_lineNow_43 : decode cX9_lineNow 43 = .ok (.aload_n 0, 1) := by decide +kernel
theorem dX9_lineNow_44 : decode cX9_lineNow 44 = .ok (.bipush 101, 2) := by decide +kernel
theorem dX9_lineNow_46 : decode cX9_lineNow 46 = .ok (.bipush 114, 2) := by decide +kernel
theorem dX9_lineNow_48 : decode cX9_lineNow 48 = .ok (.iconst 0, 1) := by decide +kernel
theorem dX9_lineNow_49 : decode cX9_lineNow 49 = .ok (.iconst 0, 1) := by decide +kernel
theorem dX9_lineNow_50 : decode cX9_lineNow 50 = .ok (.invokevirtual 116, 3) := by decide +kernel
theorem dX9_lineNow_53 : decode cX9_lineNow 53 = .ok (.ifCond .eq 5, 3) := by decide +kernel
theorem dX9_lineNow_56 : decode cX9_lineNow 56 = .ok (.iconst 1, 1) := by decide +kernel
theorem dX9_lineNow_57 : decode cX9_lineNow 57 = .ok (.ireturn, 1) := by decide +kernel
theorem dX9_lineNow_58 : decode cX9_lineNow 58 = .ok (.aload_n 0, 1) := by decide +kernel
theorem dX9_lineNow_59 : decode cX9_lineNow 59 = .ok (.iconst 4, 1) := by decide +kernel
theorem dX9_lineNow_60 : decode cX9_lineNow 60 = .ok (.bipush 108, 2) := by decide +kernel
theorem dX9_lineNow_62 : decode cX9_lineNow 62 = .ok (.bipush 97, 2) := by decide +kernel
theorem dX9_lineNow_64 : decode cX9_lineNow 64 = .ok (.bipush 109, 2) := by decide +kernel
theorem dX9_lineNow_66 : decode cX9_lineNow 66 = .ok (.invokevirtual 112, 3) := by decide +kernel
theorem dX9_lineNow_69 : decode cX9_lineNow 69 = .ok (.ifCond .eq 17, 3) := by decide +kernel
theorem dX9_lineNow_72 : decode cX9_lineNow 72 = .ok (.aload_n 0, 1) := by decide +kernel
theorem dX9_lineNow_73 : decode cX9_lineNow 73 = .ok (.bipush 101, 2) := by decide +kernel
theorem dX9_lineNow_75 : decode cX9_lineNow 75 = .ok (.iconst 0, 1) := by decide +kernel
theorem dX9_lineNow_76 : decode cX9_lineNow 76 = .ok (.iconst 0, 1) := by decide +kernel
theorem dX9_lineNow_77 : decode cX9_lineNow 77 = .ok (.iconst 0, 1) := by decide +kernel
theorem dX9_lineNow_78 : decode cX9_lineNow 78 = .ok (.invokevirtual 116, 3) := by decide +kernel
theorem dX9_lineNow_81 : decode cX9_lineNow 81 = .ok (.ifCond .eq 5, 3) := by decide +kernel
theorem dX9_lineNow_84 : decode cX9_lineNow 84 = .ok (.iconst 2, 1) := by decide +kernel
theorem dX9_lineNow_85 : decode cX9_lineNow 85 = .ok (.ireturn, 1) := by decide +kernel
theorem dX9_lineNow_86 : decode cX9_lineNow 86 = .ok (.aload_n 0, 1) := by decide +kernel
theorem dX9_lineNow_87 : decode cX9_lineNow 87 = .ok (.bipush 7, 2) := by decide +kernel
theorem dX9_lineNow_89 : decode cX9_lineNow 89 = .ok (.bipush 99, 2) := by decide +kernel
theorem dX9_lineNow_91 : decode cX9_lineNow 91 = .ok (.bipush 111, 2) := by decide +kernel
theorem dX9_lineNow_93 : decode cX9_lineNow 93 = .ok (.bipush 117, 2) := by decide +kernel
theorem dX9_lineNow_95 : decode cX9_lineNow 95 = .ok (.invokevirtual 112, 3) := by decide +kernel
theorem dX9_lineNow_98 : decode cX9_lineNow 98 = .ok (.ifCond .eq 20, 3) := by decide +kernel
theorem dX9_lineNow_101 : decode cX9_lineNow 101 = .ok (.aload_n 0, 1) := by decide +kernel
theorem dX9_lineNow_102 : decode cX9_lineNow 102 = .ok (.bipush 110, 2) := by decide +kernel
theorem dX9_lineNow_104 : decode cX9_lineNow 104 = .ok (.bipush 115, 2) := by decide +kernel
theorem dX9_lineNow_106 : decode cX9_lineNow 106 = .ok (.bipush 101, 2) := by decide +kernel
theorem dX9_lineNow_108 : decode cX9_lineNow 108 = .ok (.bipush 108, 2) := by decide +kernel
theorem dX9_lineNow_110 : decode cX9_lineNow 110 = .ok (.invokevirtual 116, 3) := by decide +kernel
theorem dX9_lineNow_113 : decode cX9_lineNow 113 = .ok (.ifCond .eq 5, 3) := by decide +kernel
theorem dX9_lineNow_116 : decode cX9_lineNow 116 = .ok (.iconst 3, 1) := by decide +kernel
theorem dX9_lineNow_117 : decode cX9_lineNow 117 = .ok (.ireturn, 1) := by decide +kernel
theorem dX9_lineNow_118 : decode cX9_lineNow 118 = .ok (.aload_n 0, 1) := by decide +kernel
theorem dX9_lineNow_119 : decode cX9_lineNow 119 = .ok (.iconst 4, 1) := by decide +kernel
theorem dX9_lineNow_120 : decode cX9_lineNow 120 = .ok (.bipush 109, 2) := by decide +kernel
theorem dX9_lineNow_122 : decode cX9_lineNow 122 = .ok (.bipush 105, 2) := by decide +kernel
theorem dX9_lineNow_124 : decode cX9_lineNow 124 = .ok (.bipush 108, 2) := by decide +kernel
theorem dX9_lineNow_126 : decode cX9_lineNow 126 = .ok (.invokevirtual 112, 3) := by decide +kernel
theorem dX9_lineNow_129 : decode cX9_lineNow 129 = .ok (.ifCond .eq 17, 3) := by decide +kernel
theorem dX9_lineNow_132 : decode cX9_lineNow 132 = .ok (.aload_n 0, 1) := by decide +kernel
theorem dX9_lineNow_133 : decode cX9_lineNow 133 = .ok (.bipush 101, 2) := by decide +kernel
theorem dX9_lineNow_135 : decode cX9_lineNow 135 = .ok (.iconst 0, 1) := by decide +kernel
theorem dX9_lineNow_136 : decode cX9_lineNow 136 = .ok (.iconst 0, 1) := by decide +kernel
theorem dX9_lineNow_137 : decode cX9_lineNow 137 = .ok (.iconst 0, 1) := by decide +kernel
theorem dX9_lineNow_138 : decode cX9_lineNow 138 = .ok (.invokevirtual 116, 3) := by decide +kernel
theorem dX9_lineNow_141 : decode cX9_lineNow 141 = .ok (.ifCond .eq 5, 3) := by decide +kernel
theorem dX9_lineNow_144 : decode cX9_lineNow 144 = .ok (.iconst 4, 1) := by decide +kernel
theorem dX9_lineNow_145 : decode cX9_lineNow 145 = .ok (.ireturn, 1) := by decide +kernel
theorem dX9_lineNow_146 : decode cX9_lineNow 146 = .ok (.aload_n 0, 1) := by decide +kernel
theorem dX9_lineNow_147 : decode cX9_lineNow 147 = .ok (.iconst 3, 1) := by decide +kernel
theorem dX9_lineNow_148 : decode cX9_lineNow 148 = .ok (.bipush 109, 2) := by decide +kernel
theorem dX9_lineNow_150 : decode cX9_lineNow 150 = .ok (.bipush 117, 2) := by decide +kernel
theorem dX9_lineNow_152 : decode cX9_lineNow 152 = .ok (.bipush 100, 2) := by decide +kernel
theorem dX9_lineNow_154 : decode cX9_lineNow 154 = .ok (.invokevirtual 112, 3) := by decide +kernel
theorem dX9_lineNow_157 : decode cX9_lineNow 157 = .ok (.ifCond .eq 5, 3) := by decide +kernel
theorem dX9_lineNow_160 : decode cX9_lineNow 160 = .ok (.iconst 5, 1) := by decide +kernel
theorem dX9_lineNow_161 : decode cX9_lineNow 161 = .ok (.ireturn, 1) := by decide +kernel
theorem dX9_lineNow_162 : decode cX9_lineNow 162 = .ok (.aload_n 0, 1) := by decide +kernel
theorem dX9_lineNow_163 : decode cX9_lineNow 163 = .ok (.iconst 4, 1) := by decide +kernel
theorem dX9_lineNow_164 : decode cX9_lineNow 164 = .ok (.bipush 114, 2) := by decide +kernel
theorem dX9_lineNow_166 : decode cX9_lineNow 166 = .ok (.bipush 111, 2) := by decide +kernel
theorem dX9_lineNow_168 : decode cX9_lineNow 168 = .ok (.bipush 111, 2) := by decide +kernel
theorem dX9_lineNow_170 : decode cX9_lineNow 170 = .ok (.invokevirtual 112, 3) := by decide +kernel
theorem dX9_lineNow_173 : decode cX9_lineNow 173 = .ok (.ifCond .eq 20, 3) := by decide +kernel
theorem dX9_lineNow_176 : decode cX9_lineNow 176 = .ok (.aload_n 0, 1) := by decide +kernel
theorem dX9_lineNow_177 : decode cX9_lineNow 177 = .ok (.bipush 109, 2) := by decide +kernel
theorem dX9_lineNow_179 : decode cX9_lineNow 179 = .ok (.iconst 0, 1) := by decide +kernel
theorem dX9_lineNow_180 : decode cX9_lineNow 180 = .ok (.iconst 0, 1) := by decide +kernel
theorem dX9_lineNow_181 : decode cX9_lineNow 181 = .ok (.iconst 0, 1) := by decide +kernel
theorem dX9_lineNow_182 : decode cX9_lineNow 182 = .ok (.invokevirtual 116, 3) := by decide +kernel
theorem dX9_lineNow_185 : decode cX9_lineNow 185 = .ok (.ifCond .eq 8, 3) := by decide +kernel
theorem dX9_lineNow_188 : decode cX9_lineNow 188 = .ok (.bipush 6, 2) := by decide +kernel
theorem dX9_lineNow_190 : decode cX9_lineNow 190 = .ok (.goto 36, 3) := by decide +kernel
theorem dX9_lineNow_193 : decode cX9_lineNow 193 = .ok (.aload_n 0, 1) := by decide +kernel
theorem dX9_lineNow_194 : decode cX9_lineNow 194 = .ok (.iconst 4, 1) := by decide +kernel
theorem dX9_lineNow_195 : decode cX9_lineNow 195 = .ok (.bipush 115, 2) := by decide +kernel
theorem dX9_lineNow_197 : decode cX9_lineNow 197 = .ok (.bipush 110, 2) := by decide +kernel
theorem dX9_lineNow_199 : decode cX9_lineNow 199 = .ok (.bipush 111, 2) := by decide +kernel
theorem dX9_lineNow_201 : decode cX9_lineNow 201 = .ok (.invokevirtual 112, 3) := by decide +kernel
theorem dX9_lineNow_204 : decode cX9_lineNow 204 = .ok (.ifCond .eq 20, 3) := by decide +kernel
theorem dX9_lineNow_207 : decode cX9_lineNow 207 = .ok (.aload_n 0, 1) := by decide +kernel
theorem dX9_lineNow_208 : decode cX9_lineNow 208 = .ok (.bipush 119, 2) := by decide +kernel
theorem dX9_lineNow_210 : decode cX9_lineNow 210 = .ok (.iconst 0, 1) := by decide +kernel
theorem dX9_lineNow_211 : decode cX9_lineNow 211 = .ok (.iconst 0, 1) := by decide +kernel
theorem dX9_lineNow_212 : decode cX9_lineNow 212 = .ok (.iconst 0, 1) := by decide +kernel
theorem dX9_lineNow_213 : decode cX9_lineNow 213 = .ok (.invokevirtual 116, 3) := by decide +kernel
theorem dX9_lineNow_216 : decode cX9_lineNow 216 = .ok (.ifCond .eq 8, 3) := by decide +kernel
theorem dX9_lineNow_219 : decode cX9_lineNow 219 = .ok (.bipush 7, 2) := by decide +kernel
theorem dX9_lineNow_221 : decode cX9_lineNow 221 = .ok (.goto 5, 3) := by decide +kernel
theorem dX9_lineNow_224 : decode cX9_lineNow 224 = .ok (.bipush (-4), 2) := by decide +kernel
theorem dX9_lineNow_226 : decode cX9_lineNow 226 = .ok (.ireturn, 1) := by decide +kernel
set_option maxRecDepth 20000 in
theorem ggX9_next_X9_byteAt : GoodIn wsX9_next wsX9_byteAt := goodIn_r _ [14, 15, 16, 25, 26, 27, 28, 29, 30, 31, 32, 33, 34, 35, 36, 37, 38, 39, 40, 41, 42, 43, 44, 45, 46, 47, 48, 49, 50, 51, 52, 53, 54, 55, 56, 57, 58, 59, 60, 61] (by decide +kernel) (by decide +kernel)
set_option maxRecDepth 20000 in
theorem gX9_next_X9_byteAt : GoodIn wsX9_next (wsV RX9 108 RX9 yX9_byteAt wsX9_byteAt) := goodIn_app (goodIn_of _ (by decide +kernel)) ggX9_next_X9_byteAt
set_option maxRecDepth 20000 in
theorem ggX9_next_X9_in : GoodIn wsX9_next wsX9_in := goodIn_r _ [19] (by decide +kernel) (by decide +kernel)
set_option maxRecDepth 20000 in
theorem gX9_next_X9_in : GoodIn wsX9_next (va_wsS RX9 89 yX9_in wsX9_in) := goodIn_app (goodIn_of _ (by decide +kernel)) ggX9_next_X9_in
set_option maxRecDepth 20000 in
theorem ggX9_next_X9_needs : GoodIn wsX9_next wsX9_needs := goodIn_r _ [23, 1, 3, 24, 25, 26, 27, 28, 29, 30, 31, 32, 33, 34, 35, 36, 37, 38, 39, 40, 41, 42, 43, 44, 45, 46, 47, 48, 49, 50, 51, 52, 53, 54, 55, 56, 57, 58, 59, 60, 61] (by decide +kernel) (by decide +kernel)
set_option maxRecDepth 20000 in
theorem gX9_next_X9_needs : GoodIn wsX9_next (wsV RX9 133 RX9 yX9_needs wsX9_needs) := goodIn_app (goodIn_of _ (by decide +kernel)) ggX9_next_X9_needs
theorem dX9_next_0 : decode cX9_next 0 = .ok (.aload_n 0, 1) := by decide +kernel
theorem dX9_next_1 : decode cX9_next 1 = .ok (.getfield 96, 3) := by decide +kernel
theorem dX9_next_4 : decode cX9_next 4 = .ok (.ifCond .le 4, 3) := by decide +kernel
theorem dX9_next_7 : decode cX9_next 7 = .ok (.return_, 1) := by decide +kernel
theorem dX9_next_8 : decode cX9_next 8 = .ok (.aload_n 0, 1) := by decide +kernel
theorem dX9_next_9 : decode cX9_next 9 = .ok (.aload_n 0, 1) := by decide +kernel
theorem dX9_next_10 : decode cX9_next 10 = .ok (.getfield 105, 3) := by decide +kernel
theorem dX9_next_13 : decode cX9_next 13 = .ok (.invokevirtual 108, 3) := by decide +kernel
theorem dX9_next_16 : decode cX9_next 16 = .ok (.bipush 32, 2) := by decide +kernel
theorem dX9_next_18 : decode cX9_next 18 = .ok (.if_icmp .ne 16, 3) := by decide +kernel
theorem dX9_next_21 : decode cX9_next 21 = .ok (.aload_n 0, 1) := by decide +kernel
theorem dX9_next_22 : decode cX9_next 22 = .ok (.dup, 1) := by decide +kernel
theorem dX9_next_23 : decode cX9_next 23 = .ok (.getfield 105, 3) := by decide +kernel
theorem dX9_next_26 : decode cX9_next 26 = .ok (.iconst 1, 1) := by decide +kernel
theorem dX9_next_27 : decode cX9_next 27 = .ok (.iadd, 1) := by decide +kernel
theorem dX9_next_28 : decode cX9_next 28 = .ok (.putfield 105, 3) := by decide +kernel
theorem dX9_next_31 : decode cX9_next 31 = .ok (.goto (-23), 3) := by decide +kernel
theorem dX9_next_34 : decode cX9_next 34 = .ok (.aload_n 0, 1) := by decide +kernel
theorem dX9_next_35 : decode cX9_next 35 = .ok (.aload_n 0, 1) := by decide +kernel
theorem dX9_next_36 : decode cX9_next 36 = .ok (.getfield 105, 3) := by decide +kernel
theorem dX9_next_39 : decode cX9_next 39 = .ok (.putfield 99, 3) := by decide +kernel
theorem dX9_next_42 : decode cX9_next 42 = .ok (.aload_n 0, 1) := by decide +kernel
theorem dX9_next_43 : decode cX9_next 43 = .ok (.aload_n 0, 1) := by decide +kernel
theorem dX9_next_44 : decode cX9_next 44 = .ok (.getfield 105, 3) := by decide +kernel
theorem dX9_next_47 : decode cX9_next 47 = .ok (.invokevirtual 108, 3) := by decide +kernel
theorem dX9_next_50 : decode cX9_next 50 = .ok (.istore_n 1, 1) := by decide +kernel
theorem dX9_next_51 : decode cX9_next 51 = .ok (.iload_n 1, 1) := by decide +kernel
theorem dX9_next_52 : decode cX9_next 52 = .ok (.ifCond .ge 11, 3) := by decide +kernel
theorem dX9_next_55 : decode cX9_next 55 = .ok (.aload_n 0, 1) := by decide +kernel
theorem dX9_next_56 : decode cX9_next 56 = .ok (.iconst 0, 1) := by decide +kernel
theorem dX9_next_57 : decode cX9_next 57 = .ok (.putfield 119, 3) := by decide +kernel
theorem dX9_next_60 : decode cX9_next 60 = .ok (.goto 214, 3) := by decide +kernel
theorem dX9_next_63 : decode cX9_next 63 = .ok (.iload_n 1, 1) := by decide +kernel
theorem dX9_next_64 : decode cX9_next 64 = .ok (.i2l, 1) := by decide +kernel
theorem dX9_next_65 : decode cX9_next 65 = .ok (.ldc2_w 122, 3) := by decide +kernel
theorem dX9_next_68 : decode cX9_next 68 = .ok (.ldc2_w 124, 3) := by decide +kernel
theorem dX9_next_71 : decode cX9_next 71 = .ok (.invokestatic 89, 3) := by decide +kernel
theorem dX9_next_74 : decode cX9_next 74 = .ok (.ifCond .eq 42, 3) := by decide +kernel
theorem dX9_next_77 : decode cX9_next 77 = .ok (.aload_n 0, 1) := by decide +kernel
theorem dX9_next_78 : decode cX9_next 78 = .ok (.iconst 1, 1) := by decide +kernel
theorem dX9_next_79 : decode cX9_next 79 = .ok (.putfield 119, 3) := by decide +kernel
theorem dX9_next_82 : decode cX9_next 82 = .ok (.aload_n 0, 1) := by decide +kernel
theorem dX9_next_83 : decode cX9_next 83 = .ok (.aload_n 0, 1) := by decide +kernel
theorem dX9_next_84 : decode cX9_next 84 = .ok (.getfield 105, 3) := by decide +kernel
theorem dX9_next_87 : decode cX9_next 87 = .ok (.invokevirtual 108, 3) := by decide +kernel
theorem dX9_next_90 : decode cX9_next 90 = .ok (.i2l, 1) := by decide +kernel
theorem dX9_next_91 : decode cX9_next 91 = .ok (.ldc2_w 122, 3) := by decide +kernel
theorem dX9_next_94 : decode cX9_next 94 = .ok (.ldc2_w 124, 3) := by decide +kernel
theorem dX9_next_97 : decode cX9_next 97 = .ok (.invokestatic 89, 3) := by decide +kernel
theorem dX9_next_100 : decode cX9_next 100 = .ok (.ifCond .eq 174, 3) := by decide +kernel
theorem dX9_next_103 : decode cX9_next 103 = .ok (.aload_n 0, 1) := by decide +kernel
theorem dX9_next_104 : decode cX9_next 104 = .ok (.dup, 1) := by decide +kernel
theorem dX9_next_105 : decode cX9_next 105 = .ok (.getfield 105, 3) := by decide +kernel
theorem dX9_next_108 : decode cX9_next 108 = .ok (.iconst 1, 1) := by decide +kernel
theorem dX9_next_109 : decode cX9_next 109 = .ok (.iadd, 1) := by decide +kernel
theorem dX9_next_110 : decode cX9_next 110 = .ok (.putfield 105, 3) := by decide +kernel
theorem dX9_next_113 : decode cX9_next 113 = .ok (.goto (-31), 3) := by decide +kernel
theorem dX9_next_116 : decode cX9_next 116 = .ok (.iload_n 1, 1) := by decide +kernel
theorem dX9_next_117 : decode cX9_next 117 = .ok (.i2l, 1) := by decide +kernel
theorem dX9_next_118 : decode cX9_next 118 = .ok (.ldc2_w 126, 3) := by decide +kernel
theorem dX9_next_121 : decode cX9_next 121 = .ok (.ldc2_w 128, 3) := by decide +kernel
theorem dX9_next_124 : decode cX9_next 124 = .ok (.invokestatic 89, 3) := by decide +kernel
theorem dX9_next_127 : decode cX9_next 127 = .ok (.ifCond .eq 116, 3) := by decide +kernel
theorem dX9_next_130 : decode cX9_next 130 = .ok (.aload_n 0, 1) := by decide +kernel
theorem dX9_next_131 : decode cX9_next 131 = .ok (.iconst 2, 1) := by decide +kernel
theorem dX9_next_132 : decode cX9_next 132 = .ok (.putfield 119, 3) := by decide +kernel
theorem dX9_next_135 : decode cX9_next 135 = .ok (.aload_n 0, 1) := by decide +kernel
theorem dX9_next_136 : decode cX9_next 136 = .ok (.iconst 0, 1) := by decide +kernel
theorem dX9_next_137 : decode cX9_next 137 = .ok (.putfield 130, 3) := by decide +kernel
theorem dX9_next_140 : decode cX9_next 140 = .ok (.aload_n 0, 1) := by decide +kernel
theorem dX9_next_141 : decode cX9_next 141 = .ok (.aload_n 0, 1) := by decide +kernel
theorem dX9_next_142 : decode cX9_next 142 = .ok (.getfield 105, 3) := by decide +kernel
theorem dX9_next_145 : decode cX9_next 145 = .ok (.invokevirtual 108, 3) := by decide +kernel
theorem dX9_next_148 : decode cX9_next 148 = .ok (.i2l, 1) := by decide +kernel
theorem dX9_next_149 : decode cX9_next 149 = .ok (.ldc2_w 126, 3) := by decide +kernel
theorem dX9_next_152 : decode cX9_next 152 = .ok (.ldc2_w 128, 3) := by decide +kernel
theorem dX9_next_155 : decode cX9_next 155 = .ok (.invokestatic 89, 3) := by decide +kernel
theorem dX9_next_158 : decode cX9_next 158 = .ok (.ifCond .eq 59, 3) := by decide +kernel
theorem dX9_next_161 : decode cX9_next 161 = .ok (.aload_n 0, 1) := by decide +kernel
theorem dX9_next_162 : decode cX9_next 162 = .ok (.aload_n 0, 1) := by decide +kernel
theorem dX9_next_163 : decode cX9_next 163 = .ok (.getfield 105, 3) := by decide +kernel
theorem dX9_next_166 : decode cX9_next 166 = .ok (.aload_n 0, 1) := by decide +kernel
theorem dX9_next_167 : decode cX9_next 167 = .ok (.getfield 99, 3) := by decide +kernel
theorem dX9_next_170 : decode cX9_next 170 = .ok (.isub, 1) := by decide +kernel
theorem dX9_next_171 : decode cX9_next 171 = .ok (.iconst 2, 1) := by decide +kernel
theorem dX9_next_172 : decode cX9_next 172 = .ok (.if_icmp .ge 25, 3) := by decide +kernel
theorem dX9_next_175 : decode cX9_next 175 = .ok (.bipush 10, 2) := by decide +kernel
theorem dX9_next_177 : decode cX9_next 177 = .ok (.aload_n 0, 1) := by decide +kernel
theorem dX9_next_178 : decode cX9_next 178 = .ok (.getfield 130, 3) := by decide +kernel
theorem dX9_next_181 : decode cX9_next 181 = .ok (.imul, 1) := by decide +kernel
theorem dX9_next_182 : decode cX9_next 182 = .ok (.aload_n 0, 1) := by decide +kernel
theorem dX9_next_183 : decode cX9_next 183 = .ok (.aload_n 0, 1) := by decide +kernel
theorem dX9_next_184 : decode cX9_next 184 = .ok (.getfield 105, 3) := by decide +kernel
theorem dX9_next_187 : decode cX9_next 187 = .ok (.invokevirtual 108, 3) := by decide +kernel
theorem dX9_next_190 : decode cX9_next 190 = .ok (.iadd, 1) := by decide +kernel
theorem dX9_next_191 : decode cX9_next 191 = .ok (.bipush 48, 2) := by decide +kernel
theorem dX9_next_193 : decode cX9_next 193 = .ok (.isub, 1) := by decide +kernel
theorem dX9_next_194 : decode cX9_next 194 = .ok (.goto 7, 3) := by decide +kernel
theorem dX9_next_197 : decode cX9_next 197 = .ok (.aload_n 0, 1) := by decide +kernel
theorem dX9_next_198 : decode cX9_next 198 = .ok (.getfield 130, 3) := by decide +kernel
theorem dX9_next_201 : decode cX9_next 201 = .ok (.putfield 130, 3) := by decide +kernel
theorem dX9_next_204 : decode cX9_next 204 = .ok (.aload_n 0, 1) := by decide +kernel
theorem dX9_next_205 : decode cX9_next 205 = .ok (.dup, 1) := by decide +kernel
theorem dX9_next_206 : decode cX9_next 206 = .ok (.getfield 105, 3) := by decide +kernel
theorem dX9_next_209 : decode cX9_next 209 = .ok (.iconst 1, 1) := by decide +kernel
theorem dX9_next_210 : decode cX9_next 210 = .ok (.iadd, 1) := by decide +kernel
theorem dX9_next_211 : decode cX9_next 211 = .ok (.putfield 105, 3) := by decide +kernel
theorem dX9_next_214 : decode cX9_next 214 = .ok (.goto (-74), 3) := by decide +kernel
theorem dX9_next_217 : decode cX9_next 217 = .ok (.aload_n 0, 1) := by decide +kernel
theorem dX9_next_218 : decode cX9_next 218 = .ok (.aload_n 0, 1) := by decide +kernel
theorem dX9_next_219 : decode cX9_next 219 = .ok (.getfield 105, 3) := by decide +kernel
theorem dX9_next_222 : decode cX9_next 222 = .ok (.aload_n 0, 1) := by decide +kernel
theorem dX9_next_223 : decode cX9_next 223 = .ok (.getfield 99, 3) := by decide +kernel
theorem dX9_next_226 : decode cX9_next 226 = .ok (.isub, 1) := by decide +kernel
theorem dX9_next_227 : decode cX9_next 227 = .ok (.iconst 2, 1) := by decide +kernel
theorem dX9_next_228 : decode cX9_next 228 = .ok (.if_icmp .gt 7, 3) := by decide +kernel
theorem dX9_next_231 : decode cX9_next 231 = .ok (.iconst 1, 1) := by decide +kernel
theorem dX9_next_232 : decode cX9_next 232 = .ok (.goto 4, 3) := by decide +kernel
theorem dX9_next_235 : decode cX9_next 235 = .ok (.iconst 0, 1) := by decide +kernel
theorem dX9_next_236 : decode cX9_next 236 = .ok (.iconst 1, 1) := by decide +kernel
theorem dX9_next_237 : decode cX9_next 237 = .ok (.invokevirtual 133, 3) := by decide +kernel
theorem dX9_next_240 : decode cX9_next 240 = .ok (.goto 34, 3) := by decide +kernel
theorem dX9_next_243 : decode cX9_next 243 = .ok (.aload_n 0, 1) := by decide +kernel
theorem dX9_next_244 : decode cX9_next 244 = .ok (.iconst 3, 1) := by decide +kernel
theorem dX9_next_245 : decode cX9_next 245 = .ok (.putfield 119, 3) := by decide +kernel
theorem dX9_next_248 : decode cX9_next 248 = .ok (.aload_n 0, 1) := by decide +kernel
theorem dX9_next_249 : decode cX9_next 249 = .ok (.iload_n 1, 1) := by decide +kernel
theorem dX9_next_250 : decode cX9_next 250 = .ok (.bipush 59, 2) := by decide +kernel
theorem dX9_next_252 : decode cX9_next 252 = .ok (.if_icmp .ne 7, 3) := by decide +kernel
theorem dX9_next_255 : decode cX9_next 255 = .ok (.iconst 1, 1) := by decide +kernel
theorem dX9_next_256 : decode cX9_next 256 = .ok (.goto 4, 3) := by decide +kernel
theorem dX9_next_259 : decode cX9_next 259 = .ok (.iconst 0, 1) := by decide +kernel
theorem dX9_next_260 : decode cX9_next 260 = .ok (.iconst 1, 1) := by decide +kernel
theorem dX9_next_261 : decode cX9_next 261 = .ok (.invokevirtual 133, 3) := by decide +kernel
theorem dX9_next_264 : decode cX9_next 264 = .ok (.aload_n 0, 1) := by decide +kernel
theorem dX9_next_265 : decode cX9_next 265 = .ok (.dup, 1) := by decide +kernel
theorem dX9_next_266 : decode cX9_next 266 = .ok (.getfield 105, 3) := by decide +kernel
theorem dX9_next_269 : decode cX9_next 269 = .ok (.iconst 1, 1) := by decide +kernel
theorem dX9_next_270 : decode cX9_next 270 = .ok (.iadd, 1) := by decide +kernel
theorem dX9_next_271 : decode cX9_next 271 = .ok (.putfield 105, 3) := by decide +kernel
theorem dX9_next_274 : decode cX9_next 274 = .ok (.return_, 1) := by decide +kernel
set_option maxRecDepth 20000 in
theorem ggX9_looked_X9_needs : GoodIn wsX9_looked wsX9_needs := goodIn_r _ [8, 1, 9, 10, 14, 15, 16, 17, 18, 19, 20, 21, 22, 23, 24, 25, 26, 27, 28, 29, 30, 31, 32, 33, 34, 35, 36, 37, 38, 39, 40, 41, 42, 43, 44, 45, 46, 47, 48, 49, 50] (by decide +kernel) (by decide +kernel)
set_option maxRecDepth 20000 in
theorem gX9_looked_X9_needs : GoodIn wsX9_looked (wsV RX9 133 RX9 yX9_needs wsX9_needs) := goodIn_app (goodIn_of _ (by decide +kernel)) ggX9_looked_X9_needs
set_option maxRecDepth 20000 in
theorem ggX9_looked_X9_in : GoodIn wsX9_looked wsX9_in := goodIn_r _ [13] (by decide +kernel) (by decide +kernel)
set_option maxRecDepth 20000 in
theorem gX9_looked_X9_in : GoodIn wsX9_looked (va_wsS RX9 89 yX9_in wsX9_in) := goodIn_app (goodIn_of _ (by decide +kernel)) ggX9_looked_X9_in
theorem dX9_looked_0 : decode cX9_looked 0 = .ok (.aload_n 0, 1) := by decide +kernel
theorem dX9_looked_1 : decode cX9_looked 1 = .ok (.getfield 96, 3) := by decide +kernel
theorem dX9_looked_4 : decode cX9_looked 4 = .ok (.ifCond .ne 21, 3) := by decide +kernel
theorem dX9_looked_7 : decode cX9_looked 7 = .ok (.aload_n 0, 1) := by decide +kernel
theorem dX9_looked_8 : decode cX9_looked 8 = .ok (.aload_n 0, 1) := by decide +kernel
theorem dX9_looked_9 : decode cX9_looked 9 = .ok (.getfield 119, 3) := by decide +kernel
theorem dX9_looked_12 : decode cX9_looked 12 = .ok (.iconst 2, 1) := by decide +kernel
theorem dX9_looked_13 : decode cX9_looked 13 = .ok (.if_icmp .ne 7, 3) := by decide +kernel
theorem dX9_looked_16 : decode cX9_looked 16 = .ok (.iconst 1, 1) := by decide +kernel
theorem dX9_looked_17 : decode cX9_looked 17 = .ok (.goto 4, 3) := by decide +kernel
theorem dX9_looked_20 : decode cX9_looked 20 = .ok (.iconst 0, 1) := by decide +kernel
theorem dX9_looked_21 : decode cX9_looked 21 = .ok (.iconst 2, 1) := by decide +kernel
theorem dX9_looked_22 : decode cX9_looked 22 = .ok (.invokevirtual 133, 3) := by decide +kernel
theorem dX9_looked_25 : decode cX9_looked 25 = .ok (.aload_n 0, 1) := by decide +kernel
theorem dX9_looked_26 : decode cX9_looked 26 = .ok (.getfield 96, 3) := by decide +kernel
theorem dX9_looked_29 : decode cX9_looked 29 = .ok (.ifCond .ne 20, 3) := by decide +kernel
theorem dX9_looked_32 : decode cX9_looked 32 = .ok (.aload_n 0, 1) := by decide +kernel
theorem dX9_looked_33 : decode cX9_looked 33 = .ok (.aload_n 0, 1) := by decide +kernel
theorem dX9_looked_34 : decode cX9_looked 34 = .ok (.getfield 130, 3) := by decide +kernel
theorem dX9_looked_37 : decode cX9_looked 37 = .ok (.i2l, 1) := by decide +kernel
theorem dX9_looked_38 : decode cX9_looked 38 = .ok (.iload_n 1, 1) := by decide +kernel
theorem dX9_looked_39 : decode cX9_looked 39 = .ok (.i2l, 1) := by decide +kernel
theorem dX9_looked_40 : decode cX9_looked 40 = .ok (.iload_n 2, 1) := by decide +kernel
theorem dX9_looked_41 : decode cX9_looked 41 = .ok (.i2l, 1) := by decide +kernel
theorem dX9_looked_42 : decode cX9_looked 42 = .ok (.invokestatic 89, 3) := by decide +kernel
theorem dX9_looked_45 : decode cX9_looked 45 = .ok (.iconst 3, 1) := by decide +kernel
theorem dX9_looked_46 : decode cX9_looked 46 = .ok (.invokevirtual 133, 3) := by decide +kernel
theorem dX9_looked_49 : decode cX9_looked 49 = .ok (.aload_n 0, 1) := by decide +kernel
theorem dX9_looked_50 : decode cX9_looked 50 = .ok (.getfield 96, 3) := by decide +kernel
theorem dX9_looked_53 : decode cX9_looked 53 = .ok (.ifCond .ne 10, 3) := by decide +kernel
theorem dX9_looked_56 : decode cX9_looked 56 = .ok (.aload_n 0, 1) := by decide +kernel
theorem dX9_looked_57 : decode cX9_looked 57 = .ok (.getfield 130, 3) := by decide +kernel
theorem dX9_looked_60 : decode cX9_looked 60 = .ok (.goto 4, 3) := by decide +kernel
theorem dX9_looked_63 : decode cX9_looked 63 = .ok (.iconst 0, 1) := by decide +kernel
theorem dX9_looked_64 : decode cX9_looked 64 = .ok (.ireturn, 1) := by decide +kernel
set_option maxRecDepth 20000 in
theorem ggX9_readNumber_X9_looked : GoodIn wsX9_readNumber wsX9_looked := goodIn_r _ [5, 6, 7, 8, 9, 10, 11, 4, 12, 13, 14, 15, 16, 17, 33, 34, 35, 36, 37, 38, 39, 40, 41, 42, 43, 44, 45, 46, 47, 48, 49, 50, 51, 52, 53, 54, 55, 56, 57, 58, 59, 60, 61, 62, 63, 64, 65, 66, 67, 68, 69] (by decide +kernel) (by decide +kernel)
set_option maxRecDepth 20000 in
theorem gX9_readNumber_X9_looked : GoodIn wsX9_readNumber (wsV RX9 137 RX9 yX9_looked wsX9_looked) := goodIn_app (goodIn_of _ (by decide +kernel)) ggX9_readNumber_X9_looked
set_option maxRecDepth 20000 in
theorem ggX9_readNumber_X9_next : GoodIn wsX9_readNumber wsX9_next := goodIn_r _ [21, 6, 22, 13, 7, 23, 24, 25, 26, 8, 27, 28, 29, 4, 30, 31, 32, 15, 16, 17, 9, 10, 11, 12, 14, 33, 34, 35, 36, 37, 38, 39, 40, 41, 42, 43, 44, 45, 46, 47, 48, 49, 50, 51, 52, 53, 54, 55, 56, 57, 58, 59, 60, 61, 62, 63, 64, 65, 66, 67, 68, 69] (by decide +kernel) (by decide +kernel)
set_option maxRecDepth 20000 in
theorem gX9_readNumber_X9_next : GoodIn wsX9_readNumber (wsV RX9 141 RX9 yX9_next wsX9_next) := goodIn_app (goodIn_of _ (by decide +kernel)) ggX9_readNumber_X9_next
theorem dX9_readNumber_0 : decode cX9_readNumber 0 = .ok (.aload_n 0, 1) := by decide +kernel
theorem dX9_readNumber_1 : decode cX9_readNumber 1 = .ok (.iload_n 1, 1) := by decide +kernel
theorem dX9_readNumber_2 : decode cX9_readNumber 2 = .ok (.iload_n 2, 1) := by decide +kernel
theorem dX9_readNumber_3 : decode cX9_readNumber 3 = .ok (.invokevirtual 137, 3) := by decide +kernel
theorem dX9_readNumber_6 : decode cX9_readNumber 6 = .ok (.istore_n 3, 1) := by decide +kernel
theorem dX9_readNumber_7 : decode cX9_readNumber 7 = .ok (.aload_n 0, 1) := by decide +kernel
theorem dX9_readNumber_8 : decode cX9_readNumber 8 = .ok (.invokevirtual 141, 3) := by decide +kernel
theorem dX9_readNumber_11 : decode cX9_readNumber 11 = .ok (.iload_n 3, 1) := by decide +kernel
theorem dX9_readNumber_12 : decode cX9_readNumber 12 = .ok (.ireturn, 1) := by decide +kernel
set_option maxRecDepth 20000 in
theorem ggX9_readMud_X9_looked : GoodIn wsX9_readMud wsX9_looked := goodIn_r _ [8, 1, 9, 10, 11, 12, 13, 7, 14, 15, 16, 17, 18, 19, 35, 36, 37, 38, 39, 40, 41, 42, 43, 44, 45, 46, 47, 48, 49, 50, 51, 52, 53, 54, 55, 56, 57, 58, 59, 60, 61, 62, 63, 64, 65, 66, 67, 68, 69, 70, 71] (by decide +kernel) (by decide +kernel)
set_option maxRecDepth 20000 in
theorem gX9_readMud_X9_looked : GoodIn wsX9_readMud (wsV RX9 137 RX9 yX9_looked wsX9_looked) := goodIn_app (goodIn_of _ (by decide +kernel)) ggX9_readMud_X9_looked
set_option maxRecDepth 20000 in
theorem ggX9_readMud_X9_needs : GoodIn wsX9_readMud wsX9_needs := goodIn_r _ [14, 1, 15, 16, 35, 36, 37, 38, 39, 40, 41, 42, 43, 44, 45, 46, 47, 48, 49, 50, 51, 52, 53, 54, 55, 56, 57, 58, 59, 60, 61, 62, 63, 64, 65, 66, 67, 68, 69, 70, 71] (by decide +kernel) (by decide +kernel)
set_option maxRecDepth 20000 in
theorem gX9_readMud_X9_needs : GoodIn wsX9_readMud (wsV RX9 133 RX9 yX9_needs wsX9_needs) := goodIn_app (goodIn_of _ (by decide +kernel)) ggX9_readMud_X9_needs
set_option maxRecDepth 20000 in
theorem ggX9_readMud_X9_next : GoodIn wsX9_readMud wsX9_next := goodIn_r _ [23, 1, 24, 15, 9, 25, 26, 27, 28, 10, 29, 30, 31, 7, 32, 33, 34, 17, 18, 19, 11, 12, 13, 14, 16, 35, 36, 37, 38, 39, 40, 41, 42, 43, 44, 45, 46, 47, 48, 49, 50, 51, 52, 53, 54, 55, 56, 57, 58, 59, 60, 61, 62, 63, 64, 65, 66, 67, 68, 69, 70, 71] (by decide +kernel) (by decide +kernel)
set_option maxRecDepth 20000 in
theorem gX9_readMud_X9_next : GoodIn wsX9_readMud (wsV RX9 141 RX9 yX9_next wsX9_next) := goodIn_app (goodIn_of _ (by decide +kernel)) ggX9_readMud_X9_next
theorem dX9_readMud_0 : decode cX9_readMud 0 = .ok (.aload_n 0, 1) := by decide +kernel
theorem dX9_readMud_1 : decode cX9_readMud 1 = .ok (.iconst 0, 1) := by decide +kernel
theorem dX9_readMud_2 : decode cX9_readMud 2 = .ok (.bipush 7, 2) := by decide +kernel
theorem dX9_readMud_4 : decode cX9_readMud 4 = .ok (.invokevirtual 137, 3) := by decide +kernel
theorem dX9_readMud_7 : decode cX9_readMud 7 = .ok (.istore_n 1, 1) := by decide +kernel
theorem dX9_readMud_8 : decode cX9_readMud 8 = .ok (.aload_n 0, 1) := by decide +kernel
theorem dX9_readMud_9 : decode cX9_readMud 9 = .ok (.getfield 96, 3) := by decide +kernel
theorem dX9_readMud_12 : decode cX9_readMud 12 = .ok (.ifCond .ne 56, 3) := by decide +kernel
theorem dX9_readMud_15 : decode cX9_readMud 15 = .ok (.aload_n 0, 1) := by decide +kernel
theorem dX9_readMud_16 : decode cX9_readMud 16 = .ok (.aload_n 0, 1) := by decide +kernel
theorem dX9_readMud_17 : decode cX9_readMud 17 = .ok (.getfield 72, 3) := by decide +kernel
theorem dX9_readMud_20 : decode cX9_readMud 20 = .ok (.iload_n 1, 1) := by decide +kernel
theorem dX9_readMud_21 : decode cX9_readMud 21 = .ok (.ishr, 1) := by decide +kernel
theorem dX9_readMud_22 : decode cX9_readMud 22 = .ok (.iconst 1, 1) := by decide +kernel
theorem dX9_readMud_23 : decode cX9_readMud 23 = .ok (.iand, 1) := by decide +kernel
theorem dX9_readMud_24 : decode cX9_readMud 24 = .ok (.ifCond .ne 7, 3) := by decide +kernel
theorem dX9_readMud_27 : decode cX9_readMud 27 = .ok (.iconst 1, 1) := by decide +kernel
theorem dX9_readMud_28 : decode cX9_readMud 28 = .ok (.goto 4, 3) := by decide +kernel
theorem dX9_readMud_31 : decode cX9_readMud 31 = .ok (.iconst 0, 1) := by decide +kernel
theorem dX9_readMud_32 : decode cX9_readMud 32 = .ok (.iconst 4, 1) := by decide +kernel
theorem dX9_readMud_33 : decode cX9_readMud 33 = .ok (.invokevirtual 133, 3) := by decide +kernel
theorem dX9_readMud_36 : decode cX9_readMud 36 = .ok (.aload_n 0, 1) := by decide +kernel
theorem dX9_readMud_37 : decode cX9_readMud 37 = .ok (.dup, 1) := by decide +kernel
theorem dX9_readMud_38 : decode cX9_readMud 38 = .ok (.getfield 72, 3) := by decide +kernel
theorem dX9_readMud_41 : decode cX9_readMud 41 = .ok (.iconst 1, 1) := by decide +kernel
theorem dX9_readMud_42 : decode cX9_readMud 42 = .ok (.iload_n 1, 1) := by decide +kernel
theorem dX9_readMud_43 : decode cX9_readMud 43 = .ok (.ishl, 1) := by decide +kernel
theorem dX9_readMud_44 : decode cX9_readMud 44 = .ok (.ior, 1) := by decide +kernel
theorem dX9_readMud_45 : decode cX9_readMud 45 = .ok (.putfield 72, 3) := by decide +kernel
theorem dX9_readMud_48 : decode cX9_readMud 48 = .ok (.aload_n 0, 1) := by decide +kernel
theorem dX9_readMud_49 : decode cX9_readMud 49 = .ok (.iload_n 1, 1) := by decide +kernel
theorem dX9_readMud_50 : decode cX9_readMud 50 = .ok (.aload_n 0, 1) := by decide +kernel
theorem dX9_readMud_51 : decode cX9_readMud 51 = .ok (.getfield 78, 3) := by decide +kernel
theorem dX9_readMud_54 : decode cX9_readMud 54 = .ok (.if_icmp .le 7, 3) := by decide +kernel
theorem dX9_readMud_57 : decode cX9_readMud 57 = .ok (.iload_n 1, 1) := by decide +kernel
theorem dX9_readMud_58 : decode cX9_readMud 58 = .ok (.goto 7, 3) := by decide +kernel
theorem dX9_readMud_61 : decode cX9_readMud 61 = .ok (.aload_n 0, 1) := by decide +kernel
theorem dX9_readMud_62 : decode cX9_readMud 62 = .ok (.getfield 78, 3) := by decide +kernel
theorem dX9_readMud_65 : decode cX9_readMud 65 = .ok (.putfield 78, 3) := by decide +kernel
theorem dX9_readMud_68 : decode cX9_readMud 68 = .ok (.aload_n 0, 1) := by decide +kernel
theorem dX9_readMud_69 : decode cX9_readMud 69 = .ok (.invokevirtual 141, 3) := by decide +kernel
theorem dX9_readMud_72 : decode cX9_readMud 72 = .ok (.return_, 1) := by decide +kernel
set_option maxRecDepth 20000 in
theorem ggX9_readParty_X9_readNumber : GoodIn wsX9_readParty wsX9_readNumber := goodIn_r _ [8, 9, 10, 11, 7, 12, 13, 14, 15, 16, 17, 18, 19, 20, 21, 22, 23, 24, 25, 26, 27, 28, 29, 30, 31, 32, 33, 34, 35, 36, 37, 38, 39, 40, 41, 42, 43, 44, 45, 46, 47, 48, 49, 50, 51, 52, 53, 54, 55, 56, 57, 58, 59, 60, 61, 62, 63, 64, 65, 66, 67, 68, 69, 70, 71, 72, 73, 74, 75, 76] (by decide +kernel) (by decide +kernel)
set_option maxRecDepth 20000 in
theorem gX9_readParty_X9_readNumber : GoodIn wsX9_readParty (wsV RX9 144 RX9 yX9_readNumber wsX9_readNumber) := goodIn_app (goodIn_of _ (by decide +kernel)) ggX9_readParty_X9_readNumber
theorem dX9_readParty_0 : decode cX9_readParty 0 = .ok (.bipush 24, 2) := by decide +kernel
theorem dX9_readParty_2 : decode cX9_readParty 2 = .ok (.iconst 5, 1) := by decide +kernel
theorem dX9_readParty_3 : decode cX9_readParty 3 = .ok (.aload_n 0, 1) := by decide +kernel
theorem dX9_readParty_4 : decode cX9_readParty 4 = .ok (.getfield 69, 3) := by decide +kernel
theorem dX9_readParty_7 : decode cX9_readParty 7 = .ok (.imul, 1) := by decide +kernel
theorem dX9_readParty_8 : decode cX9_readParty 8 = .ok (.iadd, 1) := by decide +kernel
theorem dX9_readParty_9 : decode cX9_readParty 9 = .ok (.istore_n 2, 1) := by decide +kernel
theorem dX9_readParty_10 : decode cX9_readParty 10 = .ok (.aload_n 0, 1) := by decide +kernel
theorem dX9_readParty_11 : decode cX9_readParty 11 = .ok (.getfield 20, 3) := by decide +kernel
theorem dX9_readParty_14 : decode cX9_readParty 14 = .ok (.iload_n 2, 1) := by decide +kernel
theorem dX9_readParty_15 : decode cX9_readParty 15 = .ok (.iconst 0, 1) := by decide +kernel
theorem dX9_readParty_16 : decode cX9_readParty 16 = .ok (.iadd, 1) := by decide +kernel
theorem dX9_readParty_17 : decode cX9_readParty 17 = .ok (.iload_n 1, 1) := by decide +kernel
theorem dX9_readParty_18 : decode cX9_readParty 18 = .ok (.iastore, 1) := by decide +kernel
theorem dX9_readParty_19 : decode cX9_readParty 19 = .ok (.aload_n 0, 1) := by decide +kernel
theorem dX9_readParty_20 : decode cX9_readParty 20 = .ok (.getfield 20, 3) := by decide +kernel
theorem dX9_readParty_23 : decode cX9_readParty 23 = .ok (.iload_n 2, 1) := by decide +kernel
theorem dX9_readParty_24 : decode cX9_readParty 24 = .ok (.iconst 1, 1) := by decide +kernel
theorem dX9_readParty_25 : decode cX9_readParty 25 = .ok (.iadd, 1) := by decide +kernel
theorem dX9_readParty_26 : decode cX9_readParty 26 = .ok (.aload_n 0, 1) := by decide +kernel
theorem dX9_readParty_27 : decode cX9_readParty 27 = .ok (.iconst 0, 1) := by decide +kernel
theorem dX9_readParty_28 : decode cX9_readParty 28 = .ok (.bipush 99, 2) := by decide +kernel
theorem dX9_readParty_30 : decode cX9_readParty 30 = .ok (.invokevirtual 144, 3) := by decide +kernel
theorem dX9_readParty_33 : decode cX9_readParty 33 = .ok (.iastore, 1) := by decide +kernel
theorem dX9_readParty_34 : decode cX9_readParty 34 = .ok (.aload_n 0, 1) := by decide +kernel
theorem dX9_readParty_35 : decode cX9_readParty 35 = .ok (.getfield 20, 3) := by decide +kernel
theorem dX9_readParty_38 : decode cX9_readParty 38 = .ok (.iload_n 2, 1) := by decide +kernel
theorem dX9_readParty_39 : decode cX9_readParty 39 = .ok (.iconst 2, 1) := by decide +kernel
theorem dX9_readParty_40 : decode cX9_readParty 40 = .ok (.iadd, 1) := by decide +kernel
theorem dX9_readParty_41 : decode cX9_readParty 41 = .ok (.aload_n 0, 1) := by decide +kernel
theorem dX9_readParty_42 : decode cX9_readParty 42 = .ok (.iconst 1, 1) := by decide +kernel
theorem dX9_readParty_43 : decode cX9_readParty 43 = .ok (.bipush 20, 2) := by decide +kernel
theorem dX9_readParty_45 : decode cX9_readParty 45 = .ok (.invokevirtual 144, 3) := by decide +kernel
theorem dX9_readParty_48 : decode cX9_readParty 48 = .ok (.iastore, 1) := by decide +kernel
theorem dX9_readParty_49 : decode cX9_readParty 49 = .ok (.aload_n 0, 1) := by decide +kernel
theorem dX9_readParty_50 : decode cX9_readParty 50 = .ok (.getfield 20, 3) := by decide +kernel
theorem dX9_readParty_53 : decode cX9_readParty 53 = .ok (.iload_n 2, 1) := by decide +kernel
theorem dX9_readParty_54 : decode cX9_readParty 54 = .ok (.iconst 3, 1) := by decide +kernel
theorem dX9_readParty_55 : decode cX9_readParty 55 = .ok (.iadd, 1) := by decide +kernel
theorem dX9_readParty_56 : decode cX9_readParty 56 = .ok (.aload_n 0, 1) := by decide +kernel
theorem dX9_readParty_57 : decode cX9_readParty 57 = .ok (.iconst 0, 1) := by decide +kernel
theorem dX9_readParty_58 : decode cX9_readParty 58 = .ok (.iconst 3, 1) := by decide +kernel
theorem dX9_readParty_59 : decode cX9_readParty 59 = .ok (.invokevirtual 144, 3) := by decide +kernel
theorem dX9_readParty_62 : decode cX9_readParty 62 = .ok (.iastore, 1) := by decide +kernel
theorem dX9_readParty_63 : decode cX9_readParty 63 = .ok (.aload_n 0, 1) := by decide +kernel
theorem dX9_readParty_64 : decode cX9_readParty 64 = .ok (.getfield 20, 3) := by decide +kernel
theorem dX9_readParty_67 : decode cX9_readParty 67 = .ok (.iload_n 2, 1) := by decide +kernel
theorem dX9_readParty_68 : decode cX9_readParty 68 = .ok (.iconst 4, 1) := by decide +kernel
theorem dX9_readParty_69 : decode cX9_readParty 69 = .ok (.iadd, 1) := by decide +kernel
theorem dX9_readParty_70 : decode cX9_readParty 70 = .ok (.aload_n 0, 1) := by decide +kernel
theorem dX9_readParty_71 : decode cX9_readParty 71 = .ok (.iconst 0, 1) := by decide +kernel
theorem dX9_readParty_72 : decode cX9_readParty 72 = .ok (.bipush 7, 2) := by decide +kernel
theorem dX9_readParty_74 : decode cX9_readParty 74 = .ok (.invokevirtual 144, 3) := by decide +kernel
theorem dX9_readParty_77 : decode cX9_readParty 77 = .ok (.iastore, 1) := by decide +kernel
theorem dX9_readParty_78 : decode cX9_readParty 78 = .ok (.aload_n 0, 1) := by decide +kernel
theorem dX9_readParty_79 : decode cX9_readParty 79 = .ok (.aload_n 0, 1) := by decide +kernel
theorem dX9_readParty_80 : decode cX9_readParty 80 = .ok (.getfield 20, 3) := by decide +kernel
theorem dX9_readParty_83 : decode cX9_readParty 83 = .ok (.iload_n 2, 1) := by decide +kernel
theorem dX9_readParty_84 : decode cX9_readParty 84 = .ok (.iconst 4, 1) := by decide +kernel
theorem dX9_readParty_85 : decode cX9_readParty 85 = .ok (.iadd, 1) := by decide +kernel
theorem dX9_readParty_86 : decode cX9_readParty 86 = .ok (.iaload, 1) := by decide +kernel
theorem dX9_readParty_87 : decode cX9_readParty 87 = .ok (.aload_n 0, 1) := by decide +kernel
theorem dX9_readParty_88 : decode cX9_readParty 88 = .ok (.getfield 78, 3) := by decide +kernel
theorem dX9_readParty_91 : decode cX9_readParty 91 = .ok (.if_icmp .le 14, 3) := by decide +kernel
theorem dX9_readParty_94 : decode cX9_readParty 94 = .ok (.aload_n 0, 1) := by decide +kernel
theorem dX9_readParty_95 : decode cX9_readParty 95 = .ok (.getfield 20, 3) := by decide +kernel
theorem dX9_readParty_98 : decode cX9_readParty 98 = .ok (.iload_n 2, 1) := by decide +kernel
theorem dX9_readParty_99 : decode cX9_readParty 99 = .ok (.iconst 4, 1) := by decide +kernel
theorem dX9_readParty_100 : decode cX9_readParty 100 = .ok (.iadd, 1) := by decide +kernel
theorem dX9_readParty_101 : decode cX9_readParty 101 = .ok (.iaload, 1) := by decide +kernel
theorem dX9_readParty_102 : decode cX9_readParty 102 = .ok (.goto 7, 3) := by decide +kernel
theorem dX9_readParty_105 : decode cX9_readParty 105 = .ok (.aload_n 0, 1) := by decide +kernel
theorem dX9_readParty_106 : decode cX9_readParty 106 = .ok (.getfield 78, 3) := by decide +kernel
theorem dX9_readParty_109 : decode cX9_readParty 109 = .ok (.putfield 78, 3) := by decide +kernel
theorem dX9_readParty_112 : decode cX9_readParty 112 = .ok (.aload_n 0, 1) := by decide +kernel
theorem dX9_readParty_113 : decode cX9_readParty 113 = .ok (.dup, 1) := by decide +kernel
theorem dX9_readParty_114 : decode cX9_readParty 114 = .ok (.getfield 69, 3) := by decide +kernel
theorem dX9_readParty_117 : decode cX9_readParty 117 = .ok (.iconst 1, 1) := by decide +kernel
theorem dX9_readParty_118 : decode cX9_readParty 118 = .ok (.iadd, 1) := by decide +kernel
theorem dX9_readParty_119 : decode cX9_readParty 119 = .ok (.putfield 69, 3) := by decide +kernel
theorem dX9_readParty_122 : decode cX9_readParty 122 = .ok (.return_, 1) := by decide +kernel
set_option maxRecDepth 20000 in
theorem ggX9_readLineOf_X9_readNumber : GoodIn wsX9_readLineOf wsX9_readNumber := goodIn_r _ [7, 8, 9, 10, 6, 11, 12, 13, 14, 15, 16, 17, 18, 19, 20, 21, 22, 23, 24, 25, 26, 27, 28, 29, 30, 31, 32, 33, 34, 35, 36, 37, 38, 50, 51, 52, 53, 54, 55, 56, 57, 58, 59, 60, 61, 62, 63, 64, 65, 66, 67, 68, 69, 70, 71, 72, 73, 74, 75, 76, 77, 78, 79, 80, 81, 82, 83, 84, 85, 86] (by decide +kernel) (by decide +kernel)
set_option maxRecDepth 20000 in
theorem gX9_readLineOf_X9_readNumber : GoodIn wsX9_readLineOf (wsV RX9 144 RX9 yX9_readNumber wsX9_readNumber) := goodIn_app (goodIn_of _ (by decide +kernel)) ggX9_readLineOf_X9_readNumber
set_option maxRecDepth 20000 in
theorem ggX9_readLineOf_X9_readMud : GoodIn wsX9_readLineOf wsX9_readMud := goodIn_r _ [42, 12, 43, 44, 8, 9, 10, 6, 11, 13, 14, 15, 16, 17, 18, 19, 20, 21, 22, 23, 24, 25, 26, 27, 28, 29, 30, 31, 32, 33, 34, 35, 36, 37, 38, 50, 51, 52, 53, 54, 55, 56, 57, 58, 59, 60, 61, 62, 63, 64, 65, 66, 67, 68, 69, 70, 71, 72, 73, 74, 75, 76, 77, 78, 79, 80, 81, 82, 83, 84, 85, 86] (by decide +kernel) (by decide +kernel)
set_option maxRecDepth 20000 in
theorem gX9_readLineOf_X9_readMud : GoodIn wsX9_readLineOf (wsV RX9 147 RX9 yX9_readMud wsX9_readMud) := goodIn_app (goodIn_of _ (by decide +kernel)) ggX9_readLineOf_X9_readMud
set_option maxRecDepth 20000 in
theorem ggX9_readLineOf_X9_readParty : GoodIn wsX9_readLineOf wsX9_readParty := goodIn_r _ [48, 49, 1, 44, 3, 4, 5, 6, 7, 8, 9, 10, 11, 12, 13, 14, 15, 16, 17, 18, 19, 20, 21, 22, 23, 24, 25, 26, 27, 28, 29, 30, 31, 32, 33, 34, 35, 36, 37, 38, 50, 51, 52, 53, 54, 55, 56, 57, 58, 59, 60, 61, 62, 63, 64, 65, 66, 67, 68, 69, 70, 71, 72, 73, 74, 75, 76, 77, 78, 79, 80, 81, 82, 83, 84, 85, 86] (by decide +kernel) (by decide +kernel)
set_option maxRecDepth 20000 in
theorem gX9_readLineOf_X9_readParty : GoodIn wsX9_readLineOf (wsV RX9 150 RX9 yX9_readParty wsX9_readParty) := goodIn_app (goodIn_of _ (by decide +kernel)) ggX9_readLineOf_X9_readParty
theorem dX9_readLineOf_0 : decode cX9_readLineOf 0 = .ok (.iload_n 1, 1) := by decide +kernel
theorem dX9_readLineOf_1 : decode cX9_readLineOf 1 = .ok (.tableswitch 122 4 7 #[31, 82, 89, 105], 31) := by decide +kernel
theorem dX9_readLineOf_32 : decode cX9_readLineOf 32 = .ok (.aload_n 0, 1) := by decide +kernel
theorem dX9_readLineOf_33 : decode cX9_readLineOf 33 = .ok (.getfield 20, 3) := by decide +kernel
theorem dX9_readLineOf_36 : decode cX9_readLineOf 36 = .ok (.iconst 3, 1) := by decide +kernel
theorem dX9_readLineOf_37 : decode cX9_readLineOf 37 = .ok (.aload_n 0, 1) := by decide +kernel
theorem dX9_readLineOf_38 : decode cX9_readLineOf 38 = .ok (.getfield 65, 3) := by decide +kernel
theorem dX9_readLineOf_41 : decode cX9_readLineOf 41 = .ok (.imul, 1) := by decide +kernel
theorem dX9_readLineOf_42 : decode cX9_readLineOf 42 = .ok (.iconst 0, 1) := by decide +kernel
theorem dX9_readLineOf_43 : decode cX9_readLineOf 43 = .ok (.iadd, 1) := by decide +kernel
theorem dX9_readLineOf_44 : decode cX9_readLineOf 44 = .ok (.aload_n 0, 1) := by decide +kernel
theorem dX9_readLineOf_45 : decode cX9_readLineOf 45 = .ok (.iconst 0, 1) := by decide +kernel
theorem dX9_readLineOf_46 : decode cX9_readLineOf 46 = .ok (.iconst 3, 1) := by decide +kernel
theorem dX9_readLineOf_47 : decode cX9_readLineOf 47 = .ok (.invokevirtual 144, 3) := by decide +kernel
theorem dX9_readLineOf_50 : decode cX9_readLineOf 50 = .ok (.iastore, 1) := by decide +kernel
theorem dX9_readLineOf_51 : decode cX9_readLineOf 51 = .ok (.aload_n 0, 1) := by decide +kernel
theorem dX9_readLineOf_52 : decode cX9_readLineOf 52 = .ok (.getfield 20, 3) := by decide +kernel
theorem dX9_readLineOf_55 : decode cX9_readLineOf 55 = .ok (.iconst 3, 1) := by decide +kernel
theorem dX9_readLineOf_56 : decode cX9_readLineOf 56 = .ok (.aload_n 0, 1) := by decide +kernel
theorem dX9_readLineOf_57 : decode cX9_readLineOf 57 = .ok (.getfield 65, 3) := by decide +kernel
theorem dX9_readLineOf_60 : decode cX9_readLineOf 60 = .ok (.imul, 1) := by decide +kernel
theorem dX9_readLineOf_61 : decode cX9_readLineOf 61 = .ok (.iconst 1, 1) := by decide +kernel
theorem dX9_readLineOf_62 : decode cX9_readLineOf 62 = .ok (.iadd, 1) := by decide +kernel
theorem dX9_readLineOf_63 : decode cX9_readLineOf 63 = .ok (.aload_n 0, 1) := by decide +kernel
theorem dX9_readLineOf_64 : decode cX9_readLineOf 64 = .ok (.iconst 0, 1) := by decide +kernel
theorem dX9_readLineOf_65 : decode cX9_readLineOf 65 = .ok (.iconst 3, 1) := by decide +kernel
theorem dX9_readLineOf_66 : decode cX9_readLineOf 66 = .ok (.invokevirtual 144, 3) := by decide +kernel
theorem dX9_readLineOf_69 : decode cX9_readLineOf 69 = .ok (.iastore, 1) := by decide +kernel
theorem dX9_readLineOf_70 : decode cX9_readLineOf 70 = .ok (.aload_n 0, 1) := by decide +kernel
theorem dX9_readLineOf_71 : decode cX9_readLineOf 71 = .ok (.dup, 1) := by decide +kernel
theorem dX9_readLineOf_72 : decode cX9_readLineOf 72 = .ok (.getfield 65, 3) := by decide +kernel
theorem dX9_readLineOf_75 : decode cX9_readLineOf 75 = .ok (.iconst 1, 1) := by decide +kernel
theorem dX9_readLineOf_76 : decode cX9_readLineOf 76 = .ok (.iadd, 1) := by decide +kernel
theorem dX9_readLineOf_77 : decode cX9_readLineOf 77 = .ok (.putfield 65, 3) := by decide +kernel
theorem dX9_readLineOf_80 : decode cX9_readLineOf 80 = .ok (.goto 48, 3) := by decide +kernel
theorem dX9_readLineOf_83 : decode cX9_readLineOf 83 = .ok (.aload_n 0, 1) := by decide +kernel
theorem dX9_readLineOf_84 : decode cX9_readLineOf 84 = .ok (.invokevirtual 147, 3) := by decide +kernel
theorem dX9_readLineOf_87 : decode cX9_readLineOf 87 = .ok (.goto 41, 3) := by decide +kernel
theorem dX9_readLineOf_90 : decode cX9_readLineOf 90 = .ok (.aload_n 0, 1) := by decide +kernel
theorem dX9_readLineOf_91 : decode cX9_readLineOf 91 = .ok (.getfield 20, 3) := by decide +kernel
theorem dX9_readLineOf_94 : decode cX9_readLineOf 94 = .ok (.bipush 44, 2) := by decide +kernel
theorem dX9_readLineOf_96 : decode cX9_readLineOf 96 = .ok (.aload_n 0, 1) := by decide +kernel
theorem dX9_readLineOf_97 : decode cX9_readLineOf 97 = .ok (.iconst 1, 1) := by decide +kernel
theorem dX9_readLineOf_98 : decode cX9_readLineOf 98 = .ok (.iconst 4, 1) := by decide +kernel
theorem dX9_readLineOf_99 : decode cX9_readLineOf 99 = .ok (.invokevirtual 144, 3) := by decide +kernel
theorem dX9_readLineOf_102 : decode cX9_readLineOf 102 = .ok (.iastore, 1) := by decide +kernel
theorem dX9_readLineOf_103 : decode cX9_readLineOf 103 = .ok (.goto 25, 3) := by decide +kernel
theorem dX9_readLineOf_106 : decode cX9_readLineOf 106 = .ok (.aload_n 0, 1) := by decide +kernel
theorem dX9_readLineOf_107 : decode cX9_readLineOf 107 = .ok (.getfield 20, 3) := by decide +kernel
theorem dX9_readLineOf_110 : decode cX9_readLineOf 110 = .ok (.bipush 45, 2) := by decide +kernel
theorem dX9_readLineOf_112 : decode cX9_readLineOf 112 = .ok (.aload_n 0, 1) := by decide +kernel
theorem dX9_readLineOf_113 : decode cX9_readLineOf 113 = .ok (.iconst 0, 1) := by decide +kernel
theorem dX9_readLineOf_114 : decode cX9_readLineOf 114 = .ok (.bipush 99, 2) := by decide +kernel
theorem dX9_readLineOf_116 : decode cX9_readLineOf 116 = .ok (.invokevirtual 144, 3) := by decide +kernel
theorem dX9_readLineOf_119 : decode cX9_readLineOf 119 = .ok (.iastore, 1) := by decide +kernel
theorem dX9_readLineOf_120 : decode cX9_readLineOf 120 = .ok (.goto 8, 3) := by decide +kernel
theorem dX9_readLineOf_123 : decode cX9_readLineOf 123 = .ok (.aload_n 0, 1) := by decide +kernel
theorem dX9_readLineOf_124 : decode cX9_readLineOf 124 = .ok (.iload_n 1, 1) := by decide +kernel
theorem dX9_readLineOf_125 : decode cX9_readLineOf 125 = .ok (.invokevirtual 150, 3) := by decide +kernel
theorem dX9_readLineOf_128 : decode cX9_readLineOf 128 = .ok (.return_, 1) := by decide +kernel
set_option maxRecDepth 20000 in
theorem ggX9_readLine_X9_lineNow : GoodIn wsX9_readLine wsX9_lineNow := goodIn_r _ [10, 11, 12, 13, 9, 14, 15, 16, 17, 18, 19, 20, 21, 22, 23, 24, 25, 26, 67, 68, 69, 70, 71, 72, 73, 74, 75, 76, 77, 78, 79, 80, 81, 82, 83, 84, 85, 86, 87, 88, 89, 90, 91, 92, 93, 94, 95, 96, 97, 98, 99, 100, 101, 102, 103] (by decide +kernel) (by decide +kernel)
set_option maxRecDepth 20000 in
theorem gX9_readLine_X9_lineNow : GoodIn wsX9_readLine (wsV RX9 154 RX9 yX9_lineNow wsX9_lineNow) := goodIn_app (goodIn_of _ (by decide +kernel)) ggX9_readLine_X9_lineNow
set_option maxRecDepth 20000 in
theorem ggX9_readLine_X9_needs : GoodIn wsX9_readLine wsX9_needs := goodIn_r _ [30, 4, 16, 31, 67, 68, 69, 70, 71, 72, 73, 74, 75, 76, 77, 78, 79, 80, 81, 82, 83, 84, 85, 86, 87, 88, 89, 90, 91, 92, 93, 94, 95, 96, 97, 98, 99, 100, 101, 102, 103] (by decide +kernel) (by decide +kernel)
set_option maxRecDepth 20000 in
theorem gX9_readLine_X9_needs : GoodIn wsX9_readLine (wsV RX9 133 RX9 yX9_needs wsX9_needs) := goodIn_app (goodIn_of _ (by decide +kernel)) ggX9_readLine_X9_needs
set_option maxRecDepth 20000 in
theorem ggX9_readLine_X9_next : GoodIn wsX9_readLine wsX9_next := goodIn_r _ [35, 4, 15, 16, 1, 36, 37, 38, 39, 40, 17, 18, 19, 9, 20, 21, 22, 41, 42, 43, 27, 28, 29, 30, 31, 67, 68, 69, 70, 71, 72, 73, 74, 75, 76, 77, 78, 79, 80, 81, 82, 83, 84, 85, 86, 87, 88, 89, 90, 91, 92, 93, 94, 95, 96, 97, 98, 99, 100, 101, 102, 103] (by decide +kernel) (by decide +kernel)
set_option maxRecDepth 20000 in
theorem gX9_readLine_X9_next : GoodIn wsX9_readLine (wsV RX9 141 RX9 yX9_next wsX9_next) := goodIn_app (goodIn_of _ (by decide +kernel)) ggX9_readLine_X9_next
set_option maxRecDepth 20000 in
theorem ggX9_readLine_X9_readLineOf : GoodIn wsX9_readLine wsX9_readLineOf := goodIn_r _ [47, 48, 2, 49, 50, 51, 9, 52, 53, 54, 55, 56, 4, 1, 40, 27, 28, 29, 30, 16, 31, 41, 42, 43, 32, 33, 34, 35, 15, 36, 37, 38, 39, 17, 18, 19, 20, 21, 22, 57, 58, 59, 60, 61, 62, 63, 64, 65, 66, 3, 67, 68, 69, 70, 71, 72, 73, 74, 75, 76, 77, 78, 79, 80, 81, 82, 83, 84, 85, 86, 87, 88, 89, 90, 91, 92, 93, 94, 95, 96, 97, 98, 99, 100, 101, 102, 103] (by decide +kernel) (by decide +kernel)
set_option maxRecDepth 20000 in
theorem gX9_readLine_X9_readLineOf : GoodIn wsX9_readLine (wsV RX9 158 RX9 yX9_readLineOf wsX9_readLineOf) := goodIn_app (goodIn_of _ (by decide +kernel)) ggX9_readLine_X9_readLineOf
theorem dX9_readLine_0 : decode cX9_readLine 0 = .ok (.aload_n 0, 1) := by decide +kernel
theorem dX9_readLine_1 : decode cX9_readLine 1 = .ok (.getfield 119, 3) := by decide +kernel
theorem dX9_readLine_4 : decode cX9_readLine 4 = .ok (.iconst 1, 1) := by decide +kernel
theorem dX9_readLine_5 : decode cX9_readLine 5 = .ok (.if_icmp .ne 10, 3) := by decide +kernel
theorem dX9_readLine_8 : decode cX9_readLine 8 = .ok (.aload_n 0, 1) := by decide +kernel
theorem dX9_readLine_9 : decode cX9_readLine 9 = .ok (.invokevirtual 154, 3) := by decide +kernel
theorem dX9_readLine_12 : decode cX9_readLine 12 = .ok (.goto 5, 3) := by decide +kernel
theorem dX9_readLine_15 : decode cX9_readLine 15 = .ok (.bipush (-4), 2) := by decide +kernel
theorem dX9_readLine_17 : decode cX9_readLine 17 = .ok (.istore_n 1, 1) := by decide +kernel
theorem dX9_readLine_18 : decode cX9_readLine 18 = .ok (.aload_n 0, 1) := by decide +kernel
theorem dX9_readLine_19 : decode cX9_readLine 19 = .ok (.iload_n 1, 1) := by decide +kernel
theorem dX9_readLine_20 : decode cX9_readLine 20 = .ok (.bipush (-4), 2) := by decide +kernel
theorem dX9_readLine_22 : decode cX9_readLine 22 = .ok (.if_icmp .eq 7, 3) := by decide +kernel
theorem dX9_readLine_25 : decode cX9_readLine 25 = .ok (.iconst 1, 1) := by decide +kernel
theorem dX9_readLine_26 : decode cX9_readLine 26 = .ok (.goto 4, 3) := by decide +kernel
theorem dX9_readLine_29 : decode cX9_readLine 29 = .ok (.iconst 0, 1) := by decide +kernel
theorem dX9_readLine_30 : decode cX9_readLine 30 = .ok (.iconst 2, 1) := by decide +kernel
theorem dX9_readLine_31 : decode cX9_readLine 31 = .ok (.invokevirtual 133, 3) := by decide +kernel
theorem dX9_readLine_34 : decode cX9_readLine 34 = .ok (.aload_n 0, 1) := by decide +kernel
theorem dX9_readLine_35 : decode cX9_readLine 35 = .ok (.iload_n 1, 1) := by decide +kernel
theorem dX9_readLine_36 : decode cX9_readLine 36 = .ok (.iconst 4, 1) := by decide +kernel
theorem dX9_readLine_37 : decode cX9_readLine 37 = .ok (.if_icmp .ne 20, 3) := by decide +kernel
theorem dX9_readLine_40 : decode cX9_readLine 40 = .ok (.aload_n 0, 1) := by decide +kernel
theorem dX9_readLine_41 : decode cX9_readLine 41 = .ok (.getfield 65, 3) := by decide +kernel
theorem dX9_readLine_44 : decode cX9_readLine 44 = .ok (.bipush 8, 2) := by decide +kernel
theorem dX9_readLine_46 : decode cX9_readLine 46 = .ok (.if_icmp .ge 7, 3) := by decide +kernel
theorem dX9_readLine_49 : decode cX9_readLine 49 = .ok (.iconst 1, 1) := by decide +kernel
theorem dX9_readLine_50 : decode cX9_readLine 50 = .ok (.goto 25, 3) := by decide +kernel
theorem dX9_readLine_53 : decode cX9_readLine 53 = .ok (.iconst 0, 1) := by decide +kernel
theorem dX9_readLine_54 : decode cX9_readLine 54 = .ok (.goto 21, 3) := by decide +kernel
theorem dX9_readLine_57 : decode cX9_readLine 57 = .ok (.iload_n 1, 1) := by decide +kernel
theorem dX9_readLine_58 : decode cX9_readLine 58 = .ok (.iconst 4, 1) := by decide +kernel
theorem dX9_readLine_59 : decode cX9_readLine 59 = .ok (.if_icmp .gt 11, 3) := by decide +kernel
theorem dX9_readLine_62 : decode cX9_readLine 62 = .ok (.aload_n 0, 1) := by decide +kernel
theorem dX9_readLine_63 : decode cX9_readLine 63 = .ok (.getfield 69, 3) := by decide +kernel
theorem dX9_readLine_66 : decode cX9_readLine 66 = .ok (.iconst 4, 1) := by decide +kernel
theorem dX9_readLine_67 : decode cX9_readLine 67 = .ok (.if_icmp .ge 7, 3) := by decide +kernel
theorem dX9_readLine_70 : decode cX9_readLine 70 = .ok (.iconst 1, 1) := by decide +kernel
theorem dX9_readLine_71 : decode cX9_readLine 71 = .ok (.goto 4, 3) := by decide +kernel
theorem dX9_readLine_74 : decode cX9_readLine 74 = .ok (.iconst 0, 1) := by decide +kernel
theorem dX9_readLine_75 : decode cX9_readLine 75 = .ok (.iconst 5, 1) := by decide +kernel
theorem dX9_readLine_76 : decode cX9_readLine 76 = .ok (.invokevirtual 133, 3) := by decide +kernel
theorem dX9_readLine_79 : decode cX9_readLine 79 = .ok (.aload_n 0, 1) := by decide +kernel
theorem dX9_readLine_80 : decode cX9_readLine 80 = .ok (.getfield 96, 3) := by decide +kernel
theorem dX9_readLine_83 : decode cX9_readLine 83 = .ok (.ifCond .ne 42, 3) := by decide +kernel
theorem dX9_readLine_86 : decode cX9_readLine 86 = .ok (.iload_n 1, 1) := by decide +kernel
theorem dX9_readLine_87 : decode cX9_readLine 87 = .ok (.bipush 6, 2) := by decide +kernel
theorem dX9_readLine_89 : decode cX9_readLine 89 = .ok (.if_icmp .lt 36, 3) := by decide +kernel
theorem dX9_readLine_92 : decode cX9_readLine 92 = .ok (.aload_n 0, 1) := by decide +kernel
theorem dX9_readLine_93 : decode cX9_readLine 93 = .ok (.aload_n 0, 1) := by decide +kernel
theorem dX9_readLine_94 : decode cX9_readLine 94 = .ok (.getfield 75, 3) := by decide +kernel
theorem dX9_readLine_97 : decode cX9_readLine 97 = .ok (.iload_n 1, 1) := by decide +kernel
theorem dX9_readLine_98 : decode cX9_readLine 98 = .ok (.ishr, 1) := by decide +kernel
theorem dX9_readLine_99 : decode cX9_readLine 99 = .ok (.iconst 1, 1) := by decide +kernel
theorem dX9_readLine_100 : decode cX9_readLine 100 = .ok (.iand, 1) := by decide +kernel
theorem dX9_readLine_101 : decode cX9_readLine 101 = .ok (.ifCond .ne 7, 3) := by decide +kernel
theorem dX9_readLine_104 : decode cX9_readLine 104 = .ok (.iconst 1, 1) := by decide +kernel
theorem dX9_readLine_105 : decode cX9_readLine 105 = .ok (.goto 4, 3) := by decide +kernel
theorem dX9_readLine_108 : decode cX9_readLine 108 = .ok (.iconst 0, 1) := by decide +kernel
theorem dX9_readLine_109 : decode cX9_readLine 109 = .ok (.iconst 4, 1) := by decide +kernel
theorem dX9_readLine_110 : decode cX9_readLine 110 = .ok (.invokevirtual 133, 3) := by decide +kernel
theorem dX9_readLine_113 : decode cX9_readLine 113 = .ok (.aload_n 0, 1) := by decide +kernel
theorem dX9_readLine_114 : decode cX9_readLine 114 = .ok (.dup, 1) := by decide +kernel
theorem dX9_readLine_115 : decode cX9_readLine 115 = .ok (.getfield 75, 3) := by decide +kernel
theorem dX9_readLine_118 : decode cX9_readLine 118 = .ok (.iconst 1, 1) := by decide +kernel
theorem dX9_readLine_119 : decode cX9_readLine 119 = .ok (.iload_n 1, 1) := by decide +kernel
theorem dX9_readLine_120 : decode cX9_readLine 120 = .ok (.ishl, 1) := by decide +kernel
theorem dX9_readLine_121 : decode cX9_readLine 121 = .ok (.ior, 1) := by decide +kernel
theorem dX9_readLine_122 : decode cX9_readLine 122 = .ok (.putfield 75, 3) := by decide +kernel
theorem dX9_readLine_125 : decode cX9_readLine 125 = .ok (.aload_n 0, 1) := by decide +kernel
theorem dX9_readLine_126 : decode cX9_readLine 126 = .ok (.invokevirtual 141, 3) := by decide +kernel
theorem dX9_readLine_129 : decode cX9_readLine 129 = .ok (.aload_n 0, 1) := by decide +kernel
theorem dX9_readLine_130 : decode cX9_readLine 130 = .ok (.getfield 96, 3) := by decide +kernel
theorem dX9_readLine_133 : decode cX9_readLine 133 = .ok (.ifCond .le 4, 3) := by decide +kernel
theorem dX9_readLine_136 : decode cX9_readLine 136 = .ok (.return_, 1) := by decide +kernel
theorem dX9_readLine_137 : decode cX9_readLine 137 = .ok (.aload_n 0, 1) := by decide +kernel
theorem dX9_readLine_138 : decode cX9_readLine 138 = .ok (.iload_n 1, 1) := by decide +kernel
theorem dX9_readLine_139 : decode cX9_readLine 139 = .ok (.invokevirtual 158, 3) := by decide +kernel
theorem dX9_readLine_142 : decode cX9_readLine 142 = .ok (.aload_n 0, 1) := by decide +kernel
theorem dX9_readLine_143 : decode cX9_readLine 143 = .ok (.getfield 96, 3) := by decide +kernel
theorem dX9_readLine_146 : decode cX9_readLine 146 = .ok (.ifCond .ne 21, 3) := by decide +kernel
theorem dX9_readLine_149 : decode cX9_readLine 149 = .ok (.aload_n 0, 1) := by decide +kernel
theorem dX9_readLine_150 : decode cX9_readLine 150 = .ok (.aload_n 0, 1) := by decide +kernel
theorem dX9_readLine_151 : decode cX9_readLine 151 = .ok (.getfield 119, 3) := by decide +kernel
theorem dX9_readLine_154 : decode cX9_readLine 154 = .ok (.iconst 3, 1) := by decide +kernel
theorem dX9_readLine_155 : decode cX9_readLine 155 = .ok (.if_icmp .ne 7, 3) := by decide +kernel
theorem dX9_readLine_158 : decode cX9_readLine 158 = .ok (.iconst 1, 1) := by decide +kernel
theorem dX9_readLine_159 : decode cX9_readLine 159 = .ok (.goto 4, 3) := by decide +kernel
theorem dX9_readLine_162 : decode cX9_readLine 162 = .ok (.iconst 0, 1) := by decide +kernel
theorem dX9_readLine_163 : decode cX9_readLine 163 = .ok (.iconst 2, 1) := by decide +kernel
theorem dX9_readLine_164 : decode cX9_readLine 164 = .ok (.invokevirtual 133, 3) := by decide +kernel
theorem dX9_readLine_167 : decode cX9_readLine 167 = .ok (.aload_n 0, 1) := by decide +kernel
theorem dX9_readLine_168 : decode cX9_readLine 168 = .ok (.invokevirtual 141, 3) := by decide +kernel
theorem dX9_readLine_171 : decode cX9_readLine 171 = .ok (.return_, 1) := by decide +kernel
set_option maxRecDepth 20000 in
theorem ggX9_text_X9_firstDraft : GoodIn wsX9_text wsX9_firstDraft := goodIn_r _ [12, 13, 5, 14, 15, 16, 4, 83, 84, 85, 86, 87, 88, 89, 90, 91, 92, 93, 94, 95, 96, 97, 98, 99, 100, 101, 102, 103, 104, 105, 106, 107, 108, 109, 110, 111, 112, 113, 114, 115, 116, 117, 118, 119] (by decide +kernel) (by decide +kernel)
set_option maxRecDepth 20000 in
theorem gX9_text_X9_firstDraft : GoodIn wsX9_text (wsV RX9 59 RX9 yX9_firstDraft wsX9_firstDraft) := goodIn_app (goodIn_of _ (by decide +kernel)) ggX9_text_X9_firstDraft
set_option maxRecDepth 20000 in
theorem ggX9_text_X9_next : GoodIn wsX9_text wsX9_next := goodIn_r _ [20, 1, 2, 21, 3, 22, 23, 24, 25, 26, 27, 28, 29, 11, 30, 6, 31, 32, 33, 34, 35, 36, 37, 38, 7, 83, 84, 85, 86, 87, 88, 89, 90, 91, 92, 93, 94, 95, 96, 97, 98, 99, 100, 101, 102, 103, 104, 105, 106, 107, 108, 109, 110, 111, 112, 113, 114, 115, 116, 117, 118, 119] (by decide +kernel) (by decide +kernel)
set_option maxRecDepth 20000 in
theorem gX9_text_X9_next : GoodIn wsX9_text (wsV RX9 141 RX9 yX9_next wsX9_next) := goodIn_app (goodIn_of _ (by decide +kernel)) ggX9_text_X9_next
set_option maxRecDepth 20000 in
theorem ggX9_text_X9_readLine : GoodIn wsX9_text wsX9_readLine := goodIn_r _ [42, 3, 5, 14, 1, 16, 43, 44, 45, 11, 46, 47, 48, 49, 50, 2, 21, 27, 28, 29, 30, 6, 31, 51, 52, 53, 54, 35, 36, 37, 38, 7, 17, 18, 19, 20, 22, 23, 24, 25, 26, 32, 33, 34, 55, 56, 57, 58, 13, 59, 60, 61, 62, 63, 64, 65, 66, 67, 68, 69, 70, 15, 4, 71, 72, 73, 74, 83, 84, 85, 86, 87, 88, 89, 90, 91, 92, 93, 94, 95, 96, 97, 98, 99, 100, 101, 102, 103, 104, 105, 106, 107, 108, 109, 110, 111, 112, 113, 114, 115, 116, 117, 118, 119] (by decide +kernel) (by decide +kernel)
set_option maxRecDepth 20000 in
theorem gX9_text_X9_readLine : GoodIn wsX9_text (wsV RX9 161 RX9 yX9_readLine wsX9_readLine) := goodIn_app (goodIn_of _ (by decide +kernel)) ggX9_text_X9_readLine
set_option maxRecDepth 20000 in
theorem ggX9_text_X9_needs : GoodIn wsX9_text wsX9_needs := goodIn_r _ [38, 1, 21, 7, 83, 84, 85, 86, 87, 88, 89, 90, 91, 92, 93, 94, 95, 96, 97, 98, 99, 100, 101, 102, 103, 104, 105, 106, 107, 108, 109, 110, 111, 112, 113, 114, 115, 116, 117, 118, 119] (by decide +kernel) (by decide +kernel)
set_option maxRecDepth 20000 in
theorem gX9_text_X9_needs : GoodIn wsX9_text (wsV RX9 133 RX9 yX9_needs wsX9_needs) := goodIn_app (goodIn_of _ (by decide +kernel)) ggX9_text_X9_needs
set_option maxRecDepth 20000 in
theorem ggX9_text_X9_keepDraft : GoodIn wsX9_text wsX9_keepDraft := goodIn_r _ [78, 79, 13, 5, 80, 14, 81, 15, 82, 83, 84, 85, 86, 87, 88, 89, 90, 91, 92, 93, 94, 95, 96, 97, 98, 99, 100, 101, 102, 103, 104, 105, 106, 107, 108, 109, 110, 111, 112, 113, 114, 115, 116, 117, 118, 119] (by decide +kernel) (by decide +kernel)
set_option maxRecDepth 20000 in
theorem gX9_text_X9_keepDraft : GoodIn wsX9_text (wsV RX9 62 RX9 yX9_keepDraft wsX9_keepDraft) := goodIn_app (goodIn_of _ (by decide +kernel)) ggX9_text_X9_keepDraft
theorem dX9_text_0 : decode cX9_text 0 = .ok (.iconst 0, 1) := by decide +kernel
theorem dX9_text_1 : decode cX9_text 1 = .ok (.istore_n 1, 1) := by decide +kernel
theorem dX9_text_2 : decode cX9_text 2 = .ok (.aload_n 0, 1) := by decide +kernel
theorem dX9_text_3 : decode cX9_text 3 = .ok (.iconst 0, 1) := by decide +kernel
theorem dX9_text_4 : decode cX9_text 4 = .ok (.putfield 96, 3) := by decide +kernel
theorem dX9_text_7 : decode cX9_text 7 = .ok (.aload_n 0, 1) := by decide +kernel
theorem dX9_text_8 : decode cX9_text 8 = .ok (.iconst 0, 1) := by decide +kernel
theorem dX9_text_9 : decode cX9_text 9 = .ok (.putfield 105, 3) := by decide +kernel
theorem dX9_text_12 : decode cX9_text 12 = .ok (.aload_n 0, 1) := by decide +kernel
theorem dX9_text_13 : decode cX9_text 13 = .ok (.invokevirtual 59, 3) := by decide +kernel
theorem dX9_text_16 : decode cX9_text 16 = .ok (.aload_n 0, 1) := by decide +kernel
theorem dX9_text_17 : decode cX9_text 17 = .ok (.invokevirtual 141, 3) := by decide +kernel
theorem dX9_text_20 : decode cX9_text 20 = .ok (.aload_n 0, 1) := by decide +kernel
theorem dX9_text_21 : decode cX9_text 21 = .ok (.getfield 96, 3) := by decide +kernel
theorem dX9_text_24 : decode cX9_text 24 = .ok (.ifCond .ne 20, 3) := by decide +kernel
theorem dX9_text_27 : decode cX9_text 27 = .ok (.aload_n 0, 1) := by decide +kernel
theorem dX9_text_28 : decode cX9_text 28 = .ok (.getfield 119, 3) := by decide +kernel
theorem dX9_text_31 : decode cX9_text 31 = .ok (.ifCond .eq 13, 3) := by decide +kernel
theorem dX9_text_34 : decode cX9_text 34 = .ok (.aload_n 0, 1) := by decide +kernel
theorem dX9_text_35 : decode cX9_text 35 = .ok (.invokevirtual 161, 3) := by decide +kernel
theorem dX9_text_38 : decode cX9_text 38 = .ok (.iinc 1 1, 3) := by decide +kernel
theorem dX9_text_41 : decode cX9_text 41 = .ok (.goto (-21), 3) := by decide +kernel
theorem dX9_text_44 : decode cX9_text 44 = .ok (.aload_n 0, 1) := by decide +kernel
theorem dX9_text_45 : decode cX9_text 45 = .ok (.getfield 96, 3) := by decide +kernel
theorem dX9_text_48 : decode cX9_text 48 = .ok (.ifCond .ne 25, 3) := by decide +kernel
theorem dX9_text_51 : decode cX9_text 51 = .ok (.aload_n 0, 1) := by decide +kernel
theorem dX9_text_52 : decode cX9_text 52 = .ok (.aload_n 0, 1) := by decide +kernel
theorem dX9_text_53 : decode cX9_text 53 = .ok (.getfield 78, 3) := by decide +kernel
theorem dX9_text_56 : decode cX9_text 56 = .ok (.aload_n 0, 1) := by decide +kernel
theorem dX9_text_57 : decode cX9_text 57 = .ok (.getfield 65, 3) := by decide +kernel
theorem dX9_text_60 : decode cX9_text 60 = .ok (.if_icmp .ge 7, 3) := by decide +kernel
theorem dX9_text_63 : decode cX9_text 63 = .ok (.iconst 1, 1) := by decide +kernel
theorem dX9_text_64 : decode cX9_text 64 = .ok (.goto 4, 3) := by decide +kernel
theorem dX9_text_67 : decode cX9_text 67 = .ok (.iconst 0, 1) := by decide +kernel
theorem dX9_text_68 : decode cX9_text 68 = .ok (.bipush 6, 2) := by decide +kernel
theorem dX9_text_70 : decode cX9_text 70 = .ok (.invokevirtual 133, 3) := by decide +kernel
theorem dX9_text_73 : decode cX9_text 73 = .ok (.aload_n 0, 1) := by decide +kernel
theorem dX9_text_74 : decode cX9_text 74 = .ok (.iconst 0, 1) := by decide +kernel
theorem dX9_text_75 : decode cX9_text 75 = .ok (.putfield 93, 3) := by decide +kernel
theorem dX9_text_78 : decode cX9_text 78 = .ok (.aload_n 0, 1) := by decide +kernel
theorem dX9_text_79 : decode cX9_text 79 = .ok (.getfield 96, 3) := by decide +kernel
theorem dX9_text_82 : decode cX9_text 82 = .ok (.ifCond .le 11, 3) := by decide +kernel
theorem dX9_text_85 : decode cX9_text 85 = .ok (.bipush (-10), 2) := by decide +kernel
theorem dX9_text_87 : decode cX9_text 87 = .ok (.aload_n 0, 1) := by decide +kernel
theorem dX9_text_88 : decode cX9_text 88 = .ok (.getfield 102, 3) := by decide +kernel
theorem dX9_text_91 : decode cX9_text 91 = .ok (.isub, 1) := by decide +kernel
theorem dX9_text_92 : decode cX9_text 92 = .ok (.ireturn, 1) := by decide +kernel
theorem dX9_text_93 : decode cX9_text 93 = .ok (.aload_n 0, 1) := by decide +kernel
theorem dX9_text_94 : decode cX9_text 94 = .ok (.invokevirtual 62, 3) := by decide +kernel
theorem dX9_text_97 : decode cX9_text 97 = .ok (.iload_n 1, 1) := by decide +kernel
theorem dX9_text_98 : decode cX9_text 98 = .ok (.ireturn, 1) := by decide +kernel
theorem dX9_fault_0 : decode cX9_fault 0 = .ok (.aload_n 0, 1) := by decide +kernel
theorem dX9_fault_1 : decode cX9_fault 1 = .ok (.getfield 96, 3) := by decide +kernel
theorem dX9_fault_4 : decode cX9_fault 4 = .ok (.ireturn, 1) := by decide +kernel
set_option maxRecDepth 20000 in
theorem ggX9_isMile_X9_in : GoodIn wsX9_isMile wsX9_in := goodIn_r _ [5] (by decide +kernel) (by decide +kernel)
set_option maxRecDepth 20000 in
theorem gX9_isMile_X9_in : GoodIn wsX9_isMile (va_wsS RX9 89 yX9_in wsX9_in) := goodIn_app (goodIn_of _ (by decide +kernel)) ggX9_isMile_X9_in
theorem dX9_isMile_0 : decode cX9_isMile 0 = .ok (.iload_n 1, 1) := by decide +kernel
theorem dX9_isMile_1 : decode cX9_isMile 1 = .ok (.i2l, 1) := by decide +kernel
theorem dX9_isMile_2 : decode cX9_isMile 2 = .ok (.lconst 0, 1) := by decide +kernel
theorem dX9_isMile_3 : decode cX9_isMile 3 = .ok (.aload_n 0, 1) := by decide +kernel
theorem dX9_isMile_4 : decode cX9_isMile 4 = .ok (.getfield 81, 3) := by decide +kernel
theorem dX9_isMile_7 : decode cX9_isMile 7 = .ok (.iconst 1, 1) := by decide +kernel
theorem dX9_isMile_8 : decode cX9_isMile 8 = .ok (.isub, 1) := by decide +kernel
theorem dX9_isMile_9 : decode cX9_isMile 9 = .ok (.i2l, 1) := by decide +kernel
theorem dX9_isMile_10 : decode cX9_isMile 10 = .ok (.invokestatic 89, 3) := by decide +kernel
theorem dX9_isMile_13 : decode cX9_isMile 13 = .ok (.ireturn, 1) := by decide +kernel
set_option maxRecDepth 20000 in
theorem ggX9_isParty_X9_in : GoodIn wsX9_isParty wsX9_in := goodIn_r _ [5] (by decide +kernel) (by decide +kernel)
set_option maxRecDepth 20000 in
theorem gX9_isParty_X9_in : GoodIn wsX9_isParty (va_wsS RX9 89 yX9_in wsX9_in) := goodIn_app (goodIn_of _ (by decide +kernel)) ggX9_isParty_X9_in
theorem dX9_isParty_0 : decode cX9_isParty 0 = .ok (.iload_n 1, 1) := by decide +kernel
theorem dX9_isParty_1 : decode cX9_isParty 1 = .ok (.i2l, 1) := by decide +kernel
theorem dX9_isParty_2 : decode cX9_isParty 2 = .ok (.lconst 0, 1) := by decide +kernel
theorem dX9_isParty_3 : decode cX9_isParty 3 = .ok (.aload_n 0, 1) := by decide +kernel
theorem dX9_isParty_4 : decode cX9_isParty 4 = .ok (.getfield 84, 3) := by decide +kernel
theorem dX9_isParty_7 : decode cX9_isParty 7 = .ok (.iconst 1, 1) := by decide +kernel
theorem dX9_isParty_8 : decode cX9_isParty 8 = .ok (.isub, 1) := by decide +kernel
theorem dX9_isParty_9 : decode cX9_isParty 9 = .ok (.i2l, 1) := by decide +kernel
theorem dX9_isParty_10 : decode cX9_isParty 10 = .ok (.invokestatic 89, 3) := by decide +kernel
theorem dX9_isParty_13 : decode cX9_isParty 13 = .ok (.ireturn, 1) := by decide +kernel
set_option maxRecDepth 20000 in
theorem ggX9_isPart_X9_in : GoodIn wsX9_isPart wsX9_in := goodIn_r _ [4] (by decide +kernel) (by decide +kernel)
set_option maxRecDepth 20000 in
theorem gX9_isPart_X9_in : GoodIn wsX9_isPart (va_wsS RX9 89 yX9_in wsX9_in) := goodIn_app (goodIn_of _ (by decide +kernel)) ggX9_isPart_X9_in
theorem dX9_isPart_0 : decode cX9_isPart 0 = .ok (.iload_n 0, 1) := by decide +kernel
theorem dX9_isPart_1 : decode cX9_isPart 1 = .ok (.i2l, 1) := by decide +kernel
theorem dX9_isPart_2 : decode cX9_isPart 2 = .ok (.lconst 0, 1) := by decide +kernel
theorem dX9_isPart_3 : decode cX9_isPart 3 = .ok (.lconst 1, 1) := by decide +kernel
theorem dX9_isPart_4 : decode cX9_isPart 4 = .ok (.invokestatic 89, 3) := by decide +kernel
theorem dX9_isPart_7 : decode cX9_isPart 7 = .ok (.ireturn, 1) := by decide +kernel
theorem dX9_starts_0 : decode cX9_starts 0 = .ok (.iconst 0, 1) := by decide +kernel
theorem dX9_starts_1 : decode cX9_starts 1 = .ok (.istore_n 1, 1) := by decide +kernel
theorem dX9_starts_2 : decode cX9_starts 2 = .ok (.iload_n 1, 1) := by decide +kernel
theorem dX9_starts_3 : decode cX9_starts 3 = .ok (.bipush 59, 2) := by decide +kernel
theorem dX9_starts_5 : decode cX9_starts 5 = .ok (.if_icmp .ge 21, 3) := by decide +kernel
theorem dX9_starts_8 : decode cX9_starts 8 = .ok (.aload_n 0, 1) := by decide +kernel
theorem dX9_starts_9 : decode cX9_starts 9 = .ok (.getfield 13, 3) := by decide +kernel
theorem dX9_starts_12 : decode cX9_starts 12 = .ok (.iload_n 1, 1) := by decide +kernel
theorem dX9_starts_13 : decode cX9_starts 13 = .ok (.aload_n 0, 1) := by decide +kernel
theorem dX9_starts_14 : decode cX9_starts 14 = .ok (.getfield 7, 3) := by decide +kernel
theorem dX9_starts_17 : decode cX9_starts 17 = .ok (.iload_n 1, 1) := by decide +kernel
theorem dX9_starts_18 : decode cX9_starts 18 = .ok (.iaload, 1) := by decide +kernel
theorem dX9_starts_19 : decode cX9_starts 19 = .ok (.iastore, 1) := by decide +kernel
theorem dX9_starts_20 : decode cX9_starts 20 = .ok (.iinc 1 1, 3) := by decide +kernel
theorem dX9_starts_23 : decode cX9_starts 23 = .ok (.goto (-21), 3) := by decide +kernel
theorem dX9_starts_26 : decode cX9_starts 26 = .ok (.return_, 1) := by decide +kernel
theorem dX9_ofMile_0 : decode cX9_ofMile 0 = .ok (.aload_n 0, 1) := by decide +kernel
theorem dX9_ofMile_1 : decode cX9_ofMile 1 = .ok (.getfield 13, 3) := by decide +kernel
theorem dX9_ofMile_4 : decode cX9_ofMile 4 = .ok (.iconst 3, 1) := by decide +kernel
theorem dX9_ofMile_5 : decode cX9_ofMile 5 = .ok (.iload_n 1, 1) := by decide +kernel
theorem dX9_ofMile_6 : decode cX9_ofMile 6 = .ok (.imul, 1) := by decide +kernel
theorem dX9_ofMile_7 : decode cX9_ofMile 7 = .ok (.iload_n 2, 1) := by decide +kernel
theorem dX9_ofMile_8 : decode cX9_ofMile 8 = .ok (.iadd, 1) := by decide +kernel
theorem dX9_ofMile_9 : decode cX9_ofMile 9 = .ok (.iaload, 1) := by decide +kernel
theorem dX9_ofMile_10 : decode cX9_ofMile 10 = .ok (.ireturn, 1) := by decide +kernel
theorem dX9_of_0 : decode cX9_of 0 = .ok (.aload_n 0, 1) := by decide +kernel
theorem dX9_of_1 : decode cX9_of 1 = .ok (.getfield 13, 3) := by decide +kernel
theorem dX9_of_4 : decode cX9_of 4 = .ok (.bipush 24, 2) := by decide +kernel
theorem dX9_of_6 : decode cX9_of 6 = .ok (.iconst 5, 1) := by decide +kernel
theorem dX9_of_7 : decode cX9_of 7 = .ok (.iload_n 1, 1) := by decide +kernel
theorem dX9_of_8 : decode cX9_of 8 = .ok (.imul, 1) := by decide +kernel
theorem dX9_of_9 : decode cX9_of 9 = .ok (.iadd, 1) := by decide +kernel
theorem dX9_of_10 : decode cX9_of 10 = .ok (.iload_n 2, 1) := by decide +kernel
theorem dX9_of_11 : decode cX9_of 11 = .ok (.iadd, 1) := by decide +kernel
theorem dX9_of_12 : decode cX9_of 12 = .ok (.iaload, 1) := by decide +kernel
theorem dX9_of_13 : decode cX9_of 13 = .ok (.ireturn, 1) := by decide +kernel
set_option maxRecDepth 20000 in
theorem ggX9_minutes_X9_ofMile : GoodIn wsX9_minutes wsX9_ofMile := goodIn_r _ [5, 6, 7, 8, 9, 10, 11, 12, 13, 14, 15, 16, 17, 18, 19, 20, 21, 22, 23, 24, 25, 26, 27, 28, 29, 30, 31, 32, 33, 34, 35, 36, 37, 38, 39, 40, 41, 42, 43] (by decide +kernel) (by decide +kernel)
set_option maxRecDepth 20000 in
theorem gX9_minutes_X9_ofMile : GoodIn wsX9_minutes (wsV RX9 164 RX9 yX9_ofMile wsX9_ofMile) := goodIn_app (goodIn_of _ (by decide +kernel)) ggX9_minutes_X9_ofMile
theorem dX9_minutes_0 : decode cX9_minutes 0 = .ok (.iconst 2, 1) := by decide +kernel
theorem dX9_minutes_1 : decode cX9_minutes 1 = .ok (.iconst 2, 1) := by decide +kernel
theorem dX9_minutes_2 : decode cX9_minutes 2 = .ok (.aload_n 0, 1) := by decide +kernel
theorem dX9_minutes_3 : decode cX9_minutes 3 = .ok (.iload_n 1, 1) := by decide +kernel
theorem dX9_minutes_4 : decode cX9_minutes 4 = .ok (.iconst 1, 1) := by decide +kernel
theorem dX9_minutes_5 : decode cX9_minutes 5 = .ok (.invokevirtual 164, 3) := by decide +kernel
theorem dX9_minutes_8 : decode cX9_minutes 8 = .ok (.imul, 1) := by decide +kernel
theorem dX9_minutes_9 : decode cX9_minutes 9 = .ok (.iadd, 1) := by decide +kernel
theorem dX9_minutes_10 : decode cX9_minutes 10 = .ok (.iconst 3, 1) := by decide +kernel
theorem dX9_minutes_11 : decode cX9_minutes 11 = .ok (.aload_n 0, 1) := by decide +kernel
theorem dX9_minutes_12 : decode cX9_minutes 12 = .ok (.iload_n 1, 1) := by decide +kernel
theorem dX9_minutes_13 : decode cX9_minutes 13 = .ok (.iconst 2, 1) := by decide +kernel
theorem dX9_minutes_14 : decode cX9_minutes 14 = .ok (.invokevirtual 164, 3) := by decide +kernel
theorem dX9_minutes_17 : decode cX9_minutes 17 = .ok (.imul, 1) := by decide +kernel
theorem dX9_minutes_18 : decode cX9_minutes 18 = .ok (.iadd, 1) := by decide +kernel
theorem dX9_minutes_19 : decode cX9_minutes 19 = .ok (.ireturn, 1) := by decide +kernel
set_option maxRecDepth 20000 in
theorem ggX9_hearing_X9_ofMile : GoodIn wsX9_hearing wsX9_ofMile := goodIn_r _ [5, 6, 11, 12, 13, 14, 15, 16, 17, 18, 19, 20, 21, 22, 23, 24, 25, 26, 27, 28, 29, 30, 31, 32, 33, 34, 35, 36, 37, 38, 39, 40, 41, 42, 43, 44, 45, 46, 47] (by decide +kernel) (by decide +kernel)
set_option maxRecDepth 20000 in
theorem gX9_hearing_X9_ofMile : GoodIn wsX9_hearing (wsV RX9 164 RX9 yX9_ofMile wsX9_ofMile) := goodIn_app (goodIn_of _ (by decide +kernel)) ggX9_hearing_X9_ofMile
set_option maxRecDepth 20000 in
theorem ggX9_hearing_X9_minutes : GoodIn wsX9_hearing wsX9_minutes := goodIn_r _ [10, 1, 2, 3, 4, 5, 6, 11, 12, 13, 14, 15, 16, 17, 18, 19, 20, 21, 22, 23, 24, 25, 26, 27, 28, 29, 30, 31, 32, 33, 34, 35, 36, 37, 38, 39, 40, 41, 42, 43, 44, 45, 46, 47] (by decide +kernel) (by decide +kernel)
set_option maxRecDepth 20000 in
theorem gX9_hearing_X9_minutes : GoodIn wsX9_hearing (wsV RX9 167 RX9 yX9_minutes wsX9_minutes) := goodIn_app (goodIn_of _ (by decide +kernel)) ggX9_hearing_X9_minutes
theorem dX9_hearing_0 : decode cX9_hearing 0 = .ok (.aload_n 0, 1) := by decide +kernel
theorem dX9_hearing_1 : decode cX9_hearing 1 = .ok (.iload_n 1, 1) := by decide +kernel
theorem dX9_hearing_2 : decode cX9_hearing 2 = .ok (.iconst 1, 1) := by decide +kernel
theorem dX9_hearing_3 : decode cX9_hearing 3 = .ok (.invokevirtual 164, 3) := by decide +kernel
theorem dX9_hearing_6 : decode cX9_hearing 6 = .ok (.ifCond .ne 22, 3) := by decide +kernel
theorem dX9_hearing_9 : decode cX9_hearing 9 = .ok (.aload_n 0, 1) := by decide +kernel
theorem dX9_hearing_10 : decode cX9_hearing 10 = .ok (.iload_n 1, 1) := by decide +kernel
theorem dX9_hearing_11 : decode cX9_hearing 11 = .ok (.iconst 2, 1) := by decide +kernel
theorem dX9_hearing_12 : decode cX9_hearing 12 = .ok (.invokevirtual 164, 3) := by decide +kernel
theorem dX9_hearing_15 : decode cX9_hearing 15 = .ok (.ifCond .ne 13, 3) := by decide +kernel
theorem dX9_hearing_18 : decode cX9_hearing 18 = .ok (.aload_n 0, 1) := by decide +kernel
theorem dX9_hearing_19 : decode cX9_hearing 19 = .ok (.iload_n 1, 1) := by decide +kernel
theorem dX9_hearing_20 : decode cX9_hearing 20 = .ok (.invokevirtual 167, 3) := by decide +kernel
theorem dX9_hearing_23 : decode cX9_hearing 23 = .ok (.iconst 2, 1) := by decide +kernel
theorem dX9_hearing_24 : decode cX9_hearing 24 = .ok (.idiv, 1) := by decide +kernel
theorem dX9_hearing_25 : decode cX9_hearing 25 = .ok (.goto 8, 3) := by decide +kernel
theorem dX9_hearing_28 : decode cX9_hearing 28 = .ok (.aload_n 0, 1) := by decide +kernel
theorem dX9_hearing_29 : decode cX9_hearing 29 = .ok (.iload_n 1, 1) := by decide +kernel
theorem dX9_hearing_30 : decode cX9_hearing 30 = .ok (.invokevirtual 167, 3) := by decide +kernel
theorem dX9_hearing_33 : decode cX9_hearing 33 = .ok (.ireturn, 1) := by decide +kernel
set_option maxRecDepth 20000 in
theorem ggX9_strainOf_X9_minutes : GoodIn wsX9_strainOf wsX9_minutes := goodIn_r _ [5, 6, 7, 8, 4, 9, 10, 15, 16, 17, 18, 19, 20, 21, 22, 23, 24, 25, 26, 27, 28, 29, 30, 31, 32, 33, 34, 35, 36, 37, 38, 39, 40, 41, 42, 43, 44, 45, 46, 47, 48, 49, 50, 51] (by decide +kernel) (by decide +kernel)
set_option maxRecDepth 20000 in
theorem gX9_strainOf_X9_minutes : GoodIn wsX9_strainOf (wsV RX9 167 RX9 yX9_minutes wsX9_minutes) := goodIn_app (goodIn_of _ (by decide +kernel)) ggX9_strainOf_X9_minutes
set_option maxRecDepth 20000 in
theorem ggX9_strainOf_X9_ofMile : GoodIn wsX9_strainOf wsX9_ofMile := goodIn_r _ [9, 10, 15, 16, 17, 18, 19, 20, 21, 22, 23, 24, 25, 26, 27, 28, 29, 30, 31, 32, 33, 34, 35, 36, 37, 38, 39, 40, 41, 42, 43, 44, 45, 46, 47, 48, 49, 50, 51] (by decide +kernel) (by decide +kernel)
set_option maxRecDepth 20000 in
theorem gX9_strainOf_X9_ofMile : GoodIn wsX9_strainOf (wsV RX9 164 RX9 yX9_ofMile wsX9_ofMile) := goodIn_app (goodIn_of _ (by decide +kernel)) ggX9_strainOf_X9_ofMile
set_option maxRecDepth 20000 in
theorem ggX9_strainOf_X9_of : GoodIn wsX9_strainOf wsX9_of := goodIn_r _ [14, 10, 15, 16, 17, 18, 19, 20, 21, 22, 23, 24, 25, 26, 27, 28, 29, 30, 31, 32, 33, 34, 35, 36, 37, 38, 39, 40, 41, 42, 43, 44, 45, 46, 47, 48, 49, 50, 51] (by decide +kernel) (by decide +kernel)
set_option maxRecDepth 20000 in
theorem gX9_strainOf_X9_of : GoodIn wsX9_strainOf (wsV RX9 170 RX9 yX9_of wsX9_of) := goodIn_app (goodIn_of _ (by decide +kernel)) ggX9_strainOf_X9_of
theorem dX9_strainOf_0 : decode cX9_strainOf 0 = .ok (.aload_n 0, 1) := by decide +kernel
theorem dX9_strainOf_1 : decode cX9_strainOf 1 = .ok (.iload_n 2, 1) := by decide +kernel
theorem dX9_strainOf_2 : decode cX9_strainOf 2 = .ok (.invokevirtual 167, 3) := by decide +kernel
theorem dX9_strainOf_5 : decode cX9_strainOf 5 = .ok (.aload_n 0, 1) := by decide +kernel
theorem dX9_strainOf_6 : decode cX9_strainOf 6 = .ok (.iload_n 2, 1) := by decide +kernel
theorem dX9_strainOf_7 : decode cX9_strainOf 7 = .ok (.iconst 1, 1) := by decide +kernel
theorem dX9_strainOf_8 : decode cX9_strainOf 8 = .ok (.invokevirtual 164, 3) := by decide +kernel
theorem dX9_strainOf_11 : decode cX9_strainOf 11 = .ok (.iadd, 1) := by decide +kernel
theorem dX9_strainOf_12 : decode cX9_strainOf 12 = .ok (.istore_n 3, 1) := by decide +kernel
theorem dX9_strainOf_13 : decode cX9_strainOf 13 = .ok (.aload_n 0, 1) := by decide +kernel
theorem dX9_strainOf_14 : decode cX9_strainOf 14 = .ok (.iload_n 1, 1) := by decide +kernel
theorem dX9_strainOf_15 : decode cX9_strainOf 15 = .ok (.iconst 0, 1) := by decide +kernel
theorem dX9_strainOf_16 : decode cX9_strainOf 16 = .ok (.invokevirtual 170, 3) := by decide +kernel
theorem dX9_strainOf_19 : decode cX9_strainOf 19 = .ok (.istore 4, 2) := by decide +kernel
theorem dX9_strainOf_21 : decode cX9_strainOf 21 = .ok (.iload 4, 2) := by decide +kernel
theorem dX9_strainOf_23 : decode cX9_strainOf 23 = .ok (.iconst 1, 1) := by decide +kernel
theorem dX9_strainOf_24 : decode cX9_strainOf 24 = .ok (.if_icmp .ne 9, 3) := by decide +kernel
theorem dX9_strainOf_27 : decode cX9_strainOf 27 = .ok (.iload_n 3, 1) := by decide +kernel
theorem dX9_strainOf_28 : decode cX9_strainOf 28 = .ok (.iconst 2, 1) := by decide +kernel
theorem dX9_strainOf_29 : decode cX9_strainOf 29 = .ok (.idiv, 1) := by decide +kernel
theorem dX9_strainOf_30 : decode cX9_strainOf 30 = .ok (.goto 16, 3) := by decide +kernel
theorem dX9_strainOf_33 : decode cX9_strainOf 33 = .ok (.iload 4, 2) := by decide +kernel
theorem dX9_strainOf_35 : decode cX9_strainOf 35 = .ok (.iconst 2, 1) := by decide +kernel
theorem dX9_strainOf_36 : decode cX9_strainOf 36 = .ok (.if_icmp .ne 9, 3) := by decide +kernel
theorem dX9_strainOf_39 : decode cX9_strainOf 39 = .ok (.iconst 2, 1) := by decide +kernel
theorem dX9_strainOf_40 : decode cX9_strainOf 40 = .ok (.iload_n 3, 1) := by decide +kernel
theorem dX9_strainOf_41 : decode cX9_strainOf 41 = .ok (.imul, 1) := by decide +kernel
theorem dX9_strainOf_42 : decode cX9_strainOf 42 = .ok (.goto 4, 3) := by decide +kernel
theorem dX9_strainOf_45 : decode cX9_strainOf 45 = .ok (.iload_n 3, 1) := by decide +kernel
theorem dX9_strainOf_46 : decode cX9_strainOf 46 = .ok (.ireturn, 1) := by decide +kernel
set_option maxRecDepth 20000 in
theorem ggX9_canRun_X9_of : GoodIn wsX9_canRun wsX9_of := goodIn_r _ [8, 2, 21, 22, 23, 24, 25, 26, 27, 28, 29, 30, 31, 32, 33, 34, 35, 36, 37, 38, 39, 40, 41, 42, 43, 44, 45, 46, 47, 48, 49, 50, 51, 52, 53, 54, 55, 56, 57] (by decide +kernel) (by decide +kernel)
set_option maxRecDepth 20000 in
theorem gX9_canRun_X9_of : GoodIn wsX9_canRun (wsV RX9 170 RX9 yX9_of wsX9_of) := goodIn_app (goodIn_of _ (by decide +kernel)) ggX9_canRun_X9_of
set_option maxRecDepth 20000 in
theorem ggX9_canRun_X9_ofMile : GoodIn wsX9_canRun wsX9_ofMile := goodIn_r _ [12, 2, 21, 22, 23, 24, 25, 26, 27, 28, 29, 30, 31, 32, 33, 34, 35, 36, 37, 38, 39, 40, 41, 42, 43, 44, 45, 46, 47, 48, 49, 50, 51, 52, 53, 54, 55, 56, 57] (by decide +kernel) (by decide +kernel)
set_option maxRecDepth 20000 in
theorem gX9_canRun_X9_ofMile : GoodIn wsX9_canRun (wsV RX9 164 RX9 yX9_ofMile wsX9_ofMile) := goodIn_app (goodIn_of _ (by decide +kernel)) ggX9_canRun_X9_ofMile
set_option maxRecDepth 20000 in
theorem ggX9_canRun_X9_strainOf : GoodIn wsX9_canRun wsX9_strainOf := goodIn_r _ [16, 17, 18, 19, 7, 20, 9, 10, 11, 12, 2, 4, 5, 6, 8, 21, 22, 23, 24, 25, 26, 27, 28, 29, 30, 31, 32, 33, 34, 35, 36, 37, 38, 39, 40, 41, 42, 43, 44, 45, 46, 47, 48, 49, 50, 51, 52, 53, 54, 55, 56, 57] (by decide +kernel) (by decide +kernel)
set_option maxRecDepth 20000 in
theorem gX9_canRun_X9_strainOf : GoodIn wsX9_canRun (wsV RX9 173 RX9 yX9_strainOf wsX9_strainOf) := goodIn_app (goodIn_of _ (by decide +kernel)) ggX9_canRun_X9_strainOf
theorem dX9_canRun_0 : decode cX9_canRun 0 = .ok (.aload_n 0, 1) := by decide +kernel
theorem dX9_canRun_1 : decode cX9_canRun 1 = .ok (.iload_n 1, 1) := by decide +kernel
theorem dX9_canRun_2 : decode cX9_canRun 2 = .ok (.iconst 0, 1) := by decide +kernel
theorem dX9_canRun_3 : decode cX9_canRun 3 = .ok (.invokevirtual 170, 3) := by decide +kernel
theorem dX9_canRun_6 : decode cX9_canRun 6 = .ok (.iconst 3, 1) := by decide +kernel
theorem dX9_canRun_7 : decode cX9_canRun 7 = .ok (.if_icmp .ne 33, 3) := by decide +kernel
theorem dX9_canRun_10 : decode cX9_canRun 10 = .ok (.aload_n 0, 1) := by decide +kernel
theorem dX9_canRun_11 : decode cX9_canRun 11 = .ok (.getfield 38, 3) := by decide +kernel
theorem dX9_canRun_14 : decode cX9_canRun 14 = .ok (.iload_n 1, 1) := by decide +kernel
theorem dX9_canRun_15 : decode cX9_canRun 15 = .ok (.baload, 1) := by decide +kernel
theorem dX9_canRun_16 : decode cX9_canRun 16 = .ok (.ifCond .eq 24, 3) := by decide +kernel
theorem dX9_canRun_19 : decode cX9_canRun 19 = .ok (.aload_n 0, 1) := by decide +kernel
theorem dX9_canRun_20 : decode cX9_canRun 20 = .ok (.iload_n 2, 1) := by decide +kernel
theorem dX9_canRun_21 : decode cX9_canRun 21 = .ok (.iconst 0, 1) := by decide +kernel
theorem dX9_canRun_22 : decode cX9_canRun 22 = .ok (.invokevirtual 164, 3) := by decide +kernel
theorem dX9_canRun_25 : decode cX9_canRun 25 = .ok (.aload_n 0, 1) := by decide +kernel
theorem dX9_canRun_26 : decode cX9_canRun 26 = .ok (.iload_n 2, 1) := by decide +kernel
theorem dX9_canRun_27 : decode cX9_canRun 27 = .ok (.iconst 1, 1) := by decide +kernel
theorem dX9_canRun_28 : decode cX9_canRun 28 = .ok (.isub, 1) := by decide +kernel
theorem dX9_canRun_29 : decode cX9_canRun 29 = .ok (.iconst 0, 1) := by decide +kernel
theorem dX9_canRun_30 : decode cX9_canRun 30 = .ok (.invokevirtual 164, 3) := by decide +kernel
theorem dX9_canRun_33 : decode cX9_canRun 33 = .ok (.if_icmp .eq 7, 3) := by decide +kernel
theorem dX9_canRun_36 : decode cX9_canRun 36 = .ok (.iconst 1, 1) := by decide +kernel
theorem dX9_canRun_37 : decode cX9_canRun 37 = .ok (.goto 4, 3) := by decide +kernel
theorem dX9_canRun_40 : decode cX9_canRun 40 = .ok (.iconst 0, 1) := by decide +kernel
theorem dX9_canRun_41 : decode cX9_canRun 41 = .ok (.istore 4, 2) := by decide +kernel
theorem dX9_canRun_43 : decode cX9_canRun 43 = .ok (.iload_n 3, 1) := by decide +kernel
theorem dX9_canRun_44 : decode cX9_canRun 44 = .ok (.aload_n 0, 1) := by decide +kernel
theorem dX9_canRun_45 : decode cX9_canRun 45 = .ok (.getfield 13, 3) := by decide +kernel
theorem dX9_canRun_48 : decode cX9_canRun 48 = .ok (.bipush 44, 2) := by decide +kernel
theorem dX9_canRun_50 : decode cX9_canRun 50 = .ok (.iaload, 1) := by decide +kernel
theorem dX9_canRun_51 : decode cX9_canRun 51 = .ok (.if_icmp .ge 27, 3) := by decide +kernel
theorem dX9_canRun_54 : decode cX9_canRun 54 = .ok (.aload_n 0, 1) := by decide +kernel
theorem dX9_canRun_55 : decode cX9_canRun 55 = .ok (.getfield 35, 3) := by decide +kernel
theorem dX9_canRun_58 : decode cX9_canRun 58 = .ok (.iload_n 1, 1) := by decide +kernel
theorem dX9_canRun_59 : decode cX9_canRun 59 = .ok (.iaload, 1) := by decide +kernel
theorem dX9_canRun_60 : decode cX9_canRun 60 = .ok (.aload_n 0, 1) := by decide +kernel
theorem dX9_canRun_61 : decode cX9_canRun 61 = .ok (.iload_n 1, 1) := by decide +kernel
theorem dX9_canRun_62 : decode cX9_canRun 62 = .ok (.iload_n 2, 1) := by decide +kernel
theorem dX9_canRun_63 : decode cX9_canRun 63 = .ok (.invokevirtual 173, 3) := by decide +kernel
theorem dX9_canRun_66 : decode cX9_canRun 66 = .ok (.if_icmp .lt 12, 3) := by decide +kernel
theorem dX9_canRun_69 : decode cX9_canRun 69 = .ok (.iload 4, 2) := by decide +kernel
theorem dX9_canRun_71 : decode cX9_canRun 71 = .ok (.ifCond .ne 7, 3) := by decide +kernel
theorem dX9_canRun_74 : decode cX9_canRun 74 = .ok (.iconst 1, 1) := by decide +kernel
theorem dX9_canRun_75 : decode cX9_canRun 75 = .ok (.goto 4, 3) := by decide +kernel
theorem dX9_canRun_78 : decode cX9_canRun 78 = .ok (.iconst 0, 1) := by decide +kernel
theorem dX9_canRun_79 : decode cX9_canRun 79 = .ok (.ireturn, 1) := by decide +kernel
set_option maxRecDepth 20000 in
theorem ggX9_runsIn_X9_strainOf : GoodIn wsX9_runsIn wsX9_strainOf := goodIn_r _ [10, 11, 12, 13, 9, 14, 15, 16, 17, 18, 19, 20, 21, 22, 23, 28, 29, 30, 31, 32, 33, 34, 35, 36, 37, 38, 39, 40, 41, 42, 43, 44, 45, 46, 47, 48, 49, 50, 51, 52, 53, 54, 55, 56, 57, 58, 59, 60, 61, 62, 63, 64] (by decide +kernel) (by decide +kernel)
set_option maxRecDepth 20000 in
theorem gX9_runsIn_X9_strainOf : GoodIn wsX9_runsIn (wsV RX9 173 RX9 yX9_strainOf wsX9_strainOf) := goodIn_app (goodIn_of _ (by decide +kernel)) ggX9_runsIn_X9_strainOf
set_option maxRecDepth 20000 in
theorem ggX9_runsIn_X9_ofMile : GoodIn wsX9_runsIn wsX9_ofMile := goodIn_r _ [18, 19, 28, 29, 30, 31, 32, 33, 34, 35, 36, 37, 38, 39, 40, 41, 42, 43, 44, 45, 46, 47, 48, 49, 50, 51, 52, 53, 54, 55, 56, 57, 58, 59, 60, 61, 62, 63, 64] (by decide +kernel) (by decide +kernel)
set_option maxRecDepth 20000 in
theorem gX9_runsIn_X9_ofMile : GoodIn wsX9_runsIn (wsV RX9 164 RX9 yX9_ofMile wsX9_ofMile) := goodIn_app (goodIn_of _ (by decide +kernel)) ggX9_runsIn_X9_ofMile
set_option maxRecDepth 20000 in
theorem ggX9_runsIn_X9_of : GoodIn wsX9_runsIn wsX9_of := goodIn_r _ [23, 19, 28, 29, 30, 31, 32, 33, 34, 35, 36, 37, 38, 39, 40, 41, 42, 43, 44, 45, 46, 47, 48, 49, 50, 51, 52, 53, 54, 55, 56, 57, 58, 59, 60, 61, 62, 63, 64] (by decide +kernel) (by decide +kernel)
set_option maxRecDepth 20000 in
theorem gX9_runsIn_X9_of : GoodIn wsX9_runsIn (wsV RX9 170 RX9 yX9_of wsX9_of) := goodIn_app (goodIn_of _ (by decide +kernel)) ggX9_runsIn_X9_of
set_option maxRecDepth 20000 in
theorem ggX9_runsIn_X9_hearing : GoodIn wsX9_runsIn wsX9_hearing := goodIn_r _ [27, 15, 16, 17, 9, 18, 19, 11, 12, 13, 14, 28, 29, 30, 31, 32, 33, 34, 35, 36, 37, 38, 39, 40, 41, 42, 43, 44, 45, 46, 47, 48, 49, 50, 51, 52, 53, 54, 55, 56, 57, 58, 59, 60, 61, 62, 63, 64] (by decide +kernel) (by decide +kernel)
set_option maxRecDepth 20000 in
theorem gX9_runsIn_X9_hearing : GoodIn wsX9_runsIn (wsV RX9 176 RX9 yX9_hearing wsX9_hearing) := goodIn_app (goodIn_of _ (by decide +kernel)) ggX9_runsIn_X9_hearing
theorem dX9_runsIn_0 : decode cX9_runsIn 0 = .ok (.aload_n 0, 1) := by decide +kernel
theorem dX9_runsIn_1 : decode cX9_runsIn 1 = .ok (.getfield 35, 3) := by decide +kernel
theorem dX9_runsIn_4 : decode cX9_runsIn 4 = .ok (.iload_n 1, 1) := by decide +kernel
theorem dX9_runsIn_5 : decode cX9_runsIn 5 = .ok (.dup2, 1) := by decide +kernel
theorem dX9_runsIn_6 : decode cX9_runsIn 6 = .ok (.iaload, 1) := by decide +kernel
theorem dX9_runsIn_7 : decode cX9_runsIn 7 = .ok (.aload_n 0, 1) := by decide +kernel
theorem dX9_runsIn_8 : decode cX9_runsIn 8 = .ok (.iload_n 1, 1) := by decide +kernel
theorem dX9_runsIn_9 : decode cX9_runsIn 9 = .ok (.iload_n 2, 1) := by decide +kernel
theorem dX9_runsIn_10 : decode cX9_runsIn 10 = .ok (.invokevirtual 173, 3) := by decide +kernel
theorem dX9_runsIn_13 : decode cX9_runsIn 13 = .ok (.isub, 1) := by decide +kernel
theorem dX9_runsIn_14 : decode cX9_runsIn 14 = .ok (.iastore, 1) := by decide +kernel
theorem dX9_runsIn_15 : decode cX9_runsIn 15 = .ok (.aload_n 0, 1) := by decide +kernel
theorem dX9_runsIn_16 : decode cX9_runsIn 16 = .ok (.getfield 32, 3) := by decide +kernel
theorem dX9_runsIn_19 : decode cX9_runsIn 19 = .ok (.iload_n 1, 1) := by decide +kernel
theorem dX9_runsIn_20 : decode cX9_runsIn 20 = .ok (.dup2, 1) := by decide +kernel
theorem dX9_runsIn_21 : decode cX9_runsIn 21 = .ok (.iaload, 1) := by decide +kernel
theorem dX9_runsIn_22 : decode cX9_runsIn 22 = .ok (.aload_n 0, 1) := by decide +kernel
theorem dX9_runsIn_23 : decode cX9_runsIn 23 = .ok (.iload_n 2, 1) := by decide +kernel
theorem dX9_runsIn_24 : decode cX9_runsIn 24 = .ok (.iconst 0, 1) := by decide +kernel
theorem dX9_runsIn_25 : decode cX9_runsIn 25 = .ok (.invokevirtual 164, 3) := by decide +kernel
theorem dX9_runsIn_28 : decode cX9_runsIn 28 = .ok (.aload_n 0, 1) := by decide +kernel
theorem dX9_runsIn_29 : decode cX9_runsIn 29 = .ok (.iload_n 1, 1) := by decide +kernel
theorem dX9_runsIn_30 : decode cX9_runsIn 30 = .ok (.iconst 3, 1) := by decide +kernel
theorem dX9_runsIn_31 : decode cX9_runsIn 31 = .ok (.invokevirtual 170, 3) := by decide +kernel
theorem dX9_runsIn_34 : decode cX9_runsIn 34 = .ok (.if_icmp .ne 11, 3) := by decide +kernel
theorem dX9_runsIn_37 : decode cX9_runsIn 37 = .ok (.aload_n 0, 1) := by decide +kernel
theorem dX9_runsIn_38 : decode cX9_runsIn 38 = .ok (.iload_n 2, 1) := by decide +kernel
theorem dX9_runsIn_39 : decode cX9_runsIn 39 = .ok (.invokevirtual 176, 3) := by decide +kernel
theorem dX9_runsIn_42 : decode cX9_runsIn 42 = .ok (.goto 4, 3) := by decide +kernel
theorem dX9_runsIn_45 : decode cX9_runsIn 45 = .ok (.iconst 0, 1) := by decide +kernel
theorem dX9_runsIn_46 : decode cX9_runsIn 46 = .ok (.iadd, 1) := by decide +kernel
theorem dX9_runsIn_47 : decode cX9_runsIn 47 = .ok (.iastore, 1) := by decide +kernel
theorem dX9_runsIn_48 : decode cX9_runsIn 48 = .ok (.aload_n 0, 1) := by decide +kernel
theorem dX9_runsIn_49 : decode cX9_runsIn 49 = .ok (.getfield 32, 3) := by decide +kernel
theorem dX9_runsIn_52 : decode cX9_runsIn 52 = .ok (.iload_n 1, 1) := by decide +kernel
theorem dX9_runsIn_53 : decode cX9_runsIn 53 = .ok (.iaload, 1) := by decide +kernel
theorem dX9_runsIn_54 : decode cX9_runsIn 54 = .ok (.aload_n 0, 1) := by decide +kernel
theorem dX9_runsIn_55 : decode cX9_runsIn 55 = .ok (.iload_n 1, 1) := by decide +kernel
theorem dX9_runsIn_56 : decode cX9_runsIn 56 = .ok (.iconst 2, 1) := by decide +kernel
theorem dX9_runsIn_57 : decode cX9_runsIn 57 = .ok (.invokevirtual 170, 3) := by decide +kernel
theorem dX9_runsIn_60 : decode cX9_runsIn 60 = .ok (.if_icmp .lt 7, 3) := by decide +kernel
theorem dX9_runsIn_63 : decode cX9_runsIn 63 = .ok (.iconst 1, 1) := by decide +kernel
theorem dX9_runsIn_64 : decode cX9_runsIn 64 = .ok (.goto 4, 3) := by decide +kernel
theorem dX9_runsIn_67 : decode cX9_runsIn 67 = .ok (.iconst 0, 1) := by decide +kernel
theorem dX9_runsIn_68 : decode cX9_runsIn 68 = .ok (.istore_n 3, 1) := by decide +kernel
theorem dX9_runsIn_69 : decode cX9_runsIn 69 = .ok (.aload_n 0, 1) := by decide +kernel
theorem dX9_runsIn_70 : decode cX9_runsIn 70 = .ok (.getfield 26, 3) := by decide +kernel
theorem dX9_runsIn_73 : decode cX9_runsIn 73 = .ok (.iload_n 1, 1) := by decide +kernel
theorem dX9_runsIn_74 : decode cX9_runsIn 74 = .ok (.iload_n 3, 1) := by decide +kernel
theorem dX9_runsIn_75 : decode cX9_runsIn 75 = .ok (.ifCond .eq 7, 3) := by decide +kernel
theorem dX9_runsIn_78 : decode cX9_runsIn 78 = .ok (.iload_n 2, 1) := by decide +kernel
theorem dX9_runsIn_79 : decode cX9_runsIn 79 = .ok (.goto 5, 3) := by decide +kernel
theorem dX9_runsIn_82 : decode cX9_runsIn 82 = .ok (.bipush (-4), 2) := by decide +kernel
theorem dX9_runsIn_84 : decode cX9_runsIn 84 = .ok (.iastore, 1) := by decide +kernel

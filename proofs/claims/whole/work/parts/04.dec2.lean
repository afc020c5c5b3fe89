theorem dX6_readToken_127 : decode cX6_readToken 127 = .ok (.getfield 15, 3) := by decide +kernel
theorem dX6_readToken_130 : decode cX6_readToken 130 = .ok (.if_icmp .ge 35, 3) := by decide +kernel
theorem dX6_readToken_133 : decode cX6_readToken 133 = .ok (.aload_n 0, 1) := by decide +kernel
theorem dX6_readToken_134 : decode cX6_readToken 134 = .ok (.getfield 9, 3) := by decide +kernel
theorem dX6_readToken_137 : decode cX6_readToken 137 = .ok (.aload_n 0, 1) := by decide +kernel
theorem dX6_readToken_138 : decode cX6_readToken 138 = .ok (.getfield 19, 3) := by decide +kernel
theorem dX6_readToken_141 : decode cX6_readToken 141 = .ok (.baload, 1) := by decide +kernel
theorem dX6_readToken_142 : decode cX6_readToken 142 = .ok (.invokestatic 34, 3) := by decide +kernel
theorem dX6_readToken_145 : decode cX6_readToken 145 = .ok (.aload_n 0, 1) := by decide +kernel
theorem dX6_readToken_146 : decode cX6_readToken 146 = .ok (.getfield 31, 3) := by decide +kernel
theorem dX6_readToken_149 : decode cX6_readToken 149 = .ok (.if_icmp .ne 16, 3) := by decide +kernel
theorem dX6_readToken_152 : decode cX6_readToken 152 = .ok (.aload_n 0, 1) := by decide +kernel
theorem dX6_readToken_153 : decode cX6_readToken 153 = .ok (.dup, 1) := by decide +kernel
theorem dX6_readToken_154 : decode cX6_readToken 154 = .ok (.getfield 19, 3) := by decide +kernel
theorem dX6_readToken_157 : decode cX6_readToken 157 = .ok (.iconst 1, 1) := by decide +kernel
theorem dX6_readToken_158 : decode cX6_readToken 158 = .ok (.iadd, 1) := by decide +kernel
theorem dX6_readToken_159 : decode cX6_readToken 159 = .ok (.putfield 19, 3) := by decide +kernel
theorem dX6_readToken_162 : decode cX6_readToken 162 = .ok (.goto (-44), 3) := by decide +kernel
theorem dX6_readToken_165 : decode cX6_readToken 165 = .ok (.aload_n 0, 1) := by decide +kernel
theorem dX6_readToken_166 : decode cX6_readToken 166 = .ok (.getfield 31, 3) := by decide +kernel
theorem dX6_readToken_169 : decode cX6_readToken 169 = .ok (.iconst 4, 1) := by decide +kernel
theorem dX6_readToken_170 : decode cX6_readToken 170 = .ok (.if_icmp .eq 24, 3) := by decide +kernel
theorem dX6_readToken_173 : decode cX6_readToken 173 = .ok (.aload_n 0, 1) := by decide +kernel
theorem dX6_readToken_174 : decode cX6_readToken 174 = .ok (.getfield 31, 3) := by decide +kernel
theorem dX6_readToken_177 : decode cX6_readToken 177 = .ok (.iconst 2, 1) := by decide +kernel
theorem dX6_readToken_178 : decode cX6_readToken 178 = .ok (.if_icmp .ne 25, 3) := by decide +kernel
theorem dX6_readToken_181 : decode cX6_readToken 181 = .ok (.aload_n 0, 1) := by decide +kernel
theorem dX6_readToken_182 : decode cX6_readToken 182 = .ok (.getfield 19, 3) := by decide +kernel
theorem dX6_readToken_185 : decode cX6_readToken 185 = .ok (.aload_n 0, 1) := by decide +kernel
theorem dX6_readToken_186 : decode cX6_readToken 186 = .ok (.getfield 28, 3) := by decide +kernel
theorem dX6_readToken_189 : decode cX6_readToken 189 = .ok (.isub, 1) := by decide +kernel
theorem dX6_readToken_190 : decode cX6_readToken 190 = .ok (.iconst 2, 1) := by decide +kernel
theorem dX6_readToken_191 : decode cX6_readToken 191 = .ok (.if_icmp .le 12, 3) := by decide +kernel
theorem dX6_readToken_194 : decode cX6_readToken 194 = .ok (.aload_n 0, 1) := by decide +kernel
theorem dX6_readToken_195 : decode cX6_readToken 195 = .ok (.iconst 1, 1) := by decide +kernel
theorem dX6_readToken_196 : decode cX6_readToken 196 = .ok (.aload_n 0, 1) := by decide +kernel
theorem dX6_readToken_197 : decode cX6_readToken 197 = .ok (.getfield 28, 3) := by decide +kernel
theorem dX6_readToken_200 : decode cX6_readToken 200 = .ok (.invokevirtual 38, 3) := by decide +kernel
theorem dX6_readToken_203 : decode cX6_readToken 203 = .ok (.return_, 1) := by decide +kernel
theorem dX6_kindOf_0 : decode cX6_kindOf 0 = .ok (.iload_n 0, 1) := by decide +kernel
theorem dX6_kindOf_1 : decode cX6_kindOf 1 = .ok (.bipush 97, 2) := by decide +kernel
theorem dX6_kindOf_3 : decode cX6_kindOf 3 = .ok (.if_icmp .lt 11, 3) := by decide +kernel
theorem dX6_kindOf_6 : decode cX6_kindOf 6 = .ok (.iload_n 0, 1) := by decide +kernel
theorem dX6_kindOf_7 : decode cX6_kindOf 7 = .ok (.bipush 122, 2) := by decide +kernel
theorem dX6_kindOf_9 : decode cX6_kindOf 9 = .ok (.if_icmp .gt 5, 3) := by decide +kernel
theorem dX6_kindOf_12 : decode cX6_kindOf 12 = .ok (.iconst 1, 1) := by decide +kernel
theorem dX6_kindOf_13 : decode cX6_kindOf 13 = .ok (.ireturn, 1) := by decide +kernel
theorem dX6_kindOf_14 : decode cX6_kindOf 14 = .ok (.iload_n 0, 1) := by decide +kernel
theorem dX6_kindOf_15 : decode cX6_kindOf 15 = .ok (.bipush 48, 2) := by decide +kernel
theorem dX6_kindOf_17 : decode cX6_kindOf 17 = .ok (.if_icmp .lt 11, 3) := by decide +kernel
theorem dX6_kindOf_20 : decode cX6_kindOf 20 = .ok (.iload_n 0, 1) := by decide +kernel
theorem dX6_kindOf_21 : decode cX6_kindOf 21 = .ok (.bipush 57, 2) := by decide +kernel
theorem dX6_kindOf_23 : decode cX6_kindOf 23 = .ok (.if_icmp .gt 5, 3) := by decide +kernel
theorem dX6_kindOf_26 : decode cX6_kindOf 26 = .ok (.iconst 2, 1) := by decide +kernel
theorem dX6_kindOf_27 : decode cX6_kindOf 27 = .ok (.ireturn, 1) := by decide +kernel
theorem dX6_kindOf_28 : decode cX6_kindOf 28 = .ok (.iload_n 0, 1) := by decide +kernel
theorem dX6_kindOf_29 : decode cX6_kindOf 29 = .ok (.bipush 59, 2) := by decide +kernel
theorem dX6_kindOf_31 : decode cX6_kindOf 31 = .ok (.if_icmp .ne 7, 3) := by decide +kernel
theorem dX6_kindOf_34 : decode cX6_kindOf 34 = .ok (.iconst 3, 1) := by decide +kernel
theorem dX6_kindOf_35 : decode cX6_kindOf 35 = .ok (.goto 4, 3) := by decide +kernel
theorem dX6_kindOf_38 : decode cX6_kindOf 38 = .ok (.iconst 4, 1) := by decide +kernel
theorem dX6_kindOf_39 : decode cX6_kindOf 39 = .ok (.ireturn, 1) := by decide +kernel
theorem dX6_tokenValue_0 : decode cX6_tokenValue 0 = .ok (.iconst 0, 1) := by decide +kernel
theorem dX6_tokenValue_1 : decode cX6_tokenValue 1 = .ok (.istore_n 1, 1) := by decide +kernel
theorem dX6_tokenValue_2 : decode cX6_tokenValue 2 = .ok (.aload_n 0, 1) := by decide +kernel
theorem dX6_tokenValue_3 : decode cX6_tokenValue 3 = .ok (.getfield 28, 3) := by decide +kernel
theorem dX6_tokenValue_6 : decode cX6_tokenValue 6 = .ok (.istore_n 2, 1) := by decide +kernel
theorem dX6_tokenValue_7 : decode cX6_tokenValue 7 = .ok (.iload_n 2, 1) := by decide +kernel
theorem dX6_tokenValue_8 : decode cX6_tokenValue 8 = .ok (.aload_n 0, 1) := by decide +kernel
theorem dX6_tokenValue_9 : decode cX6_tokenValue 9 = .ok (.getfield 19, 3) := by decide +kernel
theorem dX6_tokenValue_12 : decode cX6_tokenValue 12 = .ok (.if_icmp .ge 24, 3) := by decide +kernel
theorem dX6_tokenValue_15 : decode cX6_tokenValue 15 = .ok (.bipush 10, 2) := by decide +kernel
theorem dX6_tokenValue_17 : decode cX6_tokenValue 17 = .ok (.iload_n 1, 1) := by decide +kernel
theorem dX6_tokenValue_18 : decode cX6_tokenValue 18 = .ok (.imul, 1) := by decide +kernel
theorem dX6_tokenValue_19 : decode cX6_tokenValue 19 = .ok (.aload_n 0, 1) := by decide +kernel
theorem dX6_tokenValue_20 : decode cX6_tokenValue 20 = .ok (.getfield 9, 3) := by decide +kernel
theorem dX6_tokenValue_23 : decode cX6_tokenValue 23 = .ok (.iload_n 2, 1) := by decide +kernel
theorem dX6_tokenValue_24 : decode cX6_tokenValue 24 = .ok (.baload, 1) := by decide +kernel
theorem dX6_tokenValue_25 : decode cX6_tokenValue 25 = .ok (.iadd, 1) := by decide +kernel
theorem dX6_tokenValue_26 : decode cX6_tokenValue 26 = .ok (.bipush 48, 2) := by decide +kernel
theorem dX6_tokenValue_28 : decode cX6_tokenValue 28 = .ok (.isub, 1) := by decide +kernel
theorem dX6_tokenValue_29 : decode cX6_tokenValue 29 = .ok (.istore_n 1, 1) := by decide +kernel
theorem dX6_tokenValue_30 : decode cX6_tokenValue 30 = .ok (.iinc 2 1, 3) := by decide +kernel
theorem dX6_tokenValue_33 : decode cX6_tokenValue 33 = .ok (.goto (-26), 3) := by decide +kernel
theorem dX6_tokenValue_36 : decode cX6_tokenValue 36 = .ok (.iload_n 1, 1) := by decide +kernel
theorem dX6_tokenValue_37 : decode cX6_tokenValue 37 = .ok (.ireturn, 1) := by decide +kernel
set_option maxRecDepth 20000 in
theorem ggX6_tokenSpells_J0_length_8abf5 : GoodIn wsX6_tokenSpells wsJ0_length_8abf5 := goodIn_r _ [8, 9, 10, 11, 12, 7, 13, 14, 15] (by decide +kernel) (by decide +kernel)
set_option maxRecDepth 20000 in
theorem gX6_tokenSpells_J0_length_8abf5 : GoodIn wsX6_tokenSpells (wsV RX6 42 RJ0 yJ0_length_8abf5 wsJ0_length_8abf5) := goodIn_app (goodIn_of _ (by decide +kernel)) ggX6_tokenSpells_J0_length_8abf5
set_option maxRecDepth 20000 in
theorem ggX6_tokenSpells_J0_charAt_5068e : GoodIn wsX6_tokenSpells wsJ0_charAt_5068e := goodIn_r _ [19, 9, 20, 21, 22, 7, 23, 14, 15, 24, 25, 26, 27, 28, 29, 30, 31, 32, 33, 34, 35, 36, 37, 38, 39, 40, 41, 42, 43, 44, 45, 46, 47, 48, 49, 50, 51, 52] (by decide +kernel) (by decide +kernel)
set_option maxRecDepth 20000 in
theorem gX6_tokenSpells_J0_charAt_5068e : GoodIn wsX6_tokenSpells (wsV RX6 47 RJ0 yJ0_charAt_5068e wsJ0_charAt_5068e) := goodIn_app (goodIn_of _ (by decide +kernel)) ggX6_tokenSpells_J0_charAt_5068e
theorem dX6_tokenSpells_0 : decode cX6_tokenSpells 0 = .ok (.aload_n 0, 1) := by decide +kernel
theorem dX6_tokenSpells_1 : decode cX6_tokenSpells 1 = .ok (.getfield 19, 3) := by decide +kernel
theorem dX6_tokenSpells_4 : decode cX6_tokenSpells 4 = .ok (.aload_n 0, 1) := by decide +kernel
theorem dX6_tokenSpells_5 : decode cX6_tokenSpells 5 = .ok (.getfield 28, 3) := by decide +kernel
theorem dX6_tokenSpells_8 : decode cX6_tokenSpells 8 = .ok (.isub, 1) := by decide +kernel
theorem dX6_tokenSpells_9 : decode cX6_tokenSpells 9 = .ok (.aload_n 1, 1) := by decide +kernel
theorem dX6_tokenSpells_10 : decode cX6_tokenSpells 10 = .ok (.invokevirtual 42, 3) := by decide +kernel
theorem dX6_tokenSpells_13 : decode cX6_tokenSpells 13 = .ok (.if_icmp .eq 5, 3) := by decide +kernel
theorem dX6_tokenSpells_16 : decode cX6_tokenSpells 16 = .ok (.iconst 0, 1) := by decide +kernel
theorem dX6_tokenSpells_17 : decode cX6_tokenSpells 17 = .ok (.ireturn, 1) := by decide +kernel
theorem dX6_tokenSpells_18 : decode cX6_tokenSpells 18 = .ok (.aload_n 0, 1) := by decide +kernel
theorem dX6_tokenSpells_19 : decode cX6_tokenSpells 19 = .ok (.getfield 28, 3) := by decide +kernel
theorem dX6_tokenSpells_22 : decode cX6_tokenSpells 22 = .ok (.istore_n 2, 1) := by decide +kernel
theorem dX6_tokenSpells_23 : decode cX6_tokenSpells 23 = .ok (.iload_n 2, 1) := by decide +kernel
theorem dX6_tokenSpells_24 : decode cX6_tokenSpells 24 = .ok (.aload_n 0, 1) := by decide +kernel
theorem dX6_tokenSpells_25 : decode cX6_tokenSpells 25 = .ok (.getfield 19, 3) := by decide +kernel
theorem dX6_tokenSpells_28 : decode cX6_tokenSpells 28 = .ok (.if_icmp .ge 30, 3) := by decide +kernel
theorem dX6_tokenSpells_31 : decode cX6_tokenSpells 31 = .ok (.aload_n 0, 1) := by decide +kernel
theorem dX6_tokenSpells_32 : decode cX6_tokenSpells 32 = .ok (.getfield 9, 3) := by decide +kernel
theorem dX6_tokenSpells_35 : decode cX6_tokenSpells 35 = .ok (.iload_n 2, 1) := by decide +kernel
theorem dX6_tokenSpells_36 : decode cX6_tokenSpells 36 = .ok (.baload, 1) := by decide +kernel
theorem dX6_tokenSpells_37 : decode cX6_tokenSpells 37 = .ok (.aload_n 1, 1) := by decide +kernel
theorem dX6_tokenSpells_38 : decode cX6_tokenSpells 38 = .ok (.iload_n 2, 1) := by decide +kernel
theorem dX6_tokenSpells_39 : decode cX6_tokenSpells 39 = .ok (.aload_n 0, 1) := by decide +kernel
theorem dX6_tokenSpells_40 : decode cX6_tokenSpells 40 = .ok (.getfield 28, 3) := by decide +kernel
theorem dX6_tokenSpells_43 : decode cX6_tokenSpells 43 = .ok (.isub, 1) := by decide +kernel
theorem dX6_tokenSpells_44 : decode cX6_tokenSpells 44 = .ok (.invokevirtual 47, 3) := by decide +kernel
theorem dX6_tokenSpells_47 : decode cX6_tokenSpells 47 = .ok (.if_icmp .eq 5, 3) := by decide +kernel
theorem dX6_tokenSpells_50 : decode cX6_tokenSpells 50 = .ok (.iconst 0, 1) := by decide +kernel
theorem dX6_tokenSpells_51 : decode cX6_tokenSpells 51 = .ok (.ireturn, 1) := by decide +kernel
theorem dX6_tokenSpells_52 : decode cX6_tokenSpells 52 = .ok (.iinc 2 1, 3) := by decide +kernel
theorem dX6_tokenSpells_55 : decode cX6_tokenSpells 55 = .ok (.goto (-32), 3) := by decide +kernel
theorem dX6_tokenSpells_58 : decode cX6_tokenSpells 58 = .ok (.iconst 1, 1) := by decide +kernel
theorem dX6_tokenSpells_59 : decode cX6_tokenSpells 59 = .ok (.ireturn, 1) := by decide +kernel
theorem dX7_init_0 : decode cX7_init 0 = .ok (.aload_n 0, 1) := by decide +kernel
theorem dX7_init_1 : decode cX7_init 1 = .ok (.invokespecial 3, 3) := by decide +kernel
theorem dX7_init_4 : decode cX7_init 4 = .ok (.aload_n 0, 1) := by decide +kernel
theorem dX7_init_5 : decode cX7_init 5 = .ok (.aload_n 1, 1) := by decide +kernel
theorem dX7_init_6 : decode cX7_init 6 = .ok (.putfield 9, 3) := by decide +kernel
theorem dX7_init_9 : decode cX7_init 9 = .ok (.return_, 1) := by decide +kernel
set_option maxRecDepth 20000 in
theorem ggX7_tellInto_X2_wipe : GoodIn wsX7_tellInto wsX2_wipe := goodIn_r _ [8, 9, 10, 11, 12, 13, 162, 163, 164, 165, 166, 167, 168, 169, 170, 171, 172, 173] (by decide +kernel) (by decide +kernel)
set_option maxRecDepth 20000 in
theorem gX7_tellInto_X2_wipe : GoodIn wsX7_tellInto (wsV RX7 15 RX2 yX2_wipe wsX2_wipe) := goodIn_app (goodIn_of _ (by decide +kernel)) ggX7_tellInto_X2_wipe
set_option maxRecDepth 20000 in
theorem ggX7_tellInto_X6_rewind : GoodIn wsX7_tellInto wsX6_rewind := goodIn_r _ [18, 19, 20, 155, 156, 157, 158, 159, 160, 161] (by decide +kernel) (by decide +kernel)
set_option maxRecDepth 20000 in
theorem gX7_tellInto_X6_rewind : GoodIn wsX7_tellInto (wsV RX7 20 RX6 yX6_rewind wsX6_rewind) := goodIn_app (goodIn_of _ (by decide +kernel)) ggX7_tellInto_X6_rewind
set_option maxRecDepth 20000 in
theorem ggX7_tellInto_X7_takeLine : GoodIn wsX7_tellInto wsX7_takeLine := goodIn_r _ [25, 1, 26, 27, 28, 17, 29, 20, 19, 30, 31, 32, 33, 34, 35, 36, 37, 38, 39, 40, 41, 42, 43, 44, 24, 45, 46, 47, 48, 49, 50, 51, 52, 53, 54, 55, 56, 57, 58, 59, 60, 61, 62, 63, 64, 65, 66, 67, 68, 69, 70, 71, 72, 73, 74, 75, 76, 77, 78, 79, 80, 81, 82, 83, 84, 85, 86, 87, 88, 89, 90, 91, 92, 93, 94, 95, 96, 97, 98, 99, 100, 101, 102, 103, 104, 105, 106, 107, 108, 109, 110, 111, 112, 113, 114, 115, 116, 117, 118, 119, 120, 121, 122, 2, 123, 124, 125, 126, 3, 127, 128, 129, 130, 131, 132, 133, 7, 134, 135, 136, 137, 138, 139, 140, 141, 142, 143, 152, 153, 154, 155, 156, 157, 158, 159, 160, 161, 162, 163, 164, 165, 166, 167, 168, 169, 170, 171, 172, 173] (by decide +kernel) (by decide +kernel)
set_option maxRecDepth 20000 in
theorem gX7_tellInto_X7_takeLine : GoodIn wsX7_tellInto (wsV RX7 32 RX7 yX7_takeLine wsX7_takeLine) := goodIn_app (goodIn_of _ (by decide +kernel)) ggX7_tellInto_X7_takeLine
set_option maxRecDepth 20000 in
theorem ggX7_tellInto_X2_lacksMile : GoodIn wsX7_tellInto wsX2_lacksMile := goodIn_r _ [147, 13, 10, 139, 148, 149, 150, 7, 151, 9, 162, 163, 164, 165, 166, 167, 168, 169, 170, 171, 172, 173] (by decide +kernel) (by decide +kernel)
set_option maxRecDepth 20000 in
theorem gX7_tellInto_X2_lacksMile : GoodIn wsX7_tellInto (wsV RX7 36 RX2 yX2_lacksMile wsX2_lacksMile) := goodIn_app (goodIn_of _ (by decide +kernel)) ggX7_tellInto_X2_lacksMile
set_option maxRecDepth 20000 in
theorem ggX7_tellInto_X6_blame : GoodIn wsX7_tellInto wsX6_blame := goodIn_r _ [40, 20, 41, 155, 156, 157, 158, 159, 160, 161] (by decide +kernel) (by decide +kernel)
set_option maxRecDepth 20000 in
theorem gX7_tellInto_X6_blame : GoodIn wsX7_tellInto (wsV RX7 44 RX6 yX6_blame wsX6_blame) := goodIn_app (goodIn_of _ (by decide +kernel)) ggX7_tellInto_X6_blame
theorem dX7_tellInto_0 : decode cX7_tellInto 0 = .ok (.aload_n 1, 1) := by decide +kernel
theorem dX7_tellInto_1 : decode cX7_tellInto 1 = .ok (.invokevirtual 15, 3) := by decide +kernel
theorem dX7_tellInto_4 : decode cX7_tellInto 4 = .ok (.aload_n 0, 1) := by decide +kernel
theorem dX7_tellInto_5 : decode cX7_tellInto 5 = .ok (.getfield 9, 3) := by decide +kernel
theorem dX7_tellInto_8 : decode cX7_tellInto 8 = .ok (.invokevirtual 20, 3) := by decide +kernel
theorem dX7_tellInto_11 : decode cX7_tellInto 11 = .ok (.aload_n 0, 1) := by decide +kernel
theorem dX7_tellInto_12 : decode cX7_tellInto 12 = .ok (.iconst 0, 1) := by decide +kernel
theorem dX7_tellInto_13 : decode cX7_tellInto 13 = .ok (.putfield 25, 3) := by decide +kernel
theorem dX7_tellInto_16 : decode cX7_tellInto 16 = .ok (.aload_n 0, 1) := by decide +kernel
theorem dX7_tellInto_17 : decode cX7_tellInto 17 = .ok (.iconst 0, 1) := by decide +kernel
theorem dX7_tellInto_18 : decode cX7_tellInto 18 = .ok (.putfield 29, 3) := by decide +kernel
theorem dX7_tellInto_21 : decode cX7_tellInto 21 = .ok (.iconst 0, 1) := by decide +kernel
theorem dX7_tellInto_22 : decode cX7_tellInto 22 = .ok (.istore_n 2, 1) := by decide +kernel
theorem dX7_tellInto_23 : decode cX7_tellInto 23 = .ok (.iload_n 2, 1) := by decide +kernel
theorem dX7_tellInto_24 : decode cX7_tellInto 24 = .ok (.sipush 160, 3) := by decide +kernel
theorem dX7_tellInto_27 : decode cX7_tellInto 27 = .ok (.if_icmp .ge 17, 3) := by decide +kernel
theorem dX7_tellInto_30 : decode cX7_tellInto 30 = .ok (.aload_n 0, 1) := by decide +kernel
theorem dX7_tellInto_31 : decode cX7_tellInto 31 = .ok (.aload_n 1, 1) := by decide +kernel
theorem dX7_tellInto_32 : decode cX7_tellInto 32 = .ok (.invokevirtual 32, 3) := by decide +kernel
theorem dX7_tellInto_35 : decode cX7_tellInto 35 = .ok (.ifCond .eq 9, 3) := by decide +kernel
theorem dX7_tellInto_38 : decode cX7_tellInto 38 = .ok (.iinc 2 1, 3) := by decide +kernel
theorem dX7_tellInto_41 : decode cX7_tellInto 41 = .ok (.goto (-18), 3) := by decide +kernel
theorem dX7_tellInto_44 : decode cX7_tellInto 44 = .ok (.aload_n 1, 1) := by decide +kernel
theorem dX7_tellInto_45 : decode cX7_tellInto 45 = .ok (.invokevirtual 36, 3) := by decide +kernel
theorem dX7_tellInto_48 : decode cX7_tellInto 48 = .ok (.ifCond .eq 19, 3) := by decide +kernel
theorem dX7_tellInto_51 : decode cX7_tellInto 51 = .ok (.aload_n 0, 1) := by decide +kernel
theorem dX7_tellInto_52 : decode cX7_tellInto 52 = .ok (.getfield 9, 3) := by decide +kernel
theorem dX7_tellInto_55 : decode cX7_tellInto 55 = .ok (.bipush 6, 2) := by decide +kernel
theorem dX7_tellInto_57 : decode cX7_tellInto 57 = .ok (.aload_n 0, 1) := by decide +kernel
theorem dX7_tellInto_58 : decode cX7_tellInto 58 = .ok (.getfield 9, 3) := by decide +kernel
theorem dX7_tellInto_61 : decode cX7_tellInto 61 = .ok (.getfield 40, 3) := by decide +kernel
theorem dX7_tellInto_64 : decode cX7_tellInto 64 = .ok (.invokevirtual 44, 3) := by decide +kernel
theorem dX7_tellInto_67 : decode cX7_tellInto 67 = .ok (.aload_n 0, 1) := by decide +kernel
theorem dX7_tellInto_68 : decode cX7_tellInto 68 = .ok (.getfield 9, 3) := by decide +kernel
theorem dX7_tellInto_71 : decode cX7_tellInto 71 = .ok (.getfield 48, 3) := by decide +kernel
theorem dX7_tellInto_74 : decode cX7_tellInto 74 = .ok (.ifCond .ne 7, 3) := by decide +kernel
theorem dX7_tellInto_77 : decode cX7_tellInto 77 = .ok (.iload_n 2, 1) := by decide +kernel
theorem dX7_tellInto_78 : decode cX7_tellInto 78 = .ok (.goto 13, 3) := by decide +kernel
theorem dX7_tellInto_81 : decode cX7_tellInto 81 = .ok (.bipush (-10), 2) := by decide +kernel
theorem dX7_tellInto_83 : decode cX7_tellInto 83 = .ok (.aload_n 0, 1) := by decide +kernel
theorem dX7_tellInto_84 : decode cX7_tellInto 84 = .ok (.getfield 9, 3) := by decide +kernel
theorem dX7_tellInto_87 : decode cX7_tellInto 87 = .ok (.getfield 51, 3) := by decide +kernel
theorem dX7_tellInto_90 : decode cX7_tellInto 90 = .ok (.isub, 1) := by decide +kernel
theorem dX7_tellInto_91 : decode cX7_tellInto 91 = .ok (.ireturn, 1) := by decide +kernel
set_option maxRecDepth 20000 in
theorem ggX7_takeLine_X6_readToken : GoodIn wsX7_takeLine wsX6_readToken := goodIn_r _ [6, 7, 8, 9, 10, 11, 12, 13, 14, 5, 15, 16, 17, 18, 19, 20, 130, 131, 132, 133, 134, 135, 136] (by decide +kernel) (by decide +kernel)
set_option maxRecDepth 20000 in
theorem gX7_takeLine_X6_readToken : GoodIn wsX7_takeLine (wsV RX7 54 RX6 yX6_readToken wsX6_readToken) := goodIn_app (goodIn_of _ (by decide +kernel)) ggX7_takeLine_X6_readToken
set_option maxRecDepth 20000 in
theorem ggX7_takeLine_X7_lineOfName : GoodIn wsX7_takeLine wsX7_lineOfName := goodIn_r _ [25, 1, 26, 27, 28, 5, 29, 8, 11, 10, 30, 31, 32, 33, 34, 35, 36, 37, 38, 39, 40, 41, 42, 43, 44, 45, 46, 47, 48, 49, 50, 51, 52, 53, 54, 55, 56, 57, 58, 59, 60, 61, 62, 63, 64, 65, 66, 67, 68, 69, 70, 71, 72, 73, 74, 75, 76, 77, 78, 127, 128, 129, 130, 131, 132, 133, 134, 135, 136] (by decide +kernel) (by decide +kernel)
set_option maxRecDepth 20000 in
theorem gX7_takeLine_X7_lineOfName : GoodIn wsX7_takeLine (wsV RX7 60 RX7 yX7_lineOfName wsX7_lineOfName) := goodIn_app (goodIn_of _ (by decide +kernel)) ggX7_takeLine_X7_lineOfName
set_option maxRecDepth 20000 in
theorem ggX7_takeLine_X7_takeMile : GoodIn wsX7_takeLine wsX7_takeMile := goodIn_r _ [82, 1, 83, 17, 18, 5, 19, 7, 20, 84, 85, 86, 24, 87, 2, 3, 4, 6, 8, 9, 10, 11, 12, 13, 14, 15, 16, 88, 89, 90, 91, 92, 93, 94, 137, 138, 139, 140, 141, 142, 143, 144, 145, 146, 147, 148, 127, 128, 129, 130, 131, 132, 133, 134, 135, 136] (by decide +kernel) (by decide +kernel)
set_option maxRecDepth 20000 in
theorem gX7_takeLine_X7_takeMile : GoodIn wsX7_takeLine (wsV RX7 64 RX7 yX7_takeMile wsX7_takeMile) := goodIn_app (goodIn_of _ (by decide +kernel)) ggX7_takeLine_X7_takeMile
set_option maxRecDepth 20000 in
theorem ggX7_takeLine_X7_takeMud : GoodIn wsX7_takeLine wsX7_takeMud := goodIn_r _ [98, 1, 84, 85, 86, 24, 87, 2, 3, 4, 5, 6, 7, 8, 9, 10, 11, 12, 13, 14, 15, 16, 17, 18, 19, 20, 83, 88, 89, 90, 91, 92, 93, 94, 137, 138, 139, 140, 141, 142, 143, 144, 145, 146, 147, 148, 127, 128, 129, 130, 131, 132, 133, 134, 135, 136] (by decide +kernel) (by decide +kernel)
set_option maxRecDepth 20000 in
theorem gX7_takeLine_X7_takeMud : GoodIn wsX7_takeLine (wsV RX7 68 RX7 yX7_takeMud wsX7_takeMud) := goodIn_app (goodIn_of _ (by decide +kernel)) ggX7_takeLine_X7_takeMud
set_option maxRecDepth 20000 in
theorem ggX7_takeLine_X7_takeRoom : GoodIn wsX7_takeLine wsX7_takeRoom := goodIn_r _ [102, 103, 1, 83, 17, 18, 5, 19, 7, 20, 84, 85, 86, 24, 87, 2, 3, 4, 6, 8, 9, 10, 11, 12, 13, 14, 15, 16, 88, 89, 90, 91, 92, 93, 94, 127, 128, 129, 130, 131, 132, 133, 134, 135, 136, 137, 138, 139, 140, 141, 142, 143, 144, 145, 146, 147, 148] (by decide +kernel) (by decide +kernel)
set_option maxRecDepth 20000 in
theorem gX7_takeLine_X7_takeRoom : GoodIn wsX7_takeLine (wsV RX7 71 RX7 yX7_takeRoom wsX7_takeRoom) := goodIn_app (goodIn_of _ (by decide +kernel)) ggX7_takeLine_X7_takeRoom
set_option maxRecDepth 20000 in
theorem ggX7_takeLine_X7_takeSnow : GoodIn wsX7_takeLine wsX7_takeSnow := goodIn_r _ [107, 108, 1, 83, 17, 18, 5, 19, 7, 20, 84, 85, 86, 24, 87, 2, 3, 4, 6, 8, 9, 10, 11, 12, 13, 14, 15, 16, 88, 89, 90, 91, 92, 93, 94, 127, 128, 129, 130, 131, 132, 133, 134, 135, 136, 137, 138, 139, 140, 141, 142, 143, 144, 145, 146, 147, 148] (by decide +kernel) (by decide +kernel)
set_option maxRecDepth 20000 in
theorem gX7_takeLine_X7_takeSnow : GoodIn wsX7_takeLine (wsV RX7 74 RX7 yX7_takeSnow wsX7_takeSnow) := goodIn_app (goodIn_of _ (by decide +kernel)) ggX7_takeLine_X7_takeSnow
set_option maxRecDepth 20000 in
theorem ggX7_takeLine_X6_blame : GoodIn wsX7_takeLine wsX6_blame := goodIn_r _ [19, 7, 20, 130, 131, 132, 133, 134, 135, 136] (by decide +kernel) (by decide +kernel)
set_option maxRecDepth 20000 in
theorem gX7_takeLine_X6_blame : GoodIn wsX7_takeLine (wsV RX7 44 RX6 yX6_blame wsX6_blame) := goodIn_app (goodIn_of _ (by decide +kernel)) ggX7_takeLine_X6_blame
set_option maxRecDepth 20000 in
theorem ggX7_takeLine_X7_takeParty : GoodIn wsX7_takeLine wsX7_takeParty := goodIn_r _ [112, 1, 83, 17, 18, 5, 19, 7, 20, 113, 114, 115, 116, 117, 118, 119, 120, 121, 122, 84, 85, 86, 24, 87, 2, 3, 4, 6, 8, 9, 10, 11, 12, 13, 14, 15, 16, 88, 89, 90, 91, 92, 93, 94, 137, 138, 139, 140, 141, 142, 143, 144, 145, 146, 147, 148, 127, 128, 129, 130, 131, 132, 133, 134, 135, 136] (by decide +kernel) (by decide +kernel)
set_option maxRecDepth 20000 in
theorem gX7_takeLine_X7_takeParty : GoodIn wsX7_takeLine (wsV RX7 80 RX7 yX7_takeParty wsX7_takeParty) := goodIn_app (goodIn_of _ (by decide +kernel)) ggX7_takeLine_X7_takeParty
set_option maxRecDepth 20000 in
theorem ggX7_takeLine_X7_takeSemicolon : GoodIn wsX7_takeLine wsX7_takeSemicolon := goodIn_r _ [126, 1, 2, 3, 4, 5, 6, 7, 8, 9, 10, 11, 12, 13, 14, 15, 16, 17, 18, 19, 20, 83, 127, 128, 129, 130, 131, 132, 133, 134, 135, 136] (by decide +kernel) (by decide +kernel)
set_option maxRecDepth 20000 in
theorem gX7_takeLine_X7_takeSemicolon : GoodIn wsX7_takeLine (wsV RX7 84 RX7 yX7_takeSemicolon wsX7_takeSemicolon) := goodIn_app (goodIn_of _ (by decide +kernel)) ggX7_takeLine_X7_takeSemicolon
theorem dX7_takeLine_0 : decode cX7_takeLine 0 = .ok (.aload_n 0, 1) := by decide +kernel
theorem dX7_takeLine_1 : decode cX7_takeLine 1 = .ok (.getfield 9, 3) := by decide +kernel
theorem dX7_takeLine_4 : decode cX7_takeLine 4 = .ok (.invokevirtual 54, 3) := by decide +kernel
theorem dX7_takeLine_7 : decode cX7_takeLine 7 = .ok (.aload_n 0, 1) := by decide +kernel
theorem dX7_takeLine_8 : decode cX7_takeLine 8 = .ok (.getfield 9, 3) := by decide +kernel
theorem dX7_takeLine_11 : decode cX7_takeLine 11 = .ok (.getfield 48, 3) := by decide +kernel
theorem dX7_takeLine_14 : decode cX7_takeLine 14 = .ok (.ifCond .ne 13, 3) := by decide +kernel
theorem dX7_takeLine_17 : decode cX7_takeLine 17 = .ok (.aload_n 0, 1) := by decide +kernel
theorem dX7_takeLine_18 : decode cX7_takeLine 18 = .ok (.getfield 9, 3) := by decide +kernel
theorem dX7_takeLine_21 : decode cX7_takeLine 21 = .ok (.getfield 57, 3) := by decide +kernel
theorem dX7_takeLine_24 : decode cX7_takeLine 24 = .ok (.ifCond .ne 5, 3) := by decide +kernel
theorem dX7_takeLine_27 : decode cX7_takeLine 27 = .ok (.iconst 0, 1) := by decide +kernel
theorem dX7_takeLine_28 : decode cX7_takeLine 28 = .ok (.ireturn, 1) := by decide +kernel
theorem dX7_takeLine_29 : decode cX7_takeLine 29 = .ok (.aload_n 0, 1) := by decide +kernel
theorem dX7_takeLine_30 : decode cX7_takeLine 30 = .ok (.getfield 9, 3) := by decide +kernel
theorem dX7_takeLine_33 : decode cX7_takeLine 33 = .ok (.getfield 57, 3) := by decide +kernel
theorem dX7_takeLine_36 : decode cX7_takeLine 36 = .ok (.iconst 1, 1) := by decide +kernel
theorem dX7_takeLine_37 : decode cX7_takeLine 37 = .ok (.if_icmp .ne 10, 3) := by decide +kernel
theorem dX7_takeLine_40 : decode cX7_takeLine 40 = .ok (.aload_n 0, 1) := by decide +kernel
theorem dX7_takeLine_41 : decode cX7_takeLine 41 = .ok (.invokevirtual 60, 3) := by decide +kernel
theorem dX7_takeLine_44 : decode cX7_takeLine 44 = .ok (.goto 5, 3) := by decide +kernel
theorem dX7_takeLine_47 : decode cX7_takeLine 47 = .ok (.bipush 8, 2) := by decide +kernel
theorem dX7_takeLine_49 : decode cX7_takeLine 49 = .ok (.istore_n 2, 1) := by decide +kernel
theorem dX7_takeLine_50 : decode cX7_takeLine 50 = .ok (.iload_n 2, 1) := by decide +kernel
theorem dX7_takeLine_51 : decode cX7_takeLine 51 = .ok (.tableswitch 83 4 8 #[33, 41, 49, 57, 65], 33) := by decide +kernel
theorem dX7_takeLine_84 : decode cX7_takeLine 84 = .ok (.aload_n 0, 1) := by decide +kernel
theorem dX7_takeLine_85 : decode cX7_takeLine 85 = .ok (.aload_n 1, 1) := by decide +kernel
theorem dX7_takeLine_86 : decode cX7_takeLine 86 = .ok (.invokevirtual 64, 3) := by decide +kernel
theorem dX7_takeLine_89 : decode cX7_takeLine 89 = .ok (.goto 51, 3) := by decide +kernel
theorem dX7_takeLine_92 : decode cX7_takeLine 92 = .ok (.aload_n 0, 1) := by decide +kernel
theorem dX7_takeLine_93 : decode cX7_takeLine 93 = .ok (.aload_n 1, 1) := by decide +kernel
theorem dX7_takeLine_94 : decode cX7_takeLine 94 = .ok (.invokevirtual 68, 3) := by decide +kernel
theorem dX7_takeLine_97 : decode cX7_takeLine 97 = .ok (.goto 43, 3) := by decide +kernel
theorem dX7_takeLine_100 : decode cX7_takeLine 100 = .ok (.aload_n 0, 1) := by decide +kernel
theorem dX7_takeLine_101 : decode cX7_takeLine 101 = .ok (.aload_n 1, 1) := by decide +kernel
theorem dX7_takeLine_102 : decode cX7_takeLine 102 = .ok (.invokevirtual 71, 3) := by decide +kernel
theorem dX7_takeLine_105 : decode cX7_takeLine 105 = .ok (.goto 35, 3) := by decide +kernel
theorem dX7_takeLine_108 : decode cX7_takeLine 108 = .ok (.aload_n 0, 1) := by decide +kernel
theorem dX7_takeLine_109 : decode cX7_takeLine 109 = .ok (.aload_n 1, 1) := by decide +kernel
theorem dX7_takeLine_110 : decode cX7_takeLine 110 = .ok (.invokevirtual 74, 3) := by decide +kernel
theorem dX7_takeLine_113 : decode cX7_takeLine 113 = .ok (.goto 27, 3) := by decide +kernel
theorem dX7_takeLine_116 : decode cX7_takeLine 116 = .ok (.aload_n 0, 1) := by decide +kernel
theorem dX7_takeLine_117 : decode cX7_takeLine 117 = .ok (.getfield 9, 3) := by decide +kernel
theorem dX7_takeLine_120 : decode cX7_takeLine 120 = .ok (.iconst 2, 1) := by decide +kernel
theorem dX7_takeLine_121 : decode cX7_takeLine 121 = .ok (.aload_n 0, 1) := by decide +kernel
theorem dX7_takeLine_122 : decode cX7_takeLine 122 = .ok (.getfield 9, 3) := by decide +kernel
theorem dX7_takeLine_125 : decode cX7_takeLine 125 = .ok (.getfield 77, 3) := by decide +kernel
theorem dX7_takeLine_128 : decode cX7_takeLine 128 = .ok (.invokevirtual 44, 3) := by decide +kernel
theorem dX7_takeLine_131 : decode cX7_takeLine 131 = .ok (.goto 9, 3) := by decide +kernel
theorem dX7_takeLine_134 : decode cX7_takeLine 134 = .ok (.aload_n 0, 1) := by decide +kernel
theorem dX7_takeLine_135 : decode cX7_takeLine 135 = .ok (.aload_n 1, 1) := by decide +kernel
theorem dX7_takeLine_136 : decode cX7_takeLine 136 = .ok (.iload_n 2, 1) := by decide +kernel
theorem dX7_takeLine_137 : decode cX7_takeLine 137 = .ok (.invokevirtual 80, 3) := by decide +kernel
theorem dX7_takeLine_140 : decode cX7_takeLine 140 = .ok (.aload_n 0, 1) := by decide +kernel
theorem dX7_takeLine_141 : decode cX7_takeLine 141 = .ok (.invokevirtual 84, 3) := by decide +kernel
theorem dX7_takeLine_144 : decode cX7_takeLine 144 = .ok (.aload_n 0, 1) := by decide +kernel
theorem dX7_takeLine_145 : decode cX7_takeLine 145 = .ok (.getfield 9, 3) := by decide +kernel
theorem dX7_takeLine_148 : decode cX7_takeLine 148 = .ok (.getfield 48, 3) := by decide +kernel
theorem dX7_takeLine_151 : decode cX7_takeLine 151 = .ok (.ifCond .ne 7, 3) := by decide +kernel
theorem dX7_takeLine_154 : decode cX7_takeLine 154 = .ok (.iconst 1, 1) := by decide +kernel
theorem dX7_takeLine_155 : decode cX7_takeLine 155 = .ok (.goto 4, 3) := by decide +kernel
theorem dX7_takeLine_158 : decode cX7_takeLine 158 = .ok (.iconst 0, 1) := by decide +kernel
theorem dX7_takeLine_159 : decode cX7_takeLine 159 = .ok (.ireturn, 1) := by decide +kernel
set_option maxRecDepth 20000 in
theorem ggX7_lineOfName_X6_tokenSpells : GoodIn wsX7_lineOfName wsX6_tokenSpells := goodIn_r _ [6, 7, 8, 9, 10, 11, 12, 13, 14, 15, 16, 17, 18, 19, 20, 21, 22, 23, 24, 25, 26, 27, 28, 29, 30, 31, 32, 33, 34, 35, 36, 37, 38, 39, 40, 41, 42, 43, 44, 45, 46, 47, 48, 49, 50, 51, 52, 53, 54, 55, 56, 57, 58, 62, 63, 64, 65, 66, 67, 68] (by decide +kernel) (by decide +kernel)
set_option maxRecDepth 20000 in
theorem gX7_lineOfName_X6_tokenSpells : GoodIn wsX7_lineOfName (wsV RX7 89 RX6 yX6_tokenSpells wsX6_tokenSpells) := goodIn_app (goodIn_of _ (by decide +kernel)) ggX7_lineOfName_X6_tokenSpells
theorem dX7_lineOfName_0 : decode cX7_lineOfName 0 = .ok (.aload_n 0, 1) := by decide +kernel
theorem dX7_lineOfName_1 : decode cX7_lineOfName 1 = .ok (.getfield 9, 3) := by decide +kernel
theorem dX7_lineOfName_4 : decode cX7_lineOfName 4 = .ok (.ldc 87, 2) := by decide +kernel
theorem dX7_lineOfName_6 : decode cX7_lineOfName 6 = .ok (.invokevirtual 89, 3) := by decide +kernel
theorem dX7_lineOfName_9 : decode cX7_lineOfName 9 = .ok (.ifCond .eq 5, 3) := by decide +kernel
theorem dX7_lineOfName_12 : decode cX7_lineOfName 12 = .ok (.iconst 0, 1) := by decide +kernel
theorem dX7_lineOfName_13 : decode cX7_lineOfName 13 = .ok (.ireturn, 1) := by decide +kernel
theorem dX7_lineOfName_14 : decode cX7_lineOfName 14 = .ok (.aload_n 0, 1) := by decide +kernel
theorem dX7_lineOfName_15 : decode cX7_lineOfName 15 = .ok (.getfield 9, 3) := by decide +kernel
theorem dX7_lineOfName_18 : decode cX7_lineOfName 18 = .ok (.ldc 93, 2) := by decide +kernel
theorem dX7_lineOfName_20 : decode cX7_lineOfName 20 = .ok (.invokevirtual 89, 3) := by decide +kernel
theorem dX7_lineOfName_23 : decode cX7_lineOfName 23 = .ok (.ifCond .eq 5, 3) := by decide +kernel
theorem dX7_lineOfName_26 : decode cX7_lineOfName 26 = .ok (.iconst 1, 1) := by decide +kernel
theorem dX7_lineOfName_27 : decode cX7_lineOfName 27 = .ok (.ireturn, 1) := by decide +kernel
theorem dX7_lineOfName_28 : decode cX7_lineOfName 28 = .ok (.aload_n 0, 1) := by decide +kernel
theorem dX7_lineOfName_29 : decode cX7_lineOfName 29 = .ok (.getfield 9, 3) := by decide +kernel
theorem dX7_lineOfName_32 : decode cX7_lineOfName 32 = .ok (.ldc 95, 2) := by decide +kernel
theorem dX7_lineOfName_34 : decode cX7_lineOfName 34 = .ok (.invokevirtual 89, 3) := by decide +kernel
theorem dX7_lineOfName_37 : decode cX7_lineOfName 37 = .ok (.ifCond .eq 5, 3) := by decide +kernel
theorem dX7_lineOfName_40 : decode cX7_lineOfName 40 = .ok (.iconst 2, 1) := by decide +kernel
theorem dX7_lineOfName_41 : decode cX7_lineOfName 41 = .ok (.ireturn, 1) := by decide +kernel
theorem dX7_lineOfName_42 : decode cX7_lineOfName 42 = .ok (.aload_n 0, 1) := by decide +kernel
theorem dX7_lineOfName_43 : decode cX7_lineOfName 43 = .ok (.getfield 9, 3) := by decide +kernel
theorem dX7_lineOfName_46 : decode cX7_lineOfName 46 = .ok (.ldc 97, 2) := by decide +kernel
theorem dX7_lineOfName_48 : decode cX7_lineOfName 48 = .ok (.invokevirtual 89, 3) := by decide +kernel
theorem dX7_lineOfName_51 : decode cX7_lineOfName 51 = .ok (.ifCond .eq 5, 3) := by decide +kernel
theorem dX7_lineOfName_54 : decode cX7_lineOfName 54 = .ok (.iconst 3, 1) := by decide +kernel
theorem dX7_lineOfName_55 : decode cX7_lineOfName 55 = .ok (.ireturn, 1) := by decide +kernel
theorem dX7_lineOfName_56 : decode cX7_lineOfName 56 = .ok (.aload_n 0, 1) := by decide +kernel
theorem dX7_lineOfName_57 : decode cX7_lineOfName 57 = .ok (.getfield 9, 3) := by decide +kernel
theorem dX7_lineOfName_60 : decode cX7_lineOfName 60 = .ok (.ldc 99, 2) := by decide +kernel
theorem dX7_lineOfName_62 : decode cX7_lineOfName 62 = .ok (.invokevirtual 89, 3) := by decide +kernel
theorem dX7_lineOfName_65 : decode cX7_lineOfName 65 = .ok (.ifCond .eq 5, 3) := by decide +kernel
theorem dX7_lineOfName_68 : decode cX7_lineOfName 68 = .ok (.iconst 4, 1) := by decide +kernel
theorem dX7_lineOfName_69 : decode cX7_lineOfName 69 = .ok (.ireturn, 1) := by decide +kernel
theorem dX7_lineOfName_70 : decode cX7_lineOfName 70 = .ok (.aload_n 0, 1) := by decide +kernel
theorem dX7_lineOfName_71 : decode cX7_lineOfName 71 = .ok (.getfield 9, 3) := by decide +kernel
theorem dX7_lineOfName_74 : decode cX7_lineOfName 74 = .ok (.ldc 101, 2) := by decide +kernel
theorem dX7_lineOfName_76 : decode cX7_lineOfName 76 = .ok (.invokevirtual 89, 3) := by decide +kernel
theorem dX7_lineOfName_79 : decode cX7_lineOfName 79 = .ok (.ifCond .eq 5, 3) := by decide +kernel
theorem dX7_lineOfName_82 : decode cX7_lineOfName 82 = .ok (.iconst 5, 1) := by decide +kernel
theorem dX7_lineOfName_83 : decode cX7_lineOfName 83 = .ok (.ireturn, 1) := by decide +kernel
theorem dX7_lineOfName_84 : decode cX7_lineOfName 84 = .ok (.aload_n 0, 1) := by decide +kernel
theorem dX7_lineOfName_85 : decode cX7_lineOfName 85 = .ok (.getfield 9, 3) := by decide +kernel
theorem dX7_lineOfName_88 : decode cX7_lineOfName 88 = .ok (.ldc 103, 2) := by decide +kernel
theorem dX7_lineOfName_90 : decode cX7_lineOfName 90 = .ok (.invokevirtual 89, 3) := by decide +kernel
theorem dX7_lineOfName_93 : decode cX7_lineOfName 93 = .ok (.ifCond .eq 6, 3) := by decide +kernel
theorem dX7_lineOfName_96 : decode cX7_lineOfName 96 = .ok (.bipush 6, 2) := by decide +kernel
theorem dX7_lineOfName_98 : decode cX7_lineOfName 98 = .ok (.ireturn, 1) := by decide +kernel
theorem dX7_lineOfName_99 : decode cX7_lineOfName 99 = .ok (.aload_n 0, 1) := by decide +kernel
theorem dX7_lineOfName_100 : decode cX7_lineOfName 100 = .ok (.getfield 9, 3) := by decide +kernel
theorem dX7_lineOfName_103 : decode cX7_lineOfName 103 = .ok (.ldc 105, 2) := by decide +kernel
theorem dX7_lineOfName_105 : decode cX7_lineOfName 105 = .ok (.invokevirtual 89, 3) := by decide +kernel
theorem dX7_lineOfName_108 : decode cX7_lineOfName 108 = .ok (.ifCond .eq 8, 3) := by decide +kernel
theorem dX7_lineOfName_111 : decode cX7_lineOfName 111 = .ok (.bipush 7, 2) := by decide +kernel
theorem dX7_lineOfName_113 : decode cX7_lineOfName 113 = .ok (.goto 5, 3) := by decide +kernel
theorem dX7_lineOfName_116 : decode cX7_lineOfName 116 = .ok (.bipush 8, 2) := by decide +kernel
theorem dX7_lineOfName_118 : decode cX7_lineOfName 118 = .ok (.ireturn, 1) := by decide +kernel
set_option maxRecDepth 20000 in
theorem ggX7_takeSemicolon_X6_readToken : GoodIn wsX7_takeSemicolon wsX6_readToken := goodIn_r _ [6, 7, 8, 9, 10, 11, 12, 13, 14, 5, 15, 16, 17, 18, 19, 20, 25, 26, 27, 28, 29, 30, 31] (by decide +kernel) (by decide +kernel)
set_option maxRecDepth 20000 in
theorem gX7_takeSemicolon_X6_readToken : GoodIn wsX7_takeSemicolon (wsV RX7 54 RX6 yX6_readToken wsX6_readToken) := goodIn_app (goodIn_of _ (by decide +kernel)) ggX7_takeSemicolon_X6_readToken
set_option maxRecDepth 20000 in
theorem ggX7_takeSemicolon_X6_blame : GoodIn wsX7_takeSemicolon wsX6_blame := goodIn_r _ [19, 7, 20, 25, 26, 27, 28, 29, 30, 31] (by decide +kernel) (by decide +kernel)
set_option maxRecDepth 20000 in
theorem gX7_takeSemicolon_X6_blame : GoodIn wsX7_takeSemicolon (wsV RX7 44 RX6 yX6_blame wsX6_blame) := goodIn_app (goodIn_of _ (by decide +kernel)) ggX7_takeSemicolon_X6_blame
theorem dX7_takeSemicolon_0 : decode cX7_takeSemicolon 0 = .ok (.aload_n 0, 1) := by decide +kernel
theorem dX7_takeSemicolon_1 : decode cX7_takeSemicolon 1 = .ok (.getfield 9, 3) := by decide +kernel
theorem dX7_takeSemicolon_4 : decode cX7_takeSemicolon 4 = .ok (.invokevirtual 54, 3) := by decide +kernel
theorem dX7_takeSemicolon_7 : decode cX7_takeSemicolon 7 = .ok (.aload_n 0, 1) := by decide +kernel
theorem dX7_takeSemicolon_8 : decode cX7_takeSemicolon 8 = .ok (.getfield 9, 3) := by decide +kernel
theorem dX7_takeSemicolon_11 : decode cX7_takeSemicolon 11 = .ok (.getfield 57, 3) := by decide +kernel
theorem dX7_takeSemicolon_14 : decode cX7_takeSemicolon 14 = .ok (.iconst 3, 1) := by decide +kernel
theorem dX7_takeSemicolon_15 : decode cX7_takeSemicolon 15 = .ok (.if_icmp .eq 18, 3) := by decide +kernel
theorem dX7_takeSemicolon_18 : decode cX7_takeSemicolon 18 = .ok (.aload_n 0, 1) := by decide +kernel
theorem dX7_takeSemicolon_19 : decode cX7_takeSemicolon 19 = .ok (.getfield 9, 3) := by decide +kernel
theorem dX7_takeSemicolon_22 : decode cX7_takeSemicolon 22 = .ok (.iconst 2, 1) := by decide +kernel
theorem dX7_takeSemicolon_23 : decode cX7_takeSemicolon 23 = .ok (.aload_n 0, 1) := by decide +kernel
theorem dX7_takeSemicolon_24 : decode cX7_takeSemicolon 24 = .ok (.getfield 9, 3) := by decide +kernel
theorem dX7_takeSemicolon_27 : decode cX7_takeSemicolon 27 = .ok (.getfield 77, 3) := by decide +kernel
theorem dX7_takeSemicolon_30 : decode cX7_takeSemicolon 30 = .ok (.invokevirtual 44, 3) := by decide +kernel
theorem dX7_takeSemicolon_33 : decode cX7_takeSemicolon 33 = .ok (.return_, 1) := by decide +kernel
set_option maxRecDepth 20000 in
theorem ggX7_takeNumber_X6_readToken : GoodIn wsX7_takeNumber wsX6_readToken := goodIn_r _ [6, 7, 8, 9, 10, 11, 12, 13, 14, 5, 15, 16, 17, 18, 19, 20, 32, 33, 34, 35, 36, 37, 38] (by decide +kernel) (by decide +kernel)
set_option maxRecDepth 20000 in
theorem gX7_takeNumber_X6_readToken : GoodIn wsX7_takeNumber (wsV RX7 54 RX6 yX6_readToken wsX6_readToken) := goodIn_app (goodIn_of _ (by decide +kernel)) ggX7_takeNumber_X6_readToken
set_option maxRecDepth 20000 in
theorem ggX7_takeNumber_X6_blame : GoodIn wsX7_takeNumber wsX6_blame := goodIn_r _ [19, 7, 20, 32, 33, 34, 35, 36, 37, 38] (by decide +kernel) (by decide +kernel)
set_option maxRecDepth 20000 in
theorem gX7_takeNumber_X6_blame : GoodIn wsX7_takeNumber (wsV RX7 44 RX6 yX6_blame wsX6_blame) := goodIn_app (goodIn_of _ (by decide +kernel)) ggX7_takeNumber_X6_blame
set_option maxRecDepth 20000 in
theorem ggX7_takeNumber_X6_tokenValue : GoodIn wsX7_takeNumber wsX6_tokenValue := goodIn_r _ [25, 11, 8, 10, 32, 33, 34, 35, 36, 37, 38] (by decide +kernel) (by decide +kernel)
set_option maxRecDepth 20000 in
theorem gX7_takeNumber_X6_tokenValue : GoodIn wsX7_takeNumber (wsV RX7 107 RX6 yX6_tokenValue wsX6_tokenValue) := goodIn_app (goodIn_of _ (by decide +kernel)) ggX7_takeNumber_X6_tokenValue
set_option maxRecDepth 20000 in
theorem ggX7_takeNumber_X8_within : GoodIn wsX7_takeNumber wsX8_within := goodIn_r _ [28] (by decide +kernel) (by decide +kernel)
set_option maxRecDepth 20000 in
theorem gX7_takeNumber_X8_within_n110 : GoodIn wsX7_takeNumber (wsX8_within) := ggX7_takeNumber_X8_within
theorem dX7_takeNumber_0 : decode cX7_takeNumber 0 = .ok (.aload_n 0, 1) := by decide +kernel
theorem dX7_takeNumber_1 : decode cX7_takeNumber 1 = .ok (.getfield 9, 3) := by decide +kernel
theorem dX7_takeNumber_4 : decode cX7_takeNumber 4 = .ok (.invokevirtual 54, 3) := by decide +kernel
theorem dX7_takeNumber_7 : decode cX7_takeNumber 7 = .ok (.aload_n 0, 1) := by decide +kernel
theorem dX7_takeNumber_8 : decode cX7_takeNumber 8 = .ok (.getfield 9, 3) := by decide +kernel
theorem dX7_takeNumber_11 : decode cX7_takeNumber 11 = .ok (.getfield 57, 3) := by decide +kernel
theorem dX7_takeNumber_14 : decode cX7_takeNumber 14 = .ok (.iconst 2, 1) := by decide +kernel
theorem dX7_takeNumber_15 : decode cX7_takeNumber 15 = .ok (.if_icmp .eq 21, 3) := by decide +kernel
theorem dX7_takeNumber_18 : decode cX7_takeNumber 18 = .ok (.aload_n 0, 1) := by decide +kernel
theorem dX7_takeNumber_19 : decode cX7_takeNumber 19 = .ok (.getfield 9, 3) := by decide +kernel
theorem dX7_takeNumber_22 : decode cX7_takeNumber 22 = .ok (.iconst 2, 1) := by decide +kernel
theorem dX7_takeNumber_23 : decode cX7_takeNumber 23 = .ok (.aload_n 0, 1) := by decide +kernel
theorem dX7_takeNumber_24 : decode cX7_takeNumber 24 = .ok (.getfield 9, 3) := by decide +kernel
theorem dX7_takeNumber_27 : decode cX7_takeNumber 27 = .ok (.getfield 77, 3) := by decide +kernel
theorem dX7_takeNumber_30 : decode cX7_takeNumber 30 = .ok (.invokevirtual 44, 3) := by decide +kernel
theorem dX7_takeNumber_33 : decode cX7_takeNumber 33 = .ok (.goto 33, 3) := by decide +kernel
theorem dX7_takeNumber_36 : decode cX7_takeNumber 36 = .ok (.aload_n 0, 1) := by decide +kernel
theorem dX7_takeNumber_37 : decode cX7_takeNumber 37 = .ok (.getfield 9, 3) := by decide +kernel
theorem dX7_takeNumber_40 : decode cX7_takeNumber 40 = .ok (.invokevirtual 107, 3) := by decide +kernel
theorem dX7_takeNumber_43 : decode cX7_takeNumber 43 = .ok (.iload_n 1, 1) := by decide +kernel
theorem dX7_takeNumber_44 : decode cX7_takeNumber 44 = .ok (.iload_n 2, 1) := by decide +kernel
theorem dX7_takeNumber_45 : decode cX7_takeNumber 45 = .ok (.invokestatic 110, 3) := by decide +kernel
theorem dX7_takeNumber_48 : decode cX7_takeNumber 48 = .ok (.ifCond .ne 18, 3) := by decide +kernel
theorem dX7_takeNumber_51 : decode cX7_takeNumber 51 = .ok (.aload_n 0, 1) := by decide +kernel
theorem dX7_takeNumber_52 : decode cX7_takeNumber 52 = .ok (.getfield 9, 3) := by decide +kernel
theorem dX7_takeNumber_55 : decode cX7_takeNumber 55 = .ok (.iconst 3, 1) := by decide +kernel
theorem dX7_takeNumber_56 : decode cX7_takeNumber 56 = .ok (.aload_n 0, 1) := by decide +kernel
theorem dX7_takeNumber_57 : decode cX7_takeNumber 57 = .ok (.getfield 9, 3) := by decide +kernel
theorem dX7_takeNumber_60 : decode cX7_takeNumber 60 = .ok (.getfield 77, 3) := by decide +kernel
theorem dX7_takeNumber_63 : decode cX7_takeNumber 63 = .ok (.invokevirtual 44, 3) := by decide +kernel
theorem dX7_takeNumber_66 : decode cX7_takeNumber 66 = .ok (.aload_n 0, 1) := by decide +kernel
theorem dX7_takeNumber_67 : decode cX7_takeNumber 67 = .ok (.getfield 9, 3) := by decide +kernel
theorem dX7_takeNumber_70 : decode cX7_takeNumber 70 = .ok (.getfield 48, 3) := by decide +kernel
theorem dX7_takeNumber_73 : decode cX7_takeNumber 73 = .ok (.ifCond .ne 13, 3) := by decide +kernel
theorem dX7_takeNumber_76 : decode cX7_takeNumber 76 = .ok (.aload_n 0, 1) := by decide +kernel
theorem dX7_takeNumber_77 : decode cX7_takeNumber 77 = .ok (.getfield 9, 3) := by decide +kernel
theorem dX7_takeNumber_80 : decode cX7_takeNumber 80 = .ok (.invokevirtual 107, 3) := by decide +kernel
theorem dX7_takeNumber_83 : decode cX7_takeNumber 83 = .ok (.goto 4, 3) := by decide +kernel
theorem dX7_takeNumber_86 : decode cX7_takeNumber 86 = .ok (.iload_n 1, 1) := by decide +kernel
theorem dX7_takeNumber_87 : decode cX7_takeNumber 87 = .ok (.ireturn, 1) := by decide +kernel
set_option maxRecDepth 20000 in
theorem ggX7_takeMile_X6_blame : GoodIn wsX7_takeMile wsX6_blame := goodIn_r _ [6, 7, 8, 49, 50, 51, 52, 53, 54, 55] (by decide +kernel) (by decide +kernel)
set_option maxRecDepth 20000 in
theorem gX7_takeMile_X6_blame : GoodIn wsX7_takeMile (wsV RX7 44 RX6 yX6_blame wsX6_blame) := goodIn_app (goodIn_of _ (by decide +kernel)) ggX7_takeMile_X6_blame
set_option maxRecDepth 20000 in
theorem ggX7_takeMile_X7_takeNumber : GoodIn wsX7_takeMile wsX7_takeNumber := goodIn_r _ [13, 1, 14, 15, 16, 5, 17, 7, 18, 19, 20, 21, 22, 23, 24, 25, 26, 3, 4, 6, 8, 2, 27, 28, 29, 30, 31, 32, 33, 46, 47, 48, 49, 50, 51, 52, 53, 54, 55] (by decide +kernel) (by decide +kernel)
set_option maxRecDepth 20000 in
theorem gX7_takeMile_X7_takeNumber : GoodIn wsX7_takeMile (wsV RX7 124 RX7 yX7_takeNumber wsX7_takeNumber) := goodIn_app (goodIn_of _ (by decide +kernel)) ggX7_takeMile_X7_takeNumber
theorem dX7_takeMile_0 : decode cX7_takeMile 0 = .ok (.aload_n 1, 1) := by decide +kernel
theorem dX7_takeMile_1 : decode cX7_takeMile 1 = .ok (.getfield 114, 3) := by decide +kernel
theorem dX7_takeMile_4 : decode cX7_takeMile 4 = .ok (.istore_n 2, 1) := by decide +kernel
theorem dX7_takeMile_5 : decode cX7_takeMile 5 = .ok (.iload_n 2, 1) := by decide +kernel
theorem dX7_takeMile_6 : decode cX7_takeMile 6 = .ok (.bipush 8, 2) := by decide +kernel
theorem dX7_takeMile_8 : decode cX7_takeMile 8 = .ok (.if_icmp .lt 19, 3) := by decide +kernel
theorem dX7_takeMile_11 : decode cX7_takeMile 11 = .ok (.aload_n 0, 1) := by decide +kernel
theorem dX7_takeMile_12 : decode cX7_takeMile 12 = .ok (.getfield 9, 3) := by decide +kernel
theorem dX7_takeMile_15 : decode cX7_takeMile 15 = .ok (.iconst 5, 1) := by decide +kernel
theorem dX7_takeMile_16 : decode cX7_takeMile 16 = .ok (.aload_n 0, 1) := by decide +kernel
theorem dX7_takeMile_17 : decode cX7_takeMile 17 = .ok (.getfield 9, 3) := by decide +kernel
theorem dX7_takeMile_20 : decode cX7_takeMile 20 = .ok (.getfield 77, 3) := by decide +kernel
theorem dX7_takeMile_23 : decode cX7_takeMile 23 = .ok (.invokevirtual 44, 3) := by decide +kernel
theorem dX7_takeMile_26 : decode cX7_takeMile 26 = .ok (.return_, 1) := by decide +kernel
theorem dX7_takeMile_27 : decode cX7_takeMile 27 = .ok (.aload_n 1, 1) := by decide +kernel
theorem dX7_takeMile_28 : decode cX7_takeMile 28 = .ok (.getfield 117, 3) := by decide +kernel
theorem dX7_takeMile_31 : decode cX7_takeMile 31 = .ok (.iload_n 2, 1) := by decide +kernel
theorem dX7_takeMile_32 : decode cX7_takeMile 32 = .ok (.aload_n 0, 1) := by decide +kernel
theorem dX7_takeMile_33 : decode cX7_takeMile 33 = .ok (.iconst 0, 1) := by decide +kernel
theorem dX7_takeMile_34 : decode cX7_takeMile 34 = .ok (.getstatic 121, 3) := by decide +kernel
theorem dX7_takeMile_37 : decode cX7_takeMile 37 = .ok (.iconst 0, 1) := by decide +kernel
theorem dX7_takeMile_38 : decode cX7_takeMile 38 = .ok (.iaload, 1) := by decide +kernel
theorem dX7_takeMile_39 : decode cX7_takeMile 39 = .ok (.invokevirtual 124, 3) := by decide +kernel
theorem dX7_takeMile_42 : decode cX7_takeMile 42 = .ok (.iastore, 1) := by decide +kernel
theorem dX7_takeMile_43 : decode cX7_takeMile 43 = .ok (.aload_n 1, 1) := by decide +kernel
theorem dX7_takeMile_44 : decode cX7_takeMile 44 = .ok (.getfield 128, 3) := by decide +kernel
theorem dX7_takeMile_47 : decode cX7_takeMile 47 = .ok (.iload_n 2, 1) := by decide +kernel
theorem dX7_takeMile_48 : decode cX7_takeMile 48 = .ok (.aload_n 0, 1) := by decide +kernel
theorem dX7_takeMile_49 : decode cX7_takeMile 49 = .ok (.iconst 0, 1) := by decide +kernel
theorem dX7_takeMile_50 : decode cX7_takeMile 50 = .ok (.getstatic 121, 3) := by decide +kernel
theorem dX7_takeMile_53 : decode cX7_takeMile 53 = .ok (.iconst 1, 1) := by decide +kernel
theorem dX7_takeMile_54 : decode cX7_takeMile 54 = .ok (.iaload, 1) := by decide +kernel
theorem dX7_takeMile_55 : decode cX7_takeMile 55 = .ok (.invokevirtual 124, 3) := by decide +kernel
theorem dX7_takeMile_58 : decode cX7_takeMile 58 = .ok (.iastore, 1) := by decide +kernel
theorem dX7_takeMile_59 : decode cX7_takeMile 59 = .ok (.aload_n 1, 1) := by decide +kernel
theorem dX7_takeMile_60 : decode cX7_takeMile 60 = .ok (.dup, 1) := by decide +kernel
theorem dX7_takeMile_61 : decode cX7_takeMile 61 = .ok (.getfield 114, 3) := by decide +kernel
theorem dX7_takeMile_64 : decode cX7_takeMile 64 = .ok (.iconst 1, 1) := by decide +kernel
theorem dX7_takeMile_65 : decode cX7_takeMile 65 = .ok (.iadd, 1) := by decide +kernel
theorem dX7_takeMile_66 : decode cX7_takeMile 66 = .ok (.putfield 114, 3) := by decide +kernel
theorem dX7_takeMile_69 : decode cX7_takeMile 69 = .ok (.return_, 1) := by decide +kernel
set_option maxRecDepth 20000 in
theorem ggX7_takeMud_X7_takeNumber : GoodIn wsX7_takeMud wsX7_takeNumber := goodIn_r _ [6, 1, 7, 8, 9, 10, 11, 12, 13, 14, 15, 16, 17, 18, 19, 20, 21, 22, 23, 24, 25, 26, 27, 28, 29, 30, 31, 32, 33, 46, 47, 48, 49, 50, 51, 52, 53, 54, 55] (by decide +kernel) (by decide +kernel)
set_option maxRecDepth 20000 in
theorem gX7_takeMud_X7_takeNumber : GoodIn wsX7_takeMud (wsV RX7 124 RX7 yX7_takeNumber wsX7_takeNumber) := goodIn_app (goodIn_of _ (by decide +kernel)) ggX7_takeMud_X7_takeNumber
set_option maxRecDepth 20000 in
theorem ggX7_takeMud_X6_blame : GoodIn wsX7_takeMud wsX6_blame := goodIn_r _ [24, 12, 25, 49, 50, 51, 52, 53, 54, 55] (by decide +kernel) (by decide +kernel)
set_option maxRecDepth 20000 in
theorem gX7_takeMud_X6_blame : GoodIn wsX7_takeMud (wsV RX7 44 RX6 yX6_blame wsX6_blame) := goodIn_app (goodIn_of _ (by decide +kernel)) ggX7_takeMud_X6_blame
theorem dX7_takeMud_0 : decode cX7_takeMud 0 = .ok (.aload_n 0, 1) := by decide +kernel
theorem dX7_takeMud_1 : decode cX7_takeMud 1 = .ok (.iconst 0, 1) := by decide +kernel
theorem dX7_takeMud_2 : decode cX7_takeMud 2 = .ok (.bipush 7, 2) := by decide +kernel
theorem dX7_takeMud_4 : decode cX7_takeMud 4 = .ok (.invokevirtual 124, 3) := by decide +kernel
theorem dX7_takeMud_7 : decode cX7_takeMud 7 = .ok (.istore_n 2, 1) := by decide +kernel
theorem dX7_takeMud_8 : decode cX7_takeMud 8 = .ok (.aload_n 1, 1) := by decide +kernel
theorem dX7_takeMud_9 : decode cX7_takeMud 9 = .ok (.getfield 131, 3) := by decide +kernel
theorem dX7_takeMud_12 : decode cX7_takeMud 12 = .ok (.iload_n 2, 1) := by decide +kernel
theorem dX7_takeMud_13 : decode cX7_takeMud 13 = .ok (.iaload, 1) := by decide +kernel
theorem dX7_takeMud_14 : decode cX7_takeMud 14 = .ok (.ifCond .eq 18, 3) := by decide +kernel
theorem dX7_takeMud_17 : decode cX7_takeMud 17 = .ok (.aload_n 0, 1) := by decide +kernel
theorem dX7_takeMud_18 : decode cX7_takeMud 18 = .ok (.getfield 9, 3) := by decide +kernel
theorem dX7_takeMud_21 : decode cX7_takeMud 21 = .ok (.iconst 4, 1) := by decide +kernel
theorem dX7_takeMud_22 : decode cX7_takeMud 22 = .ok (.aload_n 0, 1) := by decide +kernel
theorem dX7_takeMud_23 : decode cX7_takeMud 23 = .ok (.getfield 9, 3) := by decide +kernel
theorem dX7_takeMud_26 : decode cX7_takeMud 26 = .ok (.getfield 77, 3) := by decide +kernel
theorem dX7_takeMud_29 : decode cX7_takeMud 29 = .ok (.invokevirtual 44, 3) := by decide +kernel
theorem dX7_takeMud_32 : decode cX7_takeMud 32 = .ok (.aload_n 1, 1) := by decide +kernel
theorem dX7_takeMud_33 : decode cX7_takeMud 33 = .ok (.getfield 131, 3) := by decide +kernel
theorem dX7_takeMud_36 : decode cX7_takeMud 36 = .ok (.iload_n 2, 1) := by decide +kernel
theorem dX7_takeMud_37 : decode cX7_takeMud 37 = .ok (.iconst 1, 1) := by decide +kernel
theorem dX7_takeMud_38 : decode cX7_takeMud 38 = .ok (.iastore, 1) := by decide +kernel
theorem dX7_takeMud_39 : decode cX7_takeMud 39 = .ok (.return_, 1) := by decide +kernel
set_option maxRecDepth 20000 in
theorem ggX7_takeParty_X6_blame : GoodIn wsX7_takeParty wsX6_blame := goodIn_r _ [6, 7, 8, 59, 60, 61, 62, 63, 64, 65] (by decide +kernel) (by decide +kernel)
set_option maxRecDepth 20000 in
theorem gX7_takeParty_X6_blame : GoodIn wsX7_takeParty (wsV RX7 44 RX6 yX6_blame wsX6_blame) := goodIn_app (goodIn_of _ (by decide +kernel)) ggX7_takeParty_X6_blame
set_option maxRecDepth 20000 in
theorem ggX7_takeParty_X2_partyRow : GoodIn wsX7_takeParty wsX2_partyRow := goodIn_r _ [13, 14, 15, 16, 17, 18, 44, 45, 46, 47, 48, 49, 50, 51, 52, 53, 54, 55] (by decide +kernel) (by decide +kernel)
set_option maxRecDepth 20000 in
theorem gX7_takeParty_X2_partyRow : GoodIn wsX7_takeParty (wsV RX7 138 RX2 yX2_partyRow wsX2_partyRow) := goodIn_app (goodIn_of _ (by decide +kernel)) ggX7_takeParty_X2_partyRow
set_option maxRecDepth 20000 in
theorem ggX7_takeParty_X7_takeNumber : GoodIn wsX7_takeParty wsX7_takeNumber := goodIn_r _ [23, 1, 24, 25, 26, 5, 27, 7, 28, 29, 30, 31, 32, 33, 34, 35, 36, 3, 4, 6, 8, 2, 37, 38, 39, 40, 41, 42, 43, 56, 57, 58, 59, 60, 61, 62, 63, 64, 65] (by decide +kernel) (by decide +kernel)
set_option maxRecDepth 20000 in
theorem gX7_takeParty_X7_takeNumber : GoodIn wsX7_takeParty (wsV RX7 124 RX7 yX7_takeNumber wsX7_takeNumber) := goodIn_app (goodIn_of _ (by decide +kernel)) ggX7_takeParty_X7_takeNumber
theorem dX7_takeParty_0 : decode cX7_takeParty 0 = .ok (.aload_n 1, 1) := by decide +kernel
theorem dX7_takeParty_1 : decode cX7_takeParty 1 = .ok (.getfield 133, 3) := by decide +kernel
theorem dX7_takeParty_4 : decode cX7_takeParty 4 = .ok (.istore_n 3, 1) := by decide +kernel
theorem dX7_takeParty_5 : decode cX7_takeParty 5 = .ok (.iload_n 3, 1) := by decide +kernel
theorem dX7_takeParty_6 : decode cX7_takeParty 6 = .ok (.iconst 4, 1) := by decide +kernel
theorem dX7_takeParty_7 : decode cX7_takeParty 7 = .ok (.if_icmp .lt 19, 3) := by decide +kernel
theorem dX7_takeParty_10 : decode cX7_takeParty 10 = .ok (.aload_n 0, 1) := by decide +kernel
theorem dX7_takeParty_11 : decode cX7_takeParty 11 = .ok (.getfield 9, 3) := by decide +kernel
theorem dX7_takeParty_14 : decode cX7_takeParty 14 = .ok (.iconst 5, 1) := by decide +kernel
theorem dX7_takeParty_15 : decode cX7_takeParty 15 = .ok (.aload_n 0, 1) := by decide +kernel
theorem dX7_takeParty_16 : decode cX7_takeParty 16 = .ok (.getfield 9, 3) := by decide +kernel
theorem dX7_takeParty_19 : decode cX7_takeParty 19 = .ok (.getfield 77, 3) := by decide +kernel
theorem dX7_takeParty_22 : decode cX7_takeParty 22 = .ok (.invokevirtual 44, 3) := by decide +kernel
theorem dX7_takeParty_25 : decode cX7_takeParty 25 = .ok (.return_, 1) := by decide +kernel
theorem dX7_takeParty_26 : decode cX7_takeParty 26 = .ok (.aload_n 1, 1) := by decide +kernel
theorem dX7_takeParty_27 : decode cX7_takeParty 27 = .ok (.getfield 136, 3) := by decide +kernel
theorem dX7_takeParty_30 : decode cX7_takeParty 30 = .ok (.iload_n 3, 1) := by decide +kernel
theorem dX7_takeParty_31 : decode cX7_takeParty 31 = .ok (.iload_n 2, 1) := by decide +kernel
theorem dX7_takeParty_32 : decode cX7_takeParty 32 = .ok (.iastore, 1) := by decide +kernel
theorem dX7_takeParty_33 : decode cX7_takeParty 33 = .ok (.iconst 1, 1) := by decide +kernel
theorem dX7_takeParty_34 : decode cX7_takeParty 34 = .ok (.istore 4, 2) := by decide +kernel
theorem dX7_takeParty_36 : decode cX7_takeParty 36 = .ok (.iload 4, 2) := by decide +kernel
theorem dX7_takeParty_38 : decode cX7_takeParty 38 = .ok (.iconst 4, 1) := by decide +kernel
theorem dX7_takeParty_39 : decode cX7_takeParty 39 = .ok (.if_icmp .gt 33, 3) := by decide +kernel
theorem dX7_takeParty_42 : decode cX7_takeParty 42 = .ok (.aload_n 1, 1) := by decide +kernel
theorem dX7_takeParty_43 : decode cX7_takeParty 43 = .ok (.iload 4, 2) := by decide +kernel
theorem dX7_takeParty_45 : decode cX7_takeParty 45 = .ok (.invokevirtual 138, 3) := by decide +kernel
theorem dX7_takeParty_48 : decode cX7_takeParty 48 = .ok (.iload_n 3, 1) := by decide +kernel
theorem dX7_takeParty_49 : decode cX7_takeParty 49 = .ok (.aload_n 0, 1) := by decide +kernel
theorem dX7_takeParty_50 : decode cX7_takeParty 50 = .ok (.getstatic 142, 3) := by decide +kernel
theorem dX7_takeParty_53 : decode cX7_takeParty 53 = .ok (.iload 4, 2) := by decide +kernel
theorem dX7_takeParty_55 : decode cX7_takeParty 55 = .ok (.iaload, 1) := by decide +kernel
theorem dX7_takeParty_56 : decode cX7_takeParty 56 = .ok (.getstatic 145, 3) := by decide +kernel
theorem dX7_takeParty_59 : decode cX7_takeParty 59 = .ok (.iload 4, 2) := by decide +kernel
theorem dX7_takeParty_61 : decode cX7_takeParty 61 = .ok (.iaload, 1) := by decide +kernel
theorem dX7_takeParty_62 : decode cX7_takeParty 62 = .ok (.invokevirtual 124, 3) := by decide +kernel
theorem dX7_takeParty_65 : decode cX7_takeParty 65 = .ok (.iastore, 1) := by decide +kernel
theorem dX7_takeParty_66 : decode cX7_takeParty 66 = .ok (.iinc 4 1, 3) := by decide +kernel
theorem dX7_takeParty_69 : decode cX7_takeParty 69 = .ok (.goto (-33), 3) := by decide +kernel
theorem dX7_takeParty_72 : decode cX7_takeParty 72 = .ok (.aload_n 1, 1) := by decide +kernel
theorem dX7_takeParty_73 : decode cX7_takeParty 73 = .ok (.dup, 1) := by decide +kernel
theorem dX7_takeParty_74 : decode cX7_takeParty 74 = .ok (.getfield 133, 3) := by decide +kernel
theorem dX7_takeParty_77 : decode cX7_takeParty 77 = .ok (.iconst 1, 1) := by decide +kernel
theorem dX7_takeParty_78 : decode cX7_takeParty 78 = .ok (.iadd, 1) := by decide +kernel
theorem dX7_takeParty_79 : decode cX7_takeParty 79 = .ok (.putfield 133, 3) := by decide +kernel
theorem dX7_takeParty_82 : decode cX7_takeParty 82 = .ok (.return_, 1) := by decide +kernel
set_option maxRecDepth 20000 in
theorem ggX7_takeRoom_X6_blame : GoodIn wsX7_takeRoom wsX6_blame := goodIn_r _ [7, 8, 9, 38, 39, 40, 41, 42, 43, 44] (by decide +kernel) (by decide +kernel)
set_option maxRecDepth 20000 in
theorem gX7_takeRoom_X6_blame : GoodIn wsX7_takeRoom (wsV RX7 44 RX6 yX6_blame wsX6_blame) := goodIn_app (goodIn_of _ (by decide +kernel)) ggX7_takeRoom_X6_blame
set_option maxRecDepth 20000 in
theorem ggX7_takeRoom_X7_takeNumber : GoodIn wsX7_takeRoom wsX7_takeNumber := goodIn_r _ [14, 2, 15, 16, 17, 6, 18, 8, 19, 20, 21, 22, 23, 24, 25, 26, 27, 4, 5, 7, 9, 3, 28, 29, 30, 31, 32, 33, 34, 35, 36, 37, 38, 39, 40, 41, 42, 43, 44] (by decide +kernel) (by decide +kernel)
set_option maxRecDepth 20000 in
theorem gX7_takeRoom_X7_takeNumber : GoodIn wsX7_takeRoom (wsV RX7 124 RX7 yX7_takeNumber wsX7_takeNumber) := goodIn_app (goodIn_of _ (by decide +kernel)) ggX7_takeRoom_X7_takeNumber
theorem dX7_takeRoom_0 : decode cX7_takeRoom 0 = .ok (.aload_n 0, 1) := by decide +kernel
theorem dX7_takeRoom_1 : decode cX7_takeRoom 1 = .ok (.getfield 25, 3) := by decide +kernel
theorem dX7_takeRoom_4 : decode cX7_takeRoom 4 = .ok (.ifCond .eq 18, 3) := by decide +kernel
theorem dX7_takeRoom_7 : decode cX7_takeRoom 7 = .ok (.aload_n 0, 1) := by decide +kernel
theorem dX7_takeRoom_8 : decode cX7_takeRoom 8 = .ok (.getfield 9, 3) := by decide +kernel
theorem dX7_takeRoom_11 : decode cX7_takeRoom 11 = .ok (.iconst 4, 1) := by decide +kernel
theorem dX7_takeRoom_12 : decode cX7_takeRoom 12 = .ok (.aload_n 0, 1) := by decide +kernel
theorem dX7_takeRoom_13 : decode cX7_takeRoom 13 = .ok (.getfield 9, 3) := by decide +kernel
theorem dX7_takeRoom_16 : decode cX7_takeRoom 16 = .ok (.getfield 77, 3) := by decide +kernel
theorem dX7_takeRoom_19 : decode cX7_takeRoom 19 = .ok (.invokevirtual 44, 3) := by decide +kernel
theorem dX7_takeRoom_22 : decode cX7_takeRoom 22 = .ok (.aload_n 0, 1) := by decide +kernel
theorem dX7_takeRoom_23 : decode cX7_takeRoom 23 = .ok (.iconst 1, 1) := by decide +kernel
theorem dX7_takeRoom_24 : decode cX7_takeRoom 24 = .ok (.putfield 25, 3) := by decide +kernel
theorem dX7_takeRoom_27 : decode cX7_takeRoom 27 = .ok (.aload_n 1, 1) := by decide +kernel
theorem dX7_takeRoom_28 : decode cX7_takeRoom 28 = .ok (.aload_n 0, 1) := by decide +kernel
theorem dX7_takeRoom_29 : decode cX7_takeRoom 29 = .ok (.iconst 1, 1) := by decide +kernel
theorem dX7_takeRoom_30 : decode cX7_takeRoom 30 = .ok (.iconst 4, 1) := by decide +kernel
theorem dX7_takeRoom_31 : decode cX7_takeRoom 31 = .ok (.invokevirtual 124, 3) := by decide +kernel
theorem dX7_takeRoom_34 : decode cX7_takeRoom 34 = .ok (.putfield 148, 3) := by decide +kernel
theorem dX7_takeRoom_37 : decode cX7_takeRoom 37 = .ok (.return_, 1) := by decide +kernel
set_option maxRecDepth 20000 in
theorem ggX7_takeSnow_X6_blame : GoodIn wsX7_takeSnow wsX6_blame := goodIn_r _ [7, 8, 9, 38, 39, 40, 41, 42, 43, 44] (by decide +kernel) (by decide +kernel)
set_option maxRecDepth 20000 in
theorem gX7_takeSnow_X6_blame : GoodIn wsX7_takeSnow (wsV RX7 44 RX6 yX6_blame wsX6_blame) := goodIn_app (goodIn_of _ (by decide +kernel)) ggX7_takeSnow_X6_blame
set_option maxRecDepth 20000 in
theorem ggX7_takeSnow_X7_takeNumber : GoodIn wsX7_takeSnow wsX7_takeNumber := goodIn_r _ [14, 2, 15, 16, 17, 6, 18, 8, 19, 20, 21, 22, 23, 24, 25, 26, 27, 4, 5, 7, 9, 3, 28, 29, 30, 31, 32, 33, 34, 35, 36, 37, 38, 39, 40, 41, 42, 43, 44] (by decide +kernel) (by decide +kernel)
set_option maxRecDepth 20000 in
theorem gX7_takeSnow_X7_takeNumber : GoodIn wsX7_takeSnow (wsV RX7 124 RX7 yX7_takeNumber wsX7_takeNumber) := goodIn_app (goodIn_of _ (by decide +kernel)) ggX7_takeSnow_X7_takeNumber
theorem dX7_takeSnow_0 : decode cX7_takeSnow 0 = .ok (.aload_n 0, 1) := by decide +kernel
theorem dX7_takeSnow_1 : decode cX7_takeSnow 1 = .ok (.getfield 29, 3) := by decide +kernel
theorem dX7_takeSnow_4 : decode cX7_takeSnow 4 = .ok (.ifCond .eq 18, 3) := by decide +kernel
theorem dX7_takeSnow_7 : decode cX7_takeSnow 7 = .ok (.aload_n 0, 1) := by decide +kernel
theorem dX7_takeSnow_8 : decode cX7_takeSnow 8 = .ok (.getfield 9, 3) := by decide +kernel
theorem dX7_takeSnow_11 : decode cX7_takeSnow 11 = .ok (.iconst 4, 1) := by decide +kernel
theorem dX7_takeSnow_12 : decode cX7_takeSnow 12 = .ok (.aload_n 0, 1) := by decide +kernel
theorem dX7_takeSnow_13 : decode cX7_takeSnow 13 = .ok (.getfield 9, 3) := by decide +kernel
theorem dX7_takeSnow_16 : decode cX7_takeSnow 16 = .ok (.getfield 77, 3) := by decide +kernel
theorem dX7_takeSnow_19 : decode cX7_takeSnow 19 = .ok (.invokevirtual 44, 3) := by decide +kernel
theorem dX7_takeSnow_22 : decode cX7_takeSnow 22 = .ok (.aload_n 0, 1) := by decide +kernel
theorem dX7_takeSnow_23 : decode cX7_takeSnow 23 = .ok (.iconst 1, 1) := by decide +kernel
theorem dX7_takeSnow_24 : decode cX7_takeSnow 24 = .ok (.putfield 29, 3) := by decide +kernel
theorem dX7_takeSnow_27 : decode cX7_takeSnow 27 = .ok (.aload_n 1, 1) := by decide +kernel
theorem dX7_takeSnow_28 : decode cX7_takeSnow 28 = .ok (.aload_n 0, 1) := by decide +kernel
theorem dX7_takeSnow_29 : decode cX7_takeSnow 29 = .ok (.iconst 0, 1) := by decide +kernel
theorem dX7_takeSnow_30 : decode cX7_takeSnow 30 = .ok (.bipush 99, 2) := by decide +kernel
theorem dX7_takeSnow_32 : decode cX7_takeSnow 32 = .ok (.invokevirtual 124, 3) := by decide +kernel
theorem dX7_takeSnow_35 : decode cX7_takeSnow 35 = .ok (.putfield 151, 3) := by decide +kernel
theorem dX7_takeSnow_38 : decode cX7_takeSnow 38 = .ok (.return_, 1) := by decide +kernel
set_option maxRecDepth 20000 in
theorem ggX8_init_X6_init : GoodIn wsX8_init wsX6_init := goodIn_r _ [40, 41, 2, 3, 42, 43, 94, 95, 96, 97, 98, 99, 100] (by decide +kernel) (by decide +kernel)
set_option maxRecDepth 20000 in
theorem gX8_init_X6_init_n9 : GoodIn wsX8_init (wsX6_init) := ggX8_init_X6_init
set_option maxRecDepth 20000 in
theorem ggX8_init_X7_init : GoodIn wsX8_init wsX7_init := goodIn_r _ [46, 47, 2, 3, 48, 112, 113, 114] (by decide +kernel) (by decide +kernel)
set_option maxRecDepth 20000 in
theorem gX8_init_X7_init : GoodIn wsX8_init (wsX7_init) := ggX8_init_X7_init
set_option maxRecDepth 20000 in
theorem ggX8_init_X2_init : GoodIn wsX8_init wsX2_init := goodIn_r _ [50, 51, 2, 3, 37, 52, 53, 54, 55, 56, 57, 58, 59, 60, 61, 115, 116, 117, 118, 119, 120, 121, 122, 123, 124, 125, 126] (by decide +kernel) (by decide +kernel)
set_option maxRecDepth 20000 in
theorem gX8_init_X2_init_n27 : GoodIn wsX8_init (wsX2_init) := ggX8_init_X2_init
set_option maxRecDepth 20000 in
theorem ggX8_init_X0_init : GoodIn wsX8_init wsX0_init := goodIn_r _ [63, 64, 2, 3, 37, 65, 66, 67, 68, 69, 127, 128, 129, 130, 131, 132, 133] (by decide +kernel) (by decide +kernel)
set_option maxRecDepth 20000 in
theorem gX8_init_X0_init_n37 : GoodIn wsX8_init (wsX0_init) := ggX8_init_X0_init
set_option maxRecDepth 20000 in
theorem ggX8_init_X3_init : GoodIn wsX8_init wsX3_init := goodIn_r _ [72, 73, 2, 3, 37, 74, 75, 76, 77, 134, 135, 136, 137, 138] (by decide +kernel) (by decide +kernel)
set_option maxRecDepth 20000 in
theorem gX8_init_X3_init : GoodIn wsX8_init (wsX3_init) := ggX8_init_X3_init
set_option maxRecDepth 20000 in
theorem ggX8_init_X5_init : GoodIn wsX8_init wsX5_init := goodIn_r _ [79, 80, 2, 3, 37, 81, 82, 139, 140, 141] (by decide +kernel) (by decide +kernel)
set_option maxRecDepth 20000 in
theorem gX8_init_X5_init_n53 : GoodIn wsX8_init (wsX5_init) := ggX8_init_X5_init
set_option maxRecDepth 20000 in
theorem ggX8_init_X1_init : GoodIn wsX8_init wsX1_init := goodIn_r _ [84, 85, 2, 3, 86, 13, 14, 87, 88, 26, 27, 89, 49, 50, 51, 37, 52, 53, 54, 55, 56, 57, 58, 59, 60, 61, 78, 79, 80, 81, 82, 115, 116, 117, 118, 119, 120, 121, 122, 123, 124, 125, 126, 142, 143, 144, 139, 140, 141] (by decide +kernel) (by decide +kernel)
set_option maxRecDepth 20000 in
theorem gX8_init_X1_init_n64 : GoodIn wsX8_init (wsX1_init) := ggX8_init_X1_init
set_option maxRecDepth 20000 in
theorem ggX8_init_X4_init : GoodIn wsX8_init wsX4_init := goodIn_r _ [91, 92, 2, 3, 37, 93, 145, 146, 147, 148] (by decide +kernel) (by decide +kernel)
set_option maxRecDepth 20000 in
theorem gX8_init_X4_init_n71 : GoodIn wsX8_init (wsX4_init) := ggX8_init_X4_init
theorem dX8_init_0 : decode cX8_init 0 = .ok (.aload_n 0, 1) := by decide +kernel
theorem dX8_init_1 : decode cX8_init 1 = .ok (.invokespecial 1, 3) := by decide +kernel
theorem dX8_init_4 : decode cX8_init 4 = .ok (.aload_n 0, 1) := by decide +kernel
theorem dX8_init_5 : decode cX8_init 5 = .ok (.new 7, 3) := by decide +kernel
theorem dX8_init_8 : decode cX8_init 8 = .ok (.dup, 1) := by decide +kernel
theorem dX8_init_9 : decode cX8_init 9 = .ok (.invokespecial 9, 3) := by decide +kernel
theorem dX8_init_12 : decode cX8_init 12 = .ok (.putfield 10, 3) := by decide +kernel
theorem dX8_init_15 : decode cX8_init 15 = .ok (.aload_n 0, 1) := by decide +kernel
theorem dX8_init_16 : decode cX8_init 16 = .ok (.new 16, 3) := by decide +kernel
theorem dX8_init_19 : decode cX8_init 19 = .ok (.dup, 1) := by decide +kernel
theorem dX8_init_20 : decode cX8_init 20 = .ok (.aload_n 0, 1) := by decide +kernel
theorem dX8_init_21 : decode cX8_init 21 = .ok (.getfield 10, 3) := by decide +kernel
theorem dX8_init_24 : decode cX8_init 24 = .ok (.invokespecial 18, 3) := by decide +kernel
theorem dX8_init_27 : decode cX8_init 27 = .ok (.putfield 21, 3) := by decide +kernel
theorem dX8_init_30 : decode cX8_init 30 = .ok (.aload_n 0, 1) := by decide +kernel
theorem dX8_init_31 : decode cX8_init 31 = .ok (.new 25, 3) := by decide +kernel
theorem dX8_init_34 : decode cX8_init 34 = .ok (.dup, 1) := by decide +kernel
theorem dX8_init_35 : decode cX8_init 35 = .ok (.invokespecial 27, 3) := by decide +kernel
theorem dX8_init_38 : decode cX8_init 38 = .ok (.putfield 28, 3) := by decide +kernel
theorem dX8_init_41 : decode cX8_init 41 = .ok (.aload_n 0, 1) := by decide +kernel
theorem dX8_init_42 : decode cX8_init 42 = .ok (.new 25, 3) := by decide +kernel
theorem dX8_init_45 : decode cX8_init 45 = .ok (.dup, 1) := by decide +kernel
theorem dX8_init_46 : decode cX8_init 46 = .ok (.invokespecial 27, 3) := by decide +kernel
theorem dX8_init_49 : decode cX8_init 49 = .ok (.putfield 32, 3) := by decide +kernel
theorem dX8_init_52 : decode cX8_init 52 = .ok (.aload_n 0, 1) := by decide +kernel
theorem dX8_init_53 : decode cX8_init 53 = .ok (.new 35, 3) := by decide +kernel
theorem dX8_init_56 : decode cX8_init 56 = .ok (.dup, 1) := by decide +kernel
theorem dX8_init_57 : decode cX8_init 57 = .ok (.invokespecial 37, 3) := by decide +kernel
theorem dX8_init_60 : decode cX8_init 60 = .ok (.putfield 38, 3) := by decide +kernel
theorem dX8_init_63 : decode cX8_init 63 = .ok (.aload_n 0, 1) := by decide +kernel
theorem dX8_init_64 : decode cX8_init 64 = .ok (.new 42, 3) := by decide +kernel
theorem dX8_init_67 : decode cX8_init 67 = .ok (.dup, 1) := by decide +kernel
theorem dX8_init_68 : decode cX8_init 68 = .ok (.aload_n 0, 1) := by decide +kernel
theorem dX8_init_69 : decode cX8_init 69 = .ok (.getfield 32, 3) := by decide +kernel
theorem dX8_init_72 : decode cX8_init 72 = .ok (.aload_n 0, 1) := by decide +kernel
theorem dX8_init_73 : decode cX8_init 73 = .ok (.getfield 38, 3) := by decide +kernel
theorem dX8_init_76 : decode cX8_init 76 = .ok (.invokespecial 44, 3) := by decide +kernel
theorem dX8_init_79 : decode cX8_init 79 = .ok (.putfield 47, 3) := by decide +kernel
theorem dX8_init_82 : decode cX8_init 82 = .ok (.aload_n 0, 1) := by decide +kernel
theorem dX8_init_83 : decode cX8_init 83 = .ok (.new 51, 3) := by decide +kernel
theorem dX8_init_86 : decode cX8_init 86 = .ok (.dup, 1) := by decide +kernel
theorem dX8_init_87 : decode cX8_init 87 = .ok (.invokespecial 53, 3) := by decide +kernel
theorem dX8_init_90 : decode cX8_init 90 = .ok (.putfield 54, 3) := by decide +kernel
theorem dX8_init_93 : decode cX8_init 93 = .ok (.aload_n 0, 1) := by decide +kernel
theorem dX8_init_94 : decode cX8_init 94 = .ok (.iconst 2, 1) := by decide +kernel
theorem dX8_init_95 : decode cX8_init 95 = .ok (.anewarray 58, 3) := by decide +kernel
theorem dX8_init_98 : decode cX8_init 98 = .ok (.putfield 60, 3) := by decide +kernel
theorem dX8_init_101 : decode cX8_init 101 = .ok (.iconst 0, 1) := by decide +kernel
theorem dX8_init_102 : decode cX8_init 102 = .ok (.istore_n 1, 1) := by decide +kernel
theorem dX8_init_103 : decode cX8_init 103 = .ok (.iload_n 1, 1) := by decide +kernel
theorem dX8_init_104 : decode cX8_init 104 = .ok (.iconst 2, 1) := by decide +kernel
theorem dX8_init_105 : decode cX8_init 105 = .ok (.if_icmp .ge 22, 3) := by decide +kernel
theorem dX8_init_108 : decode cX8_init 108 = .ok (.aload_n 0, 1) := by decide +kernel
theorem dX8_init_109 : decode cX8_init 109 = .ok (.getfield 60, 3) := by decide +kernel
theorem dX8_init_112 : decode cX8_init 112 = .ok (.iload_n 1, 1) := by decide +kernel
theorem dX8_init_113 : decode cX8_init 113 = .ok (.new 58, 3) := by decide +kernel
theorem dX8_init_116 : decode cX8_init 116 = .ok (.dup, 1) := by decide +kernel
theorem dX8_init_117 : decode cX8_init 117 = .ok (.invokespecial 64, 3) := by decide +kernel
theorem dX8_init_120 : decode cX8_init 120 = .ok (.aastore, 1) := by decide +kernel
theorem dX8_init_121 : decode cX8_init 121 = .ok (.iinc 1 1, 3) := by decide +kernel
theorem dX8_init_124 : decode cX8_init 124 = .ok (.goto (-21), 3) := by decide +kernel
theorem dX8_init_127 : decode cX8_init 127 = .ok (.aload_n 0, 1) := by decide +kernel
theorem dX8_init_128 : decode cX8_init 128 = .ok (.iconst 4, 1) := by decide +kernel
theorem dX8_init_129 : decode cX8_init 129 = .ok (.anewarray 65, 3) := by decide +kernel
theorem dX8_init_132 : decode cX8_init 132 = .ok (.putfield 67, 3) := by decide +kernel
theorem dX8_init_135 : decode cX8_init 135 = .ok (.iconst 0, 1) := by decide +kernel
theorem dX8_init_136 : decode cX8_init 136 = .ok (.istore_n 1, 1) := by decide +kernel
theorem dX8_init_137 : decode cX8_init 137 = .ok (.iload_n 1, 1) := by decide +kernel
theorem dX8_init_138 : decode cX8_init 138 = .ok (.iconst 4, 1) := by decide +kernel
theorem dX8_init_139 : decode cX8_init 139 = .ok (.if_icmp .ge 22, 3) := by decide +kernel
theorem dX8_init_142 : decode cX8_init 142 = .ok (.aload_n 0, 1) := by decide +kernel
theorem dX8_init_143 : decode cX8_init 143 = .ok (.getfield 67, 3) := by decide +kernel
theorem dX8_init_146 : decode cX8_init 146 = .ok (.iload_n 1, 1) := by decide +kernel
theorem dX8_init_147 : decode cX8_init 147 = .ok (.new 65, 3) := by decide +kernel
theorem dX8_init_150 : decode cX8_init 150 = .ok (.dup, 1) := by decide +kernel
theorem dX8_init_151 : decode cX8_init 151 = .ok (.invokespecial 71, 3) := by decide +kernel
theorem dX8_init_154 : decode cX8_init 154 = .ok (.aastore, 1) := by decide +kernel
theorem dX8_init_155 : decode cX8_init 155 = .ok (.iinc 1 1, 3) := by decide +kernel
theorem dX8_init_158 : decode cX8_init 158 = .ok (.goto (-21), 3) := by decide +kernel
theorem dX8_init_161 : decode cX8_init 161 = .ok (.aload_n 0, 1) := by decide +kernel
theorem dX8_init_162 : decode cX8_init 162 = .ok (.bipush 9, 2) := by decide +kernel
theorem dX8_init_164 : decode cX8_init 164 = .ok (.newarray .int, 2) := by decide +kernel
theorem dX8_init_166 : decode cX8_init 166 = .ok (.putfield 72, 3) := by decide +kernel
theorem dX8_init_169 : decode cX8_init 169 = .ok (.return_, 1) := by decide +kernel
set_option maxRecDepth 20000 in
theorem ggX8_feed_X8_within : GoodIn wsX8_feed wsX8_within := goodIn_r _ [5] (by decide +kernel) (by decide +kernel)
set_option maxRecDepth 20000 in
theorem gX8_feed_X8_within : GoodIn wsX8_feed (va_wsS RX8 76 yX8_within wsX8_within) := goodIn_app (goodIn_of _ (by decide +kernel)) ggX8_feed_X8_within
set_option maxRecDepth 20000 in
theorem ggX8_feed_X6_put : GoodIn wsX8_feed wsX6_put := goodIn_r _ [10, 11, 12, 24, 25, 26, 27, 28, 29, 30] (by decide +kernel) (by decide +kernel)
set_option maxRecDepth 20000 in
theorem gX8_feed_X6_put : GoodIn wsX8_feed (wsV RX8 80 RX6 yX6_put wsX6_put) := goodIn_app (goodIn_of _ (by decide +kernel)) ggX8_feed_X6_put
theorem dX8_feed_0 : decode cX8_feed 0 = .ok (.iload_n 1, 1) := by decide +kernel
theorem dX8_feed_1 : decode cX8_feed 1 = .ok (.iconst 0, 1) := by decide +kernel
theorem dX8_feed_2 : decode cX8_feed 2 = .ok (.bipush 127, 2) := by decide +kernel
theorem dX8_feed_4 : decode cX8_feed 4 = .ok (.invokestatic 76, 3) := by decide +kernel
theorem dX8_feed_7 : decode cX8_feed 7 = .ok (.ifCond .ne 5, 3) := by decide +kernel
theorem dX8_feed_10 : decode cX8_feed 10 = .ok (.iconst (-1), 1) := by decide +kernel
theorem dX8_feed_11 : decode cX8_feed 11 = .ok (.ireturn, 1) := by decide +kernel
theorem dX8_feed_12 : decode cX8_feed 12 = .ok (.aload_n 0, 1) := by decide +kernel
theorem dX8_feed_13 : decode cX8_feed 13 = .ok (.getfield 10, 3) := by decide +kernel
theorem dX8_feed_16 : decode cX8_feed 16 = .ok (.iload_n 1, 1) := by decide +kernel
theorem dX8_feed_17 : decode cX8_feed 17 = .ok (.invokevirtual 80, 3) := by decide +kernel
theorem dX8_feed_20 : decode cX8_feed 20 = .ok (.ifCond .eq 13, 3) := by decide +kernel
theorem dX8_feed_23 : decode cX8_feed 23 = .ok (.aload_n 0, 1) := by decide +kernel
theorem dX8_feed_24 : decode cX8_feed 24 = .ok (.getfield 10, 3) := by decide +kernel
theorem dX8_feed_27 : decode cX8_feed 27 = .ok (.getfield 84, 3) := by decide +kernel
theorem dX8_feed_30 : decode cX8_feed 30 = .ok (.goto 5, 3) := by decide +kernel
theorem dX8_feed_33 : decode cX8_feed 33 = .ok (.bipush (-3), 2) := by decide +kernel
theorem dX8_feed_35 : decode cX8_feed 35 = .ok (.ireturn, 1) := by decide +kernel
set_option maxRecDepth 20000 in
theorem ggX8_end_X8_within : GoodIn wsX8_end wsX8_within := goodIn_r _ [5] (by decide +kernel) (by decide +kernel)
set_option maxRecDepth 20000 in
theorem gX8_end_X8_within : GoodIn wsX8_end (va_wsS RX8 76 yX8_within wsX8_within) := goodIn_app (goodIn_of _ (by decide +kernel)) ggX8_end_X8_within
theorem dX8_end_0 : decode cX8_end 0 = .ok (.iload_n 1, 1) := by decide +kernel
theorem dX8_end_1 : decode cX8_end 1 = .ok (.iconst 0, 1) := by decide +kernel
theorem dX8_end_2 : decode cX8_end 2 = .ok (.aload_n 0, 1) := by decide +kernel
theorem dX8_end_3 : decode cX8_end 3 = .ok (.getfield 10, 3) := by decide +kernel
theorem dX8_end_6 : decode cX8_end 6 = .ok (.getfield 84, 3) := by decide +kernel
theorem dX8_end_9 : decode cX8_end 9 = .ok (.invokestatic 76, 3) := by decide +kernel
theorem dX8_end_12 : decode cX8_end 12 = .ok (.ifCond .ne 5, 3) := by decide +kernel
theorem dX8_end_15 : decode cX8_end 15 = .ok (.iconst (-1), 1) := by decide +kernel
theorem dX8_end_16 : decode cX8_end 16 = .ok (.ireturn, 1) := by decide +kernel
theorem dX8_end_17 : decode cX8_end 17 = .ok (.aload_n 0, 1) := by decide +kernel
theorem dX8_end_18 : decode cX8_end 18 = .ok (.getfield 10, 3) := by decide +kernel
theorem dX8_end_21 : decode cX8_end 21 = .ok (.getfield 84, 3) := by decide +kernel
theorem dX8_end_24 : decode cX8_end 24 = .ok (.istore_n 2, 1) := by decide +kernel
theorem dX8_end_25 : decode cX8_end 25 = .ok (.aload_n 0, 1) := by decide +kernel
theorem dX8_end_26 : decode cX8_end 26 = .ok (.getfield 10, 3) := by decide +kernel
theorem dX8_end_29 : decode cX8_end 29 = .ok (.iload_n 1, 1) := by decide +kernel
theorem dX8_end_30 : decode cX8_end 30 = .ok (.putfield 84, 3) := by decide +kernel
theorem dX8_end_33 : decode cX8_end 33 = .ok (.iload_n 2, 1) := by decide +kernel
theorem dX8_end_34 : decode cX8_end 34 = .ok (.ireturn, 1) := by decide +kernel
set_option maxRecDepth 20000 in
theorem ggX8_text_X7_tellInto : GoodIn wsX8_text wsX7_tellInto := goodIn_r _ [11, 12, 13, 14, 15, 16, 17, 18, 19, 20, 21, 22, 23, 24, 25, 26, 27, 28, 29, 30, 31, 32, 33, 34, 10, 35, 36, 37, 38, 39, 40, 41, 42, 43, 44, 45, 46, 47, 48, 49, 50, 51, 52, 53, 54, 55, 56, 57, 58, 59, 60, 61, 62, 63, 64, 65, 66, 67, 68, 69, 70, 71, 72, 73, 74, 75, 76, 77, 78, 79, 80, 81, 82, 83, 84, 85, 86, 87, 88, 89, 90, 91, 92, 93, 94, 95, 96, 97, 98, 99, 100, 101, 102, 103, 104, 105, 106, 107, 108, 109, 110, 111, 112, 113, 114, 115, 116, 117, 118, 119, 120, 121, 122, 123, 124, 125, 126, 127, 128, 129, 130, 131, 132, 133, 134, 135, 136, 137, 138, 139, 140, 141, 142, 143, 144, 145, 146, 147, 148, 149, 150, 151, 152, 153, 154, 155, 156, 157, 158, 159, 160, 161, 196, 197, 198, 183, 184, 185, 186, 187, 188, 189, 199, 200, 201, 202, 203, 204, 205, 206, 207, 208, 209, 210] (by decide +kernel) (by decide +kernel)
set_option maxRecDepth 20000 in
theorem gX8_text_X7_tellInto : GoodIn wsX8_text (wsV RX8 88 RX7 yX7_tellInto wsX7_tellInto) := goodIn_app (goodIn_of _ (by decide +kernel)) ggX8_text_X7_tellInto
set_option maxRecDepth 20000 in
theorem ggX8_text_X2_copyFrom : GoodIn wsX8_text wsX2_copyFrom := goodIn_r _ [165, 166, 167, 168, 169, 170, 171, 24, 145, 146, 147, 148, 149, 20, 21, 22, 23, 199, 200, 201, 202, 203, 204, 205, 206, 207, 208, 209, 210] (by decide +kernel) (by decide +kernel)
set_option maxRecDepth 20000 in
theorem gX8_text_X2_copyFrom : GoodIn wsX8_text (wsV RX8 95 RX2 yX2_copyFrom wsX2_copyFrom) := goodIn_app (goodIn_of _ (by decide +kernel)) ggX8_text_X2_copyFrom
theorem dX8_text_0 : decode cX8_text 0 = .ok (.aload_n 0, 1) := by decide +kernel
theorem dX8_text_1 : decode cX8_text 1 = .ok (.getfield 21, 3) := by decide +kernel
theorem dX8_text_4 : decode cX8_text 4 = .ok (.aload_n 0, 1) := by decide +kernel
theorem dX8_text_5 : decode cX8_text 5 = .ok (.getfield 32, 3) := by decide +kernel
theorem dX8_text_8 : decode cX8_text 8 = .ok (.invokevirtual 88, 3) := by decide +kernel
theorem dX8_text_11 : decode cX8_text 11 = .ok (.istore_n 1, 1) := by decide +kernel
theorem dX8_text_12 : decode cX8_text 12 = .ok (.aload_n 0, 1) := by decide +kernel
theorem dX8_text_13 : decode cX8_text 13 = .ok (.getfield 10, 3) := by decide +kernel
theorem dX8_text_16 : decode cX8_text 16 = .ok (.iconst 0, 1) := by decide +kernel
theorem dX8_text_17 : decode cX8_text 17 = .ok (.putfield 84, 3) := by decide +kernel
theorem dX8_text_20 : decode cX8_text 20 = .ok (.aload_n 0, 1) := by decide +kernel
theorem dX8_text_21 : decode cX8_text 21 = .ok (.getfield 10, 3) := by decide +kernel
theorem dX8_text_24 : decode cX8_text 24 = .ok (.getfield 92, 3) := by decide +kernel
theorem dX8_text_27 : decode cX8_text 27 = .ok (.ifCond .ne 45, 3) := by decide +kernel
theorem dX8_text_30 : decode cX8_text 30 = .ok (.aload_n 0, 1) := by decide +kernel
theorem dX8_text_31 : decode cX8_text 31 = .ok (.getfield 28, 3) := by decide +kernel
theorem dX8_text_34 : decode cX8_text 34 = .ok (.aload_n 0, 1) := by decide +kernel
theorem dX8_text_35 : decode cX8_text 35 = .ok (.getfield 32, 3) := by decide +kernel
theorem dX8_text_38 : decode cX8_text 38 = .ok (.invokevirtual 95, 3) := by decide +kernel
theorem dX8_text_41 : decode cX8_text 41 = .ok (.aload_n 0, 1) := by decide +kernel
theorem dX8_text_42 : decode cX8_text 42 = .ok (.getfield 54, 3) := by decide +kernel
theorem dX8_text_45 : decode cX8_text 45 = .ok (.iconst 0, 1) := by decide +kernel
theorem dX8_text_46 : decode cX8_text 46 = .ok (.putfield 99, 3) := by decide +kernel
theorem dX8_text_49 : decode cX8_text 49 = .ok (.iconst 0, 1) := by decide +kernel
theorem dX8_text_50 : decode cX8_text 50 = .ok (.istore_n 2, 1) := by decide +kernel
theorem dX8_text_51 : decode cX8_text 51 = .ok (.iload_n 2, 1) := by decide +kernel
theorem dX8_text_52 : decode cX8_text 52 = .ok (.iconst 2, 1) := by decide +kernel
theorem dX8_text_53 : decode cX8_text 53 = .ok (.if_icmp .ge 19, 3) := by decide +kernel
theorem dX8_text_56 : decode cX8_text 56 = .ok (.aload_n 0, 1) := by decide +kernel
theorem dX8_text_57 : decode cX8_text 57 = .ok (.getfield 60, 3) := by decide +kernel
theorem dX8_text_60 : decode cX8_text 60 = .ok (.iload_n 2, 1) := by decide +kernel
theorem dX8_text_61 : decode cX8_text 61 = .ok (.aaload, 1) := by decide +kernel
theorem dX8_text_62 : decode cX8_text 62 = .ok (.iconst 0, 1) := by decide +kernel
theorem dX8_text_63 : decode cX8_text 63 = .ok (.putfield 102, 3) := by decide +kernel
theorem dX8_text_66 : decode cX8_text 66 = .ok (.iinc 2 1, 3) := by decide +kernel
theorem dX8_text_69 : decode cX8_text 69 = .ok (.goto (-18), 3) := by decide +kernel
theorem dX8_text_72 : decode cX8_text 72 = .ok (.iload_n 1, 1) := by decide +kernel
theorem dX8_text_73 : decode cX8_text 73 = .ok (.ireturn, 1) := by decide +kernel
theorem dX8_fault_0 : decode cX8_fault 0 = .ok (.aload_n 0, 1) := by decide +kernel
theorem dX8_fault_1 : decode cX8_fault 1 = .ok (.getfield 10, 3) := by decide +kernel
theorem dX8_fault_4 : decode cX8_fault 4 = .ok (.getfield 92, 3) := by decide +kernel
theorem dX8_fault_7 : decode cX8_fault 7 = .ok (.ireturn, 1) := by decide +kernel
set_option maxRecDepth 20000 in
theorem ggX8_rule_X2_minutesOfAll : GoodIn wsX8_rule wsX2_minutesOfAll := goodIn_r _ [6, 7, 8, 9, 10, 5, 11, 12, 13, 30, 31, 32, 33, 34, 35, 36, 37, 38, 39, 40, 41] (by decide +kernel) (by decide +kernel)
set_option maxRecDepth 20000 in
theorem gX8_rule_X2_minutesOfAll : GoodIn wsX8_rule (wsV RX8 118 RX2 yX2_minutesOfAll wsX2_minutesOfAll) := goodIn_app (goodIn_of _ (by decide +kernel)) ggX8_rule_X2_minutesOfAll
set_option maxRecDepth 20000 in
theorem ggX8_rule_X2_drivenMiles : GoodIn wsX8_rule wsX2_drivenMiles := goodIn_r _ [17, 7, 18, 8, 9, 10, 5, 11, 12, 13, 30, 31, 32, 33, 34, 35, 36, 37, 38, 39, 40, 41] (by decide +kernel) (by decide +kernel)
set_option maxRecDepth 20000 in
theorem gX8_rule_X2_drivenMiles : GoodIn wsX8_rule (wsV RX8 122 RX2 yX2_drivenMiles wsX2_drivenMiles) := goodIn_app (goodIn_of _ (by decide +kernel)) ggX8_rule_X2_drivenMiles
theorem dX8_rule_0 : decode cX8_rule 0 = .ok (.iload_n 1, 1) := by decide +kernel
theorem dX8_rule_1 : decode cX8_rule 1 = .ok (.tableswitch 87 0 5 #[39, 47, 55, 63, 71, 79], 39) := by decide +kernel
theorem dX8_rule_40 : decode cX8_rule 40 = .ok (.aload_n 0, 1) := by decide +kernel
theorem dX8_rule_41 : decode cX8_rule 41 = .ok (.getfield 28, 3) := by decide +kernel
theorem dX8_rule_44 : decode cX8_rule 44 = .ok (.getfield 106, 3) := by decide +kernel
theorem dX8_rule_47 : decode cX8_rule 47 = .ok (.ireturn, 1) := by decide +kernel
theorem dX8_rule_48 : decode cX8_rule 48 = .ok (.aload_n 0, 1) := by decide +kernel
theorem dX8_rule_49 : decode cX8_rule 49 = .ok (.getfield 28, 3) := by decide +kernel
theorem dX8_rule_52 : decode cX8_rule 52 = .ok (.getfield 109, 3) := by decide +kernel
theorem dX8_rule_55 : decode cX8_rule 55 = .ok (.ireturn, 1) := by decide +kernel
theorem dX8_rule_56 : decode cX8_rule 56 = .ok (.aload_n 0, 1) := by decide +kernel
theorem dX8_rule_57 : decode cX8_rule 57 = .ok (.getfield 28, 3) := by decide +kernel
theorem dX8_rule_60 : decode cX8_rule 60 = .ok (.getfield 112, 3) := by decide +kernel
theorem dX8_rule_63 : decode cX8_rule 63 = .ok (.ireturn, 1) := by decide +kernel
theorem dX8_rule_64 : decode cX8_rule 64 = .ok (.aload_n 0, 1) := by decide +kernel
theorem dX8_rule_65 : decode cX8_rule 65 = .ok (.getfield 28, 3) := by decide +kernel
theorem dX8_rule_68 : decode cX8_rule 68 = .ok (.getfield 115, 3) := by decide +kernel
theorem dX8_rule_71 : decode cX8_rule 71 = .ok (.ireturn, 1) := by decide +kernel
theorem dX8_rule_72 : decode cX8_rule 72 = .ok (.aload_n 0, 1) := by decide +kernel
theorem dX8_rule_73 : decode cX8_rule 73 = .ok (.getfield 28, 3) := by decide +kernel
theorem dX8_rule_76 : decode cX8_rule 76 = .ok (.invokevirtual 118, 3) := by decide +kernel
theorem dX8_rule_79 : decode cX8_rule 79 = .ok (.ireturn, 1) := by decide +kernel
theorem dX8_rule_80 : decode cX8_rule 80 = .ok (.aload_n 0, 1) := by decide +kernel
theorem dX8_rule_81 : decode cX8_rule 81 = .ok (.getfield 28, 3) := by decide +kernel
theorem dX8_rule_84 : decode cX8_rule 84 = .ok (.invokevirtual 122, 3) := by decide +kernel
theorem dX8_rule_87 : decode cX8_rule 87 = .ok (.ireturn, 1) := by decide +kernel
theorem dX8_rule_88 : decode cX8_rule 88 = .ok (.iconst (-1), 1) := by decide +kernel
theorem dX8_rule_89 : decode cX8_rule 89 = .ok (.ireturn, 1) := by decide +kernel
set_option maxRecDepth 20000 in
theorem ggX8_mile_X2_hasMile : GoodIn wsX8_mile wsX2_hasMile := goodIn_r _ [6, 7, 39, 40, 41, 42, 43, 44, 45, 46, 47, 48, 49, 50] (by decide +kernel) (by decide +kernel)
set_option maxRecDepth 20000 in
theorem gX8_mile_X2_hasMile : GoodIn wsX8_mile (wsV RX8 125 RX2 yX2_hasMile wsX2_hasMile) := goodIn_app (goodIn_of _ (by decide +kernel)) ggX8_mile_X2_hasMile
set_option maxRecDepth 20000 in
theorem ggX8_mile_X8_within : GoodIn wsX8_mile wsX8_within := goodIn_r _ [11] (by decide +kernel) (by decide +kernel)
set_option maxRecDepth 20000 in
theorem gX8_mile_X8_within : GoodIn wsX8_mile (va_wsS RX8 76 yX8_within wsX8_within) := goodIn_app (goodIn_of _ (by decide +kernel)) ggX8_mile_X8_within
set_option maxRecDepth 20000 in
theorem ggX8_mile_X2_minutesOf : GoodIn wsX8_mile wsX2_minutesOf := goodIn_r _ [15, 16, 17, 39, 40, 41, 42, 43, 44, 45, 46, 47, 48, 49, 50] (by decide +kernel) (by decide +kernel)
set_option maxRecDepth 20000 in
theorem gX8_mile_X2_minutesOf : GoodIn wsX8_mile (wsV RX8 128 RX2 yX2_minutesOf wsX2_minutesOf) := goodIn_app (goodIn_of _ (by decide +kernel)) ggX8_mile_X2_minutesOf
set_option maxRecDepth 20000 in
theorem ggX8_mile_X2_hearingOf : GoodIn wsX8_mile wsX2_hearingOf := goodIn_r _ [21, 16, 17, 22, 13, 14, 5, 15, 39, 40, 41, 42, 43, 44, 45, 46, 47, 48, 49, 50] (by decide +kernel) (by decide +kernel)
set_option maxRecDepth 20000 in
theorem gX8_mile_X2_hearingOf : GoodIn wsX8_mile (wsV RX8 132 RX2 yX2_hearingOf wsX2_hearingOf) := goodIn_app (goodIn_of _ (by decide +kernel)) ggX8_mile_X2_hearingOf
set_option maxRecDepth 20000 in
theorem ggX8_mile_X2_mileRow : GoodIn wsX8_mile wsX2_mileRow := goodIn_r _ [26, 27, 16, 17, 39, 40, 41, 42, 43, 44, 45, 46, 47, 48, 49, 50] (by decide +kernel) (by decide +kernel)
set_option maxRecDepth 20000 in
theorem gX8_mile_X2_mileRow : GoodIn wsX8_mile (wsV RX8 135 RX2 yX2_mileRow wsX2_mileRow) := goodIn_app (goodIn_of _ (by decide +kernel)) ggX8_mile_X2_mileRow
theorem dX8_mile_0 : decode cX8_mile 0 = .ok (.aload_n 0, 1) := by decide +kernel
theorem dX8_mile_1 : decode cX8_mile 1 = .ok (.getfield 28, 3) := by decide +kernel
theorem dX8_mile_4 : decode cX8_mile 4 = .ok (.iload_n 1, 1) := by decide +kernel
theorem dX8_mile_5 : decode cX8_mile 5 = .ok (.invokevirtual 125, 3) := by decide +kernel
theorem dX8_mile_8 : decode cX8_mile 8 = .ok (.ifCond .eq 12, 3) := by decide +kernel
theorem dX8_mile_11 : decode cX8_mile 11 = .ok (.iload_n 2, 1) := by decide +kernel
theorem dX8_mile_12 : decode cX8_mile 12 = .ok (.iconst 0, 1) := by decide +kernel
theorem dX8_mile_13 : decode cX8_mile 13 = .ok (.iconst 4, 1) := by decide +kernel
theorem dX8_mile_14 : decode cX8_mile 14 = .ok (.invokestatic 76, 3) := by decide +kernel
theorem dX8_mile_17 : decode cX8_mile 17 = .ok (.ifCond .ne 5, 3) := by decide +kernel
theorem dX8_mile_20 : decode cX8_mile 20 = .ok (.iconst (-1), 1) := by decide +kernel
theorem dX8_mile_21 : decode cX8_mile 21 = .ok (.ireturn, 1) := by decide +kernel
theorem dX8_mile_22 : decode cX8_mile 22 = .ok (.iload_n 2, 1) := by decide +kernel
theorem dX8_mile_23 : decode cX8_mile 23 = .ok (.iconst 3, 1) := by decide +kernel
theorem dX8_mile_24 : decode cX8_mile 24 = .ok (.if_icmp .ne 12, 3) := by decide +kernel
theorem dX8_mile_27 : decode cX8_mile 27 = .ok (.aload_n 0, 1) := by decide +kernel
theorem dX8_mile_28 : decode cX8_mile 28 = .ok (.getfield 28, 3) := by decide +kernel
theorem dX8_mile_31 : decode cX8_mile 31 = .ok (.iload_n 1, 1) := by decide +kernel
theorem dX8_mile_32 : decode cX8_mile 32 = .ok (.invokevirtual 128, 3) := by decide +kernel
theorem dX8_mile_35 : decode cX8_mile 35 = .ok (.ireturn, 1) := by decide +kernel
theorem dX8_mile_36 : decode cX8_mile 36 = .ok (.iload_n 2, 1) := by decide +kernel
theorem dX8_mile_37 : decode cX8_mile 37 = .ok (.iconst 4, 1) := by decide +kernel
theorem dX8_mile_38 : decode cX8_mile 38 = .ok (.if_icmp .ne 14, 3) := by decide +kernel
theorem dX8_mile_41 : decode cX8_mile 41 = .ok (.aload_n 0, 1) := by decide +kernel
theorem dX8_mile_42 : decode cX8_mile 42 = .ok (.getfield 28, 3) := by decide +kernel
theorem dX8_mile_45 : decode cX8_mile 45 = .ok (.iload_n 1, 1) := by decide +kernel
theorem dX8_mile_46 : decode cX8_mile 46 = .ok (.invokevirtual 132, 3) := by decide +kernel
theorem dX8_mile_49 : decode cX8_mile 49 = .ok (.goto 13, 3) := by decide +kernel
theorem dX8_mile_52 : decode cX8_mile 52 = .ok (.aload_n 0, 1) := by decide +kernel
theorem dX8_mile_53 : decode cX8_mile 53 = .ok (.getfield 28, 3) := by decide +kernel
theorem dX8_mile_56 : decode cX8_mile 56 = .ok (.iload_n 2, 1) := by decide +kernel
theorem dX8_mile_57 : decode cX8_mile 57 = .ok (.invokevirtual 135, 3) := by decide +kernel
theorem dX8_mile_60 : decode cX8_mile 60 = .ok (.iload_n 1, 1) := by decide +kernel
theorem dX8_mile_61 : decode cX8_mile 61 = .ok (.iaload, 1) := by decide +kernel
theorem dX8_mile_62 : decode cX8_mile 62 = .ok (.ireturn, 1) := by decide +kernel
set_option maxRecDepth 20000 in
theorem ggX8_party_X2_hasParty : GoodIn wsX8_party wsX2_hasParty := goodIn_r _ [6, 7, 32, 33, 34, 35, 36, 37, 38, 39, 40, 41, 42, 43] (by decide +kernel) (by decide +kernel)
set_option maxRecDepth 20000 in
theorem gX8_party_X2_hasParty : GoodIn wsX8_party (wsV RX8 139 RX2 yX2_hasParty wsX2_hasParty) := goodIn_app (goodIn_of _ (by decide +kernel)) ggX8_party_X2_hasParty
set_option maxRecDepth 20000 in
theorem ggX8_party_X8_within : GoodIn wsX8_party wsX8_within := goodIn_r _ [11] (by decide +kernel) (by decide +kernel)
set_option maxRecDepth 20000 in
theorem gX8_party_X8_within : GoodIn wsX8_party (va_wsS RX8 76 yX8_within wsX8_within) := goodIn_app (goodIn_of _ (by decide +kernel)) ggX8_party_X8_within
set_option maxRecDepth 20000 in
theorem ggX8_party_X2_partyRow : GoodIn wsX8_party wsX2_partyRow := goodIn_r _ [15, 16, 17, 18, 19, 20, 32, 33, 34, 35, 36, 37, 38, 39, 40, 41, 42, 43] (by decide +kernel) (by decide +kernel)
set_option maxRecDepth 20000 in
theorem gX8_party_X2_partyRow : GoodIn wsX8_party (wsV RX8 142 RX2 yX2_partyRow wsX2_partyRow) := goodIn_app (goodIn_of _ (by decide +kernel)) ggX8_party_X2_partyRow
theorem dX8_party_0 : decode cX8_party 0 = .ok (.aload_n 0, 1) := by decide +kernel
theorem dX8_party_1 : decode cX8_party 1 = .ok (.getfield 28, 3) := by decide +kernel
theorem dX8_party_4 : decode cX8_party 4 = .ok (.iload_n 1, 1) := by decide +kernel
theorem dX8_party_5 : decode cX8_party 5 = .ok (.invokevirtual 139, 3) := by decide +kernel
theorem dX8_party_8 : decode cX8_party 8 = .ok (.ifCond .eq 12, 3) := by decide +kernel
theorem dX8_party_11 : decode cX8_party 11 = .ok (.iload_n 2, 1) := by decide +kernel
theorem dX8_party_12 : decode cX8_party 12 = .ok (.iconst 0, 1) := by decide +kernel
theorem dX8_party_13 : decode cX8_party 13 = .ok (.iconst 4, 1) := by decide +kernel
theorem dX8_party_14 : decode cX8_party 14 = .ok (.invokestatic 76, 3) := by decide +kernel
theorem dX8_party_17 : decode cX8_party 17 = .ok (.ifCond .ne 5, 3) := by decide +kernel
theorem dX8_party_20 : decode cX8_party 20 = .ok (.iconst (-1), 1) := by decide +kernel
theorem dX8_party_21 : decode cX8_party 21 = .ok (.ireturn, 1) := by decide +kernel
theorem dX8_party_22 : decode cX8_party 22 = .ok (.aload_n 0, 1) := by decide +kernel
theorem dX8_party_23 : decode cX8_party 23 = .ok (.getfield 28, 3) := by decide +kernel
theorem dX8_party_26 : decode cX8_party 26 = .ok (.iload_n 2, 1) := by decide +kernel
theorem dX8_party_27 : decode cX8_party 27 = .ok (.invokevirtual 142, 3) := by decide +kernel
theorem dX8_party_30 : decode cX8_party 30 = .ok (.iload_n 1, 1) := by decide +kernel
theorem dX8_party_31 : decode cX8_party 31 = .ok (.iaload, 1) := by decide +kernel
theorem dX8_party_32 : decode cX8_party 32 = .ok (.ireturn, 1) := by decide +kernel
set_option maxRecDepth 20000 in
theorem ggX8_strain_X2_hasParty : GoodIn wsX8_strain wsX2_hasParty := goodIn_r _ [6, 7, 35, 36, 37, 38, 39, 40, 41, 42, 43, 44, 45, 46] (by decide +kernel) (by decide +kernel)
set_option maxRecDepth 20000 in
theorem gX8_strain_X2_hasParty : GoodIn wsX8_strain (wsV RX8 139 RX2 yX2_hasParty wsX2_hasParty) := goodIn_app (goodIn_of _ (by decide +kernel)) ggX8_strain_X2_hasParty
set_option maxRecDepth 20000 in
theorem ggX8_strain_X2_hasMile : GoodIn wsX8_strain wsX2_hasMile := goodIn_r _ [11, 12, 35, 36, 37, 38, 39, 40, 41, 42, 43, 44, 45, 46] (by decide +kernel) (by decide +kernel)
set_option maxRecDepth 20000 in
theorem gX8_strain_X2_hasMile : GoodIn wsX8_strain (wsV RX8 125 RX2 yX2_hasMile wsX2_hasMile) := goodIn_app (goodIn_of _ (by decide +kernel)) ggX8_strain_X2_hasMile
set_option maxRecDepth 20000 in
theorem ggX8_strain_X2_strainOf : GoodIn wsX8_strain wsX2_strainOf := goodIn_r _ [16, 17, 18, 19, 20, 21, 5, 22, 23, 35, 36, 37, 38, 39, 40, 41, 42, 43, 44, 45, 46] (by decide +kernel) (by decide +kernel)
set_option maxRecDepth 20000 in
theorem gX8_strain_X2_strainOf : GoodIn wsX8_strain (wsV RX8 145 RX2 yX2_strainOf wsX2_strainOf) := goodIn_app (goodIn_of _ (by decide +kernel)) ggX8_strain_X2_strainOf
theorem dX8_strain_0 : decode cX8_strain 0 = .ok (.aload_n 0, 1) := by decide +kernel
theorem dX8_strain_1 : decode cX8_strain 1 = .ok (.getfield 28, 3) := by decide +kernel
theorem dX8_strain_4 : decode cX8_strain 4 = .ok (.iload_n 1, 1) := by decide +kernel
theorem dX8_strain_5 : decode cX8_strain 5 = .ok (.invokevirtual 139, 3) := by decide +kernel
theorem dX8_strain_8 : decode cX8_strain 8 = .ok (.ifCond .eq 14, 3) := by decide +kernel
theorem dX8_strain_11 : decode cX8_strain 11 = .ok (.aload_n 0, 1) := by decide +kernel
theorem dX8_strain_12 : decode cX8_strain 12 = .ok (.getfield 28, 3) := by decide +kernel
theorem dX8_strain_15 : decode cX8_strain 15 = .ok (.iload_n 2, 1) := by decide +kernel
theorem dX8_strain_16 : decode cX8_strain 16 = .ok (.invokevirtual 125, 3) := by decide +kernel
theorem dX8_strain_19 : decode cX8_strain 19 = .ok (.ifCond .ne 5, 3) := by decide +kernel
theorem dX8_strain_22 : decode cX8_strain 22 = .ok (.iconst (-1), 1) := by decide +kernel
theorem dX8_strain_23 : decode cX8_strain 23 = .ok (.ireturn, 1) := by decide +kernel
theorem dX8_strain_24 : decode cX8_strain 24 = .ok (.aload_n 0, 1) := by decide +kernel
theorem dX8_strain_25 : decode cX8_strain 25 = .ok (.getfield 28, 3) := by decide +kernel
theorem dX8_strain_28 : decode cX8_strain 28 = .ok (.iload_n 1, 1) := by decide +kernel
theorem dX8_strain_29 : decode cX8_strain 29 = .ok (.iload_n 2, 1) := by decide +kernel
theorem dX8_strain_30 : decode cX8_strain 30 = .ok (.invokevirtual 145, 3) := by decide +kernel
theorem dX8_strain_33 : decode cX8_strain 33 = .ok (.ireturn, 1) := by decide +kernel
set_option maxRecDepth 20000 in
theorem ggX8_pave_X2_hasMile : GoodIn wsX8_pave wsX2_hasMile := goodIn_r _ [7, 8, 31, 32, 33, 34, 35, 36, 37, 38, 39, 40, 41, 42] (by decide +kernel) (by decide +kernel)
set_option maxRecDepth 20000 in
theorem gX8_pave_X2_hasMile : GoodIn wsX8_pave (wsV RX8 125 RX2 yX2_hasMile wsX2_hasMile) := goodIn_app (goodIn_of _ (by decide +kernel)) ggX8_pave_X2_hasMile
set_option maxRecDepth 20000 in
theorem ggX8_pave_X8_within : GoodIn wsX8_pave wsX8_within := goodIn_r _ [12] (by decide +kernel) (by decide +kernel)
set_option maxRecDepth 20000 in
theorem gX8_pave_X8_within : GoodIn wsX8_pave (va_wsS RX8 76 yX8_within wsX8_within) := goodIn_app (goodIn_of _ (by decide +kernel)) ggX8_pave_X8_within
set_option maxRecDepth 20000 in
theorem ggX8_pave_X2_mileRow : GoodIn wsX8_pave wsX2_mileRow := goodIn_r _ [16, 17, 18, 19, 31, 32, 33, 34, 35, 36, 37, 38, 39, 40, 41, 42] (by decide +kernel) (by decide +kernel)
set_option maxRecDepth 20000 in
theorem gX8_pave_X2_mileRow : GoodIn wsX8_pave (wsV RX8 135 RX2 yX2_mileRow wsX2_mileRow) := goodIn_app (goodIn_of _ (by decide +kernel)) ggX8_pave_X2_mileRow
theorem dX8_pave_0 : decode cX8_pave 0 = .ok (.aload_n 0, 1) := by decide +kernel
theorem dX8_pave_1 : decode cX8_pave 1 = .ok (.getfield 28, 3) := by decide +kernel
theorem dX8_pave_4 : decode cX8_pave 4 = .ok (.iload_n 1, 1) := by decide +kernel
theorem dX8_pave_5 : decode cX8_pave 5 = .ok (.invokevirtual 125, 3) := by decide +kernel
theorem dX8_pave_8 : decode cX8_pave 8 = .ok (.ifCond .eq 25, 3) := by decide +kernel
theorem dX8_pave_11 : decode cX8_pave 11 = .ok (.iload_n 2, 1) := by decide +kernel
theorem dX8_pave_12 : decode cX8_pave 12 = .ok (.iconst 0, 1) := by decide +kernel
theorem dX8_pave_13 : decode cX8_pave 13 = .ok (.iconst 2, 1) := by decide +kernel
theorem dX8_pave_14 : decode cX8_pave 14 = .ok (.invokestatic 76, 3) := by decide +kernel
theorem dX8_pave_17 : decode cX8_pave 17 = .ok (.ifCond .eq 16, 3) := by decide +kernel
theorem dX8_pave_20 : decode cX8_pave 20 = .ok (.iload_n 3, 1) := by decide +kernel
theorem dX8_pave_21 : decode cX8_pave 21 = .ok (.iconst 0, 1) := by decide +kernel
theorem dX8_pave_22 : decode cX8_pave 22 = .ok (.getstatic 149, 3) := by decide +kernel
theorem dX8_pave_25 : decode cX8_pave 25 = .ok (.iload_n 2, 1) := by decide +kernel
theorem dX8_pave_26 : decode cX8_pave 26 = .ok (.iaload, 1) := by decide +kernel
theorem dX8_pave_27 : decode cX8_pave 27 = .ok (.invokestatic 76, 3) := by decide +kernel
theorem dX8_pave_30 : decode cX8_pave 30 = .ok (.ifCond .ne 5, 3) := by decide +kernel
theorem dX8_pave_33 : decode cX8_pave 33 = .ok (.iconst (-1), 1) := by decide +kernel
theorem dX8_pave_34 : decode cX8_pave 34 = .ok (.ireturn, 1) := by decide +kernel
theorem dX8_pave_35 : decode cX8_pave 35 = .ok (.aload_n 0, 1) := by decide +kernel
theorem dX8_pave_36 : decode cX8_pave 36 = .ok (.getfield 28, 3) := by decide +kernel
theorem dX8_pave_39 : decode cX8_pave 39 = .ok (.iload_n 2, 1) := by decide +kernel
theorem dX8_pave_40 : decode cX8_pave 40 = .ok (.invokevirtual 135, 3) := by decide +kernel
theorem dX8_pave_43 : decode cX8_pave 43 = .ok (.astore 4, 2) := by decide +kernel
theorem dX8_pave_45 : decode cX8_pave 45 = .ok (.aload 4, 2) := by decide +kernel
theorem dX8_pave_47 : decode cX8_pave 47 = .ok (.iload_n 1, 1) := by decide +kernel
theorem dX8_pave_48 : decode cX8_pave 48 = .ok (.iaload, 1) := by decide +kernel
theorem dX8_pave_49 : decode cX8_pave 49 = .ok (.istore 5, 2) := by decide +kernel
theorem dX8_pave_51 : decode cX8_pave 51 = .ok (.aload 4, 2) := by decide +kernel
theorem dX8_pave_53 : decode cX8_pave 53 = .ok (.iload_n 1, 1) := by decide +kernel
theorem dX8_pave_54 : decode cX8_pave 54 = .ok (.iload_n 3, 1) := by decide +kernel
theorem dX8_pave_55 : decode cX8_pave 55 = .ok (.iastore, 1) := by decide +kernel
theorem dX8_pave_56 : decode cX8_pave 56 = .ok (.iload 5, 2) := by decide +kernel
theorem dX8_pave_58 : decode cX8_pave 58 = .ok (.ireturn, 1) := by decide +kernel
set_option maxRecDepth 20000 in
theorem ggX8_alter_X2_hasParty : GoodIn wsX8_alter wsX2_hasParty := goodIn_r _ [8, 9, 34, 35, 36, 37, 38, 39, 40, 41, 42, 43, 44, 45] (by decide +kernel) (by decide +kernel)
set_option maxRecDepth 20000 in
theorem gX8_alter_X2_hasParty : GoodIn wsX8_alter (wsV RX8 139 RX2 yX2_hasParty wsX2_hasParty) := goodIn_app (goodIn_of _ (by decide +kernel)) ggX8_alter_X2_hasParty
set_option maxRecDepth 20000 in
theorem ggX8_alter_X8_within : GoodIn wsX8_alter wsX8_within := goodIn_r _ [13] (by decide +kernel) (by decide +kernel)
set_option maxRecDepth 20000 in
theorem gX8_alter_X8_within : GoodIn wsX8_alter (va_wsS RX8 76 yX8_within wsX8_within) := goodIn_app (goodIn_of _ (by decide +kernel)) ggX8_alter_X8_within
set_option maxRecDepth 20000 in
theorem ggX8_alter_X2_partyRow : GoodIn wsX8_alter wsX2_partyRow := goodIn_r _ [17, 18, 19, 20, 21, 22, 34, 35, 36, 37, 38, 39, 40, 41, 42, 43, 44, 45] (by decide +kernel) (by decide +kernel)
set_option maxRecDepth 20000 in
theorem gX8_alter_X2_partyRow : GoodIn wsX8_alter (wsV RX8 142 RX2 yX2_partyRow wsX2_partyRow) := goodIn_app (goodIn_of _ (by decide +kernel)) ggX8_alter_X2_partyRow
theorem dX8_alter_0 : decode cX8_alter 0 = .ok (.aload_n 0, 1) := by decide +kernel
theorem dX8_alter_1 : decode cX8_alter 1 = .ok (.getfield 28, 3) := by decide +kernel
theorem dX8_alter_4 : decode cX8_alter 4 = .ok (.iload_n 1, 1) := by decide +kernel
theorem dX8_alter_5 : decode cX8_alter 5 = .ok (.invokevirtual 139, 3) := by decide +kernel
theorem dX8_alter_8 : decode cX8_alter 8 = .ok (.ifCond .eq 29, 3) := by decide +kernel
theorem dX8_alter_11 : decode cX8_alter 11 = .ok (.iload_n 2, 1) := by decide +kernel
theorem dX8_alter_12 : decode cX8_alter 12 = .ok (.iconst 0, 1) := by decide +kernel
theorem dX8_alter_13 : decode cX8_alter 13 = .ok (.iconst 3, 1) := by decide +kernel
theorem dX8_alter_14 : decode cX8_alter 14 = .ok (.invokestatic 76, 3) := by decide +kernel
theorem dX8_alter_17 : decode cX8_alter 17 = .ok (.ifCond .eq 20, 3) := by decide +kernel
theorem dX8_alter_20 : decode cX8_alter 20 = .ok (.iload_n 3, 1) := by decide +kernel
theorem dX8_alter_21 : decode cX8_alter 21 = .ok (.getstatic 152, 3) := by decide +kernel
theorem dX8_alter_24 : decode cX8_alter 24 = .ok (.iload_n 2, 1) := by decide +kernel
theorem dX8_alter_25 : decode cX8_alter 25 = .ok (.iaload, 1) := by decide +kernel
theorem dX8_alter_26 : decode cX8_alter 26 = .ok (.getstatic 155, 3) := by decide +kernel
theorem dX8_alter_29 : decode cX8_alter 29 = .ok (.iload_n 2, 1) := by decide +kernel
theorem dX8_alter_30 : decode cX8_alter 30 = .ok (.iaload, 1) := by decide +kernel
theorem dX8_alter_31 : decode cX8_alter 31 = .ok (.invokestatic 76, 3) := by decide +kernel
theorem dX8_alter_34 : decode cX8_alter 34 = .ok (.ifCond .ne 5, 3) := by decide +kernel
theorem dX8_alter_37 : decode cX8_alter 37 = .ok (.iconst (-1), 1) := by decide +kernel
theorem dX8_alter_38 : decode cX8_alter 38 = .ok (.ireturn, 1) := by decide +kernel
theorem dX8_alter_39 : decode cX8_alter 39 = .ok (.aload_n 0, 1) := by decide +kernel
theorem dX8_alter_40 : decode cX8_alter 40 = .ok (.getfield 28, 3) := by decide +kernel
theorem dX8_alter_43 : decode cX8_alter 43 = .ok (.iload_n 2, 1) := by decide +kernel
theorem dX8_alter_44 : decode cX8_alter 44 = .ok (.invokevirtual 142, 3) := by decide +kernel
theorem dX8_alter_47 : decode cX8_alter 47 = .ok (.astore 4, 2) := by decide +kernel
theorem dX8_alter_49 : decode cX8_alter 49 = .ok (.aload 4, 2) := by decide +kernel
theorem dX8_alter_51 : decode cX8_alter 51 = .ok (.iload_n 1, 1) := by decide +kernel
theorem dX8_alter_52 : decode cX8_alter 52 = .ok (.iaload, 1) := by decide +kernel
theorem dX8_alter_53 : decode cX8_alter 53 = .ok (.istore 5, 2) := by decide +kernel
theorem dX8_alter_55 : decode cX8_alter 55 = .ok (.aload 4, 2) := by decide +kernel
theorem dX8_alter_57 : decode cX8_alter 57 = .ok (.iload_n 1, 1) := by decide +kernel
theorem dX8_alter_58 : decode cX8_alter 58 = .ok (.iload_n 3, 1) := by decide +kernel
theorem dX8_alter_59 : decode cX8_alter 59 = .ok (.iastore, 1) := by decide +kernel
theorem dX8_alter_60 : decode cX8_alter 60 = .ok (.iload 5, 2) := by decide +kernel
theorem dX8_alter_62 : decode cX8_alter 62 = .ok (.ireturn, 1) := by decide +kernel
set_option maxRecDepth 20000 in
theorem ggX8_stand_X2_hasParty : GoodIn wsX8_stand wsX2_hasParty := goodIn_r _ [6, 7, 24, 25, 26, 27, 28, 29, 30, 31, 32, 33, 34, 35] (by decide +kernel) (by decide +kernel)
set_option maxRecDepth 20000 in
theorem gX8_stand_X2_hasParty : GoodIn wsX8_stand (wsV RX8 139 RX2 yX2_hasParty wsX2_hasParty) := goodIn_app (goodIn_of _ (by decide +kernel)) ggX8_stand_X2_hasParty
set_option maxRecDepth 20000 in
theorem ggX8_stand_X2_hasMile : GoodIn wsX8_stand wsX2_hasMile := goodIn_r _ [11, 12, 24, 25, 26, 27, 28, 29, 30, 31, 32, 33, 34, 35] (by decide +kernel) (by decide +kernel)
set_option maxRecDepth 20000 in
theorem gX8_stand_X2_hasMile : GoodIn wsX8_stand (wsV RX8 125 RX2 yX2_hasMile wsX2_hasMile) := goodIn_app (goodIn_of _ (by decide +kernel)) ggX8_stand_X2_hasMile
theorem dX8_stand_0 : decode cX8_stand 0 = .ok (.aload_n 0, 1) := by decide +kernel
theorem dX8_stand_1 : decode cX8_stand 1 = .ok (.getfield 28, 3) := by decide +kernel
theorem dX8_stand_4 : decode cX8_stand 4 = .ok (.iload_n 1, 1) := by decide +kernel
theorem dX8_stand_5 : decode cX8_stand 5 = .ok (.invokevirtual 139, 3) := by decide +kernel
theorem dX8_stand_8 : decode cX8_stand 8 = .ok (.ifCond .eq 14, 3) := by decide +kernel
theorem dX8_stand_11 : decode cX8_stand 11 = .ok (.aload_n 0, 1) := by decide +kernel
theorem dX8_stand_12 : decode cX8_stand 12 = .ok (.getfield 28, 3) := by decide +kernel
theorem dX8_stand_15 : decode cX8_stand 15 = .ok (.iload_n 2, 1) := by decide +kernel
theorem dX8_stand_16 : decode cX8_stand 16 = .ok (.invokevirtual 125, 3) := by decide +kernel
theorem dX8_stand_19 : decode cX8_stand 19 = .ok (.ifCond .ne 5, 3) := by decide +kernel
theorem dX8_stand_22 : decode cX8_stand 22 = .ok (.iconst (-1), 1) := by decide +kernel
theorem dX8_stand_23 : decode cX8_stand 23 = .ok (.ireturn, 1) := by decide +kernel
theorem dX8_stand_24 : decode cX8_stand 24 = .ok (.aload_n 0, 1) := by decide +kernel
theorem dX8_stand_25 : decode cX8_stand 25 = .ok (.getfield 28, 3) := by decide +kernel
theorem dX8_stand_28 : decode cX8_stand 28 = .ok (.getfield 158, 3) := by decide +kernel
theorem dX8_stand_31 : decode cX8_stand 31 = .ok (.iload_n 1, 1) := by decide +kernel
theorem dX8_stand_32 : decode cX8_stand 32 = .ok (.iaload, 1) := by decide +kernel
theorem dX8_stand_33 : decode cX8_stand 33 = .ok (.istore_n 3, 1) := by decide +kernel
theorem dX8_stand_34 : decode cX8_stand 34 = .ok (.aload_n 0, 1) := by decide +kernel
theorem dX8_stand_35 : decode cX8_stand 35 = .ok (.getfield 28, 3) := by decide +kernel
theorem dX8_stand_38 : decode cX8_stand 38 = .ok (.getfield 158, 3) := by decide +kernel
theorem dX8_stand_41 : decode cX8_stand 41 = .ok (.iload_n 1, 1) := by decide +kernel
theorem dX8_stand_42 : decode cX8_stand 42 = .ok (.iload_n 2, 1) := by decide +kernel
theorem dX8_stand_43 : decode cX8_stand 43 = .ok (.iastore, 1) := by decide +kernel
theorem dX8_stand_44 : decode cX8_stand 44 = .ok (.iload_n 3, 1) := by decide +kernel
theorem dX8_stand_45 : decode cX8_stand 45 = .ok (.ireturn, 1) := by decide +kernel
set_option maxRecDepth 20000 in
theorem ggX8_set_X8_within : GoodIn wsX8_set wsX8_within := goodIn_r _ [5] (by decide +kernel) (by decide +kernel)
set_option maxRecDepth 20000 in
theorem gX8_set_X8_within : GoodIn wsX8_set (va_wsS RX8 76 yX8_within wsX8_within) := goodIn_app (goodIn_of _ (by decide +kernel)) ggX8_set_X8_within
theorem dX8_set_0 : decode cX8_set 0 = .ok (.iload_n 1, 1) := by decide +kernel
theorem dX8_set_1 : decode cX8_set 1 = .ok (.iconst 2, 1) := by decide +kernel
theorem dX8_set_2 : decode cX8_set 2 = .ok (.if_icmp .ne 30, 3) := by decide +kernel
theorem dX8_set_5 : decode cX8_set 5 = .ok (.iload_n 2, 1) := by decide +kernel
theorem dX8_set_6 : decode cX8_set 6 = .ok (.iconst 1, 1) := by decide +kernel
theorem dX8_set_7 : decode cX8_set 7 = .ok (.iconst 4, 1) := by decide +kernel
theorem dX8_set_8 : decode cX8_set 8 = .ok (.invokestatic 76, 3) := by decide +kernel
theorem dX8_set_11 : decode cX8_set 11 = .ok (.ifCond .eq 21, 3) := by decide +kernel
theorem dX8_set_14 : decode cX8_set 14 = .ok (.aload_n 0, 1) := by decide +kernel
theorem dX8_set_15 : decode cX8_set 15 = .ok (.getfield 28, 3) := by decide +kernel
theorem dX8_set_18 : decode cX8_set 18 = .ok (.getfield 112, 3) := by decide +kernel
theorem dX8_set_21 : decode cX8_set 21 = .ok (.istore_n 3, 1) := by decide +kernel
theorem dX8_set_22 : decode cX8_set 22 = .ok (.aload_n 0, 1) := by decide +kernel
theorem dX8_set_23 : decode cX8_set 23 = .ok (.getfield 28, 3) := by decide +kernel
theorem dX8_set_26 : decode cX8_set 26 = .ok (.iload_n 2, 1) := by decide +kernel
theorem dX8_set_27 : decode cX8_set 27 = .ok (.putfield 112, 3) := by decide +kernel
theorem dX8_set_30 : decode cX8_set 30 = .ok (.iload_n 3, 1) := by decide +kernel
theorem dX8_set_31 : decode cX8_set 31 = .ok (.ireturn, 1) := by decide +kernel
theorem dX8_set_32 : decode cX8_set 32 = .ok (.iload_n 1, 1) := by decide +kernel
theorem dX8_set_33 : decode cX8_set 33 = .ok (.iconst 3, 1) := by decide +kernel
theorem dX8_set_34 : decode cX8_set 34 = .ok (.if_icmp .ne 31, 3) := by decide +kernel
theorem dX8_set_37 : decode cX8_set 37 = .ok (.iload_n 2, 1) := by decide +kernel
theorem dX8_set_38 : decode cX8_set 38 = .ok (.iconst 0, 1) := by decide +kernel
theorem dX8_set_39 : decode cX8_set 39 = .ok (.bipush 99, 2) := by decide +kernel
theorem dX8_set_41 : decode cX8_set 41 = .ok (.invokestatic 76, 3) := by decide +kernel
theorem dX8_set_44 : decode cX8_set 44 = .ok (.ifCond .eq 21, 3) := by decide +kernel
theorem dX8_set_47 : decode cX8_set 47 = .ok (.aload_n 0, 1) := by decide +kernel
theorem dX8_set_48 : decode cX8_set 48 = .ok (.getfield 28, 3) := by decide +kernel
theorem dX8_set_51 : decode cX8_set 51 = .ok (.getfield 115, 3) := by decide +kernel
theorem dX8_set_54 : decode cX8_set 54 = .ok (.istore_n 3, 1) := by decide +kernel
theorem dX8_set_55 : decode cX8_set 55 = .ok (.aload_n 0, 1) := by decide +kernel
theorem dX8_set_56 : decode cX8_set 56 = .ok (.getfield 28, 3) := by decide +kernel
theorem dX8_set_59 : decode cX8_set 59 = .ok (.iload_n 2, 1) := by decide +kernel
theorem dX8_set_60 : decode cX8_set 60 = .ok (.putfield 115, 3) := by decide +kernel
theorem dX8_set_63 : decode cX8_set 63 = .ok (.iload_n 3, 1) := by decide +kernel
theorem dX8_set_64 : decode cX8_set 64 = .ok (.ireturn, 1) := by decide +kernel
theorem dX8_set_65 : decode cX8_set 65 = .ok (.iconst (-1), 1) := by decide +kernel
theorem dX8_set_66 : decode cX8_set 66 = .ok (.ireturn, 1) := by decide +kernel
set_option maxRecDepth 20000 in
theorem ggX8_turn_X2_hasSignpost : GoodIn wsX8_turn wsX2_hasSignpost := goodIn_r _ [6, 7, 24, 25, 26, 27, 28, 29, 30, 31, 32, 33, 34, 35] (by decide +kernel) (by decide +kernel)
set_option maxRecDepth 20000 in
theorem gX8_turn_X2_hasSignpost : GoodIn wsX8_turn (wsV RX8 161 RX2 yX2_hasSignpost wsX2_hasSignpost) := goodIn_app (goodIn_of _ (by decide +kernel)) ggX8_turn_X2_hasSignpost
set_option maxRecDepth 20000 in
theorem ggX8_turn_X2_turnSignpost : GoodIn wsX8_turn wsX2_turnSignpost := goodIn_r _ [11, 12, 24, 25, 26, 27, 28, 29, 30, 31, 32, 33, 34, 35] (by decide +kernel) (by decide +kernel)
set_option maxRecDepth 20000 in
theorem gX8_turn_X2_turnSignpost : GoodIn wsX8_turn (wsV RX8 164 RX2 yX2_turnSignpost wsX2_turnSignpost) := goodIn_app (goodIn_of _ (by decide +kernel)) ggX8_turn_X2_turnSignpost
theorem dX8_turn_0 : decode cX8_turn 0 = .ok (.aload_n 0, 1) := by decide +kernel
theorem dX8_turn_1 : decode cX8_turn 1 = .ok (.getfield 28, 3) := by decide +kernel
theorem dX8_turn_4 : decode cX8_turn 4 = .ok (.iload_n 1, 1) := by decide +kernel
theorem dX8_turn_5 : decode cX8_turn 5 = .ok (.invokevirtual 161, 3) := by decide +kernel
theorem dX8_turn_8 : decode cX8_turn 8 = .ok (.ifCond .ne 5, 3) := by decide +kernel
theorem dX8_turn_11 : decode cX8_turn 11 = .ok (.iconst (-1), 1) := by decide +kernel
theorem dX8_turn_12 : decode cX8_turn 12 = .ok (.ireturn, 1) := by decide +kernel
theorem dX8_turn_13 : decode cX8_turn 13 = .ok (.aload_n 0, 1) := by decide +kernel
theorem dX8_turn_14 : decode cX8_turn 14 = .ok (.getfield 28, 3) := by decide +kernel
theorem dX8_turn_17 : decode cX8_turn 17 = .ok (.iload_n 1, 1) := by decide +kernel
theorem dX8_turn_18 : decode cX8_turn 18 = .ok (.invokevirtual 164, 3) := by decide +kernel
theorem dX8_turn_21 : decode cX8_turn 21 = .ok (.aload_n 0, 1) := by decide +kernel
theorem dX8_turn_22 : decode cX8_turn 22 = .ok (.getfield 28, 3) := by decide +kernel
theorem dX8_turn_25 : decode cX8_turn 25 = .ok (.getfield 168, 3) := by decide +kernel
theorem dX8_turn_28 : decode cX8_turn 28 = .ok (.iload_n 1, 1) := by decide +kernel
theorem dX8_turn_29 : decode cX8_turn 29 = .ok (.iaload, 1) := by decide +kernel
theorem dX8_turn_30 : decode cX8_turn 30 = .ok (.ireturn, 1) := by decide +kernel
set_option maxRecDepth 20000 in
theorem ggX8_fate_X2_hasParty : GoodIn wsX8_fate wsX2_hasParty := goodIn_r _ [7, 8, 80, 81, 82, 83, 84, 85, 86, 87, 88, 89, 90, 91] (by decide +kernel) (by decide +kernel)
set_option maxRecDepth 20000 in
theorem gX8_fate_X2_hasParty : GoodIn wsX8_fate (wsV RX8 139 RX2 yX2_hasParty wsX2_hasParty) := goodIn_app (goodIn_of _ (by decide +kernel)) ggX8_fate_X2_hasParty
set_option maxRecDepth 20000 in
theorem ggX8_fate_X8_within : GoodIn wsX8_fate wsX8_within := goodIn_r _ [12] (by decide +kernel) (by decide +kernel)
set_option maxRecDepth 20000 in
theorem gX8_fate_X8_within : GoodIn wsX8_fate (va_wsS RX8 76 yX8_within wsX8_within) := goodIn_app (goodIn_of _ (by decide +kernel)) ggX8_fate_X8_within
set_option maxRecDepth 20000 in
theorem ggX8_fate_X0_run : GoodIn wsX8_fate wsX0_run := goodIn_r _ [17, 18, 19, 20, 21, 16, 22, 23, 24, 25, 26, 27, 6, 28, 29, 30, 31, 32, 33, 34, 35, 36, 37, 38, 39, 40, 41, 42, 43, 44, 45, 46, 47, 48, 49, 50, 51, 52, 53, 54, 55, 56, 57, 58, 59, 60, 61, 62, 63, 64, 92, 93, 94, 95, 96, 97, 98, 80, 81, 82, 83, 84, 85, 86, 87, 88, 89, 90, 91] (by decide +kernel) (by decide +kernel)
set_option maxRecDepth 20000 in
theorem gX8_fate_X0_run : GoodIn wsX8_fate (wsV RX8 171 RX0 yX0_run wsX0_run) := goodIn_app (goodIn_of _ (by decide +kernel)) ggX8_fate_X0_run
set_option maxRecDepth 20000 in
theorem ggX8_fate_X0_fateRow : GoodIn wsX8_fate wsX0_fateRow := goodIn_r _ [68, 44, 42, 43, 41, 92, 93, 94, 95, 96, 97, 98] (by decide +kernel) (by decide +kernel)
set_option maxRecDepth 20000 in
theorem gX8_fate_X0_fateRow : GoodIn wsX8_fate (wsV RX8 174 RX0 yX0_fateRow wsX0_fateRow) := goodIn_app (goodIn_of _ (by decide +kernel)) ggX8_fate_X0_fateRow
theorem dX8_fate_0 : decode cX8_fate 0 = .ok (.aload_n 0, 1) := by decide +kernel
theorem dX8_fate_1 : decode cX8_fate 1 = .ok (.getfield 28, 3) := by decide +kernel
theorem dX8_fate_4 : decode cX8_fate 4 = .ok (.iload_n 1, 1) := by decide +kernel
theorem dX8_fate_5 : decode cX8_fate 5 = .ok (.invokevirtual 139, 3) := by decide +kernel
theorem dX8_fate_8 : decode cX8_fate 8 = .ok (.ifCond .eq 12, 3) := by decide +kernel
theorem dX8_fate_11 : decode cX8_fate 11 = .ok (.iload_n 2, 1) := by decide +kernel
theorem dX8_fate_12 : decode cX8_fate 12 = .ok (.iconst 0, 1) := by decide +kernel
theorem dX8_fate_13 : decode cX8_fate 13 = .ok (.iconst 3, 1) := by decide +kernel
theorem dX8_fate_14 : decode cX8_fate 14 = .ok (.invokestatic 76, 3) := by decide +kernel
theorem dX8_fate_17 : decode cX8_fate 17 = .ok (.ifCond .ne 5, 3) := by decide +kernel
theorem dX8_fate_20 : decode cX8_fate 20 = .ok (.iconst (-1), 1) := by decide +kernel
theorem dX8_fate_21 : decode cX8_fate 21 = .ok (.ireturn, 1) := by decide +kernel
theorem dX8_fate_22 : decode cX8_fate 22 = .ok (.aload_n 0, 1) := by decide +kernel
theorem dX8_fate_23 : decode cX8_fate 23 = .ok (.getfield 38, 3) := by decide +kernel
theorem dX8_fate_26 : decode cX8_fate 26 = .ok (.aload_n 0, 1) := by decide +kernel
theorem dX8_fate_27 : decode cX8_fate 27 = .ok (.getfield 28, 3) := by decide +kernel
theorem dX8_fate_30 : decode cX8_fate 30 = .ok (.invokevirtual 171, 3) := by decide +kernel
theorem dX8_fate_33 : decode cX8_fate 33 = .ok (.aload_n 0, 1) := by decide +kernel
theorem dX8_fate_34 : decode cX8_fate 34 = .ok (.getfield 38, 3) := by decide +kernel
theorem dX8_fate_37 : decode cX8_fate 37 = .ok (.iload_n 2, 1) := by decide +kernel
theorem dX8_fate_38 : decode cX8_fate 38 = .ok (.invokevirtual 174, 3) := by decide +kernel
theorem dX8_fate_41 : decode cX8_fate 41 = .ok (.iload_n 1, 1) := by decide +kernel
theorem dX8_fate_42 : decode cX8_fate 42 = .ok (.iaload, 1) := by decide +kernel
theorem dX8_fate_43 : decode cX8_fate 43 = .ok (.ireturn, 1) := by decide +kernel
set_option maxRecDepth 20000 in
theorem ggX8_beside_X2_hasMile : GoodIn wsX8_beside wsX2_hasMile := goodIn_r _ [7, 8, 78, 79, 80, 81, 82, 83, 84, 85, 86, 87, 88, 89] (by decide +kernel) (by decide +kernel)
set_option maxRecDepth 20000 in
theorem gX8_beside_X2_hasMile : GoodIn wsX8_beside (wsV RX8 125 RX2 yX2_hasMile wsX2_hasMile) := goodIn_app (goodIn_of _ (by decide +kernel)) ggX8_beside_X2_hasMile
set_option maxRecDepth 20000 in
theorem ggX8_beside_X0_run : GoodIn wsX8_beside wsX0_run := goodIn_r _ [13, 14, 15, 16, 17, 12, 18, 19, 20, 21, 22, 23, 6, 24, 8, 25, 26, 27, 28, 29, 30, 31, 32, 33, 34, 35, 36, 37, 38, 39, 40, 41, 42, 43, 44, 45, 46, 47, 48, 49, 50, 51, 52, 53, 54, 55, 56, 57, 58, 59, 71, 72, 73, 74, 75, 76, 77, 78, 79, 80, 81, 82, 83, 84, 85, 86, 87, 88, 89] (by decide +kernel) (by decide +kernel)
set_option maxRecDepth 20000 in
theorem gX8_beside_X0_run : GoodIn wsX8_beside (wsV RX8 171 RX0 yX0_run wsX0_run) := goodIn_app (goodIn_of _ (by decide +kernel)) ggX8_beside_X0_run
theorem dX8_beside_0 : decode cX8_beside 0 = .ok (.aload_n 0, 1) := by decide +kernel
theorem dX8_beside_1 : decode cX8_beside 1 = .ok (.getfield 28, 3) := by decide +kernel
theorem dX8_beside_4 : decode cX8_beside 4 = .ok (.iload_n 1, 1) := by decide +kernel
theorem dX8_beside_5 : decode cX8_beside 5 = .ok (.invokevirtual 125, 3) := by decide +kernel
theorem dX8_beside_8 : decode cX8_beside 8 = .ok (.ifCond .ne 5, 3) := by decide +kernel
theorem dX8_beside_11 : decode cX8_beside 11 = .ok (.iconst (-1), 1) := by decide +kernel
theorem dX8_beside_12 : decode cX8_beside 12 = .ok (.ireturn, 1) := by decide +kernel
theorem dX8_beside_13 : decode cX8_beside 13 = .ok (.aload_n 0, 1) := by decide +kernel
theorem dX8_beside_14 : decode cX8_beside 14 = .ok (.getfield 38, 3) := by decide +kernel
theorem dX8_beside_17 : decode cX8_beside 17 = .ok (.aload_n 0, 1) := by decide +kernel
theorem dX8_beside_18 : decode cX8_beside 18 = .ok (.getfield 28, 3) := by decide +kernel
theorem dX8_beside_21 : decode cX8_beside 21 = .ok (.invokevirtual 171, 3) := by decide +kernel
theorem dX8_beside_24 : decode cX8_beside 24 = .ok (.aload_n 0, 1) := by decide +kernel
theorem dX8_beside_25 : decode cX8_beside 25 = .ok (.getfield 38, 3) := by decide +kernel
theorem dX8_beside_28 : decode cX8_beside 28 = .ok (.getfield 177, 3) := by decide +kernel
theorem dX8_beside_31 : decode cX8_beside 31 = .ok (.iload_n 1, 1) := by decide +kernel
theorem dX8_beside_32 : decode cX8_beside 32 = .ok (.iaload, 1) := by decide +kernel
theorem dX8_beside_33 : decode cX8_beside 33 = .ok (.ireturn, 1) := by decide +kernel
set_option maxRecDepth 20000 in
theorem ggX8_sum_X8_within : GoodIn wsX8_sum wsX8_within := goodIn_r _ [6] (by decide +kernel) (by decide +kernel)
set_option maxRecDepth 20000 in
theorem gX8_sum_X8_within : GoodIn wsX8_sum (va_wsS RX8 76 yX8_within wsX8_within) := goodIn_app (goodIn_of _ (by decide +kernel)) ggX8_sum_X8_within
set_option maxRecDepth 20000 in
theorem ggX8_sum_X0_run : GoodIn wsX8_sum wsX0_run := goodIn_r _ [11, 12, 13, 14, 15, 10, 16, 17, 18, 19, 20, 21, 22, 23, 24, 25, 26, 27, 28, 29, 30, 31, 32, 33, 34, 35, 36, 37, 38, 39, 40, 41, 42, 43, 44, 45, 46, 47, 48, 49, 50, 51, 52, 53, 54, 55, 56, 57, 58, 59, 96, 97, 98, 99, 100, 101, 102, 103, 104, 105, 106, 107, 108, 109, 110, 111, 112, 113, 114] (by decide +kernel) (by decide +kernel)
set_option maxRecDepth 20000 in
theorem gX8_sum_X0_run : GoodIn wsX8_sum (wsV RX8 171 RX0 yX0_run wsX0_run) := goodIn_app (goodIn_of _ (by decide +kernel)) ggX8_sum_X0_run
set_option maxRecDepth 20000 in
theorem ggX8_sum_X0_verdicts : GoodIn wsX8_sum wsX0_verdicts := goodIn_r _ [63, 64, 65, 66, 10, 67, 12, 68, 69, 70, 71, 39, 37, 38, 36, 49, 50, 51, 52, 53, 54, 55, 96, 97, 98, 99, 100, 101, 102] (by decide +kernel) (by decide +kernel)
set_option maxRecDepth 20000 in
theorem gX8_sum_X0_verdicts : GoodIn wsX8_sum (wsV RX8 180 RX0 yX0_verdicts wsX0_verdicts) := goodIn_app (goodIn_of _ (by decide +kernel)) ggX8_sum_X0_verdicts
set_option maxRecDepth 20000 in
theorem ggX8_sum_X0_whoHas : GoodIn wsX8_sum wsX0_whoHas := goodIn_r _ [67, 12, 68, 69, 70, 10, 71, 39, 37, 38, 36, 96, 97, 98, 99, 100, 101, 102] (by decide +kernel) (by decide +kernel)
set_option maxRecDepth 20000 in
theorem gX8_sum_X0_whoHas : GoodIn wsX8_sum (wsV RX8 183 RX0 yX0_whoHas wsX0_whoHas) := goodIn_app (goodIn_of _ (by decide +kernel)) ggX8_sum_X0_whoHas
set_option maxRecDepth 20000 in
theorem ggX8_sum_X0_lastVerdict : GoodIn wsX8_sum wsX0_lastVerdict := goodIn_r _ [76, 12, 39, 77, 78, 79, 80, 96, 97, 98, 99, 100, 101, 102] (by decide +kernel) (by decide +kernel)
set_option maxRecDepth 20000 in
theorem gX8_sum_X0_lastVerdict : GoodIn wsX8_sum (wsV RX8 186 RX0 yX0_lastVerdict wsX0_lastVerdict) := goodIn_app (goodIn_of _ (by decide +kernel)) ggX8_sum_X0_lastVerdict
set_option maxRecDepth 20000 in
theorem ggX8_sum_X0_heardInAll : GoodIn wsX8_sum wsX0_heardInAll := goodIn_r _ [84, 12, 38, 96, 97, 98, 99, 100, 101, 102] (by decide +kernel) (by decide +kernel)
set_option maxRecDepth 20000 in
theorem gX8_sum_X0_heardInAll : GoodIn wsX8_sum (wsV RX8 189 RX0 yX0_heardInAll wsX0_heardInAll) := goodIn_app (goodIn_of _ (by decide +kernel)) ggX8_sum_X0_heardInAll
theorem dX8_sum_0 : decode cX8_sum 0 = .ok (.iload_n 1, 1) := by decide +kernel
theorem dX8_sum_1 : decode cX8_sum 1 = .ok (.iconst 0, 1) := by decide +kernel
theorem dX8_sum_2 : decode cX8_sum 2 = .ok (.iconst 4, 1) := by decide +kernel
theorem dX8_sum_3 : decode cX8_sum 3 = .ok (.invokestatic 76, 3) := by decide +kernel
theorem dX8_sum_6 : decode cX8_sum 6 = .ok (.ifCond .ne 5, 3) := by decide +kernel
theorem dX8_sum_9 : decode cX8_sum 9 = .ok (.iconst (-1), 1) := by decide +kernel
theorem dX8_sum_10 : decode cX8_sum 10 = .ok (.ireturn, 1) := by decide +kernel
theorem dX8_sum_11 : decode cX8_sum 11 = .ok (.aload_n 0, 1) := by decide +kernel
theorem dX8_sum_12 : decode cX8_sum 12 = .ok (.getfield 38, 3) := by decide +kernel
theorem dX8_sum_15 : decode cX8_sum 15 = .ok (.aload_n 0, 1) := by decide +kernel
theorem dX8_sum_16 : decode cX8_sum 16 = .ok (.getfield 28, 3) := by decide +kernel
theorem dX8_sum_19 : decode cX8_sum 19 = .ok (.invokevirtual 171, 3) := by decide +kernel
theorem dX8_sum_22 : decode cX8_sum 22 = .ok (.iload_n 1, 1) := by decide +kernel
theorem dX8_sum_23 : decode cX8_sum 23 = .ok (.tableswitch 62 0 3 #[29, 37, 46, 54], 29) := by decide +kernel
theorem dX8_sum_52 : decode cX8_sum 52 = .ok (.aload_n 0, 1) := by decide +kernel
theorem dX8_sum_53 : decode cX8_sum 53 = .ok (.getfield 38, 3) := by decide +kernel
theorem dX8_sum_56 : decode cX8_sum 56 = .ok (.invokevirtual 180, 3) := by decide +kernel
theorem dX8_sum_59 : decode cX8_sum 59 = .ok (.ireturn, 1) := by decide +kernel
theorem dX8_sum_60 : decode cX8_sum 60 = .ok (.aload_n 0, 1) := by decide +kernel
theorem dX8_sum_61 : decode cX8_sum 61 = .ok (.getfield 38, 3) := by decide +kernel
theorem dX8_sum_64 : decode cX8_sum 64 = .ok (.iconst 0, 1) := by decide +kernel
theorem dX8_sum_65 : decode cX8_sum 65 = .ok (.invokevirtual 183, 3) := by decide +kernel
theorem dX8_sum_68 : decode cX8_sum 68 = .ok (.ireturn, 1) := by decide +kernel
theorem dX8_sum_69 : decode cX8_sum 69 = .ok (.aload_n 0, 1) := by decide +kernel
theorem dX8_sum_70 : decode cX8_sum 70 = .ok (.getfield 38, 3) := by decide +kernel
theorem dX8_sum_73 : decode cX8_sum 73 = .ok (.invokevirtual 186, 3) := by decide +kernel
theorem dX8_sum_76 : decode cX8_sum 76 = .ok (.ireturn, 1) := by decide +kernel
theorem dX8_sum_77 : decode cX8_sum 77 = .ok (.aload_n 0, 1) := by decide +kernel
theorem dX8_sum_78 : decode cX8_sum 78 = .ok (.getfield 38, 3) := by decide +kernel
theorem dX8_sum_81 : decode cX8_sum 81 = .ok (.invokevirtual 189, 3) := by decide +kernel
theorem dX8_sum_84 : decode cX8_sum 84 = .ok (.ireturn, 1) := by decide +kernel
theorem dX8_sum_85 : decode cX8_sum 85 = .ok (.aload_n 0, 1) := by decide +kernel
theorem dX8_sum_86 : decode cX8_sum 86 = .ok (.getfield 38, 3) := by decide +kernel
theorem dX8_sum_89 : decode cX8_sum 89 = .ok (.iconst 1, 1) := by decide +kernel
theorem dX8_sum_90 : decode cX8_sum 90 = .ok (.invokevirtual 183, 3) := by decide +kernel
theorem dX8_sum_93 : decode cX8_sum 93 = .ok (.ireturn, 1) := by decide +kernel
set_option maxRecDepth 20000 in
theorem ggX8_best_X2_hasParty : GoodIn wsX8_best wsX2_hasParty := goodIn_r _ [7, 8, 109, 110, 111, 112, 113, 114, 115, 116, 117, 118, 119, 120] (by decide +kernel) (by decide +kernel)
set_option maxRecDepth 20000 in
theorem gX8_best_X2_hasParty : GoodIn wsX8_best (wsV RX8 139 RX2 yX2_hasParty wsX2_hasParty) := goodIn_app (goodIn_of _ (by decide +kernel)) ggX8_best_X2_hasParty
set_option maxRecDepth 20000 in
theorem ggX8_best_X3_seekFor : GoodIn wsX8_best wsX3_seekFor := goodIn_r _ [13, 14, 15, 16, 17, 18, 19, 6, 20, 21, 22, 23, 24, 25, 26, 27, 28, 29, 30, 31, 32, 33, 8, 34, 35, 36, 37, 38, 12, 39, 40, 41, 4, 5, 7, 42, 43, 44, 45, 46, 47, 48, 49, 50, 51, 52, 53, 54, 55, 56, 57, 58, 59, 60, 61, 62, 63, 64, 65, 66, 67, 68, 69, 70, 71, 72, 73, 74, 75, 76, 77, 78, 79, 80, 81, 82, 83, 84, 85, 86, 87, 88, 89, 90, 91, 92, 93, 94, 95, 96, 97, 121, 122, 123, 124, 125, 109, 110, 111, 112, 113, 114, 115, 116, 117, 118, 119, 120, 126, 127, 128, 129, 130, 131, 132] (by decide +kernel) (by decide +kernel)
set_option maxRecDepth 20000 in
theorem gX8_best_X3_seekFor : GoodIn wsX8_best (wsV RX8 192 RX3 yX3_seekFor wsX3_seekFor) := goodIn_app (goodIn_of _ (by decide +kernel)) ggX8_best_X3_seekFor
theorem dX8_best_0 : decode cX8_best 0 = .ok (.iload_n 1, 1) := by decide +kernel
theorem dX8_best_1 : decode cX8_best 1 = .ok (.bipush 10, 2) := by decide +kernel
theorem dX8_best_3 : decode cX8_best 3 = .ok (.if_icmp .lt 21, 3) := by decide +kernel
theorem dX8_best_6 : decode cX8_best 6 = .ok (.aload_n 0, 1) := by decide +kernel
theorem dX8_best_7 : decode cX8_best 7 = .ok (.getfield 28, 3) := by decide +kernel
theorem dX8_best_10 : decode cX8_best 10 = .ok (.iload_n 1, 1) := by decide +kernel
theorem dX8_best_11 : decode cX8_best 11 = .ok (.bipush 10, 2) := by decide +kernel
theorem dX8_best_13 : decode cX8_best 13 = .ok (.isub, 1) := by decide +kernel
theorem dX8_best_14 : decode cX8_best 14 = .ok (.invokevirtual 139, 3) := by decide +kernel
theorem dX8_best_17 : decode cX8_best 17 = .ok (.ifCond .eq 7, 3) := by decide +kernel
theorem dX8_best_20 : decode cX8_best 20 = .ok (.iconst 1, 1) := by decide +kernel
theorem dX8_best_21 : decode cX8_best 21 = .ok (.goto 4, 3) := by decide +kernel
theorem dX8_best_24 : decode cX8_best 24 = .ok (.iconst 0, 1) := by decide +kernel
theorem dX8_best_25 : decode cX8_best 25 = .ok (.istore_n 2, 1) := by decide +kernel
theorem dX8_best_26 : decode cX8_best 26 = .ok (.iload_n 1, 1) := by decide +kernel
theorem dX8_best_27 : decode cX8_best 27 = .ok (.ifCond .eq 9, 3) := by decide +kernel
theorem dX8_best_30 : decode cX8_best 30 = .ok (.iload_n 2, 1) := by decide +kernel
theorem dX8_best_31 : decode cX8_best 31 = .ok (.ifCond .ne 5, 3) := by decide +kernel
theorem dX8_best_34 : decode cX8_best 34 = .ok (.iconst (-1), 1) := by decide +kernel
theorem dX8_best_35 : decode cX8_best 35 = .ok (.ireturn, 1) := by decide +kernel
theorem dX8_best_36 : decode cX8_best 36 = .ok (.aload_n 0, 1) := by decide +kernel
theorem dX8_best_37 : decode cX8_best 37 = .ok (.getfield 28, 3) := by decide +kernel
theorem dX8_best_40 : decode cX8_best 40 = .ok (.getfield 106, 3) := by decide +kernel
theorem dX8_best_43 : decode cX8_best 43 = .ok (.ifCond .ne 6, 3) := by decide +kernel
theorem dX8_best_46 : decode cX8_best 46 = .ok (.bipush (-2), 2) := by decide +kernel
theorem dX8_best_48 : decode cX8_best 48 = .ok (.ireturn, 1) := by decide +kernel
theorem dX8_best_49 : decode cX8_best 49 = .ok (.aload_n 0, 1) := by decide +kernel
theorem dX8_best_50 : decode cX8_best 50 = .ok (.getfield 47, 3) := by decide +kernel
theorem dX8_best_53 : decode cX8_best 53 = .ok (.aload_n 0, 1) := by decide +kernel
theorem dX8_best_54 : decode cX8_best 54 = .ok (.getfield 28, 3) := by decide +kernel
theorem dX8_best_57 : decode cX8_best 57 = .ok (.invokevirtual 192, 3) := by decide +kernel
theorem dX8_best_60 : decode cX8_best 60 = .ok (.iload_n 2, 1) := by decide +kernel
theorem dX8_best_61 : decode cX8_best 61 = .ok (.ifCond .eq 18, 3) := by decide +kernel
theorem dX8_best_64 : decode cX8_best 64 = .ok (.aload_n 0, 1) := by decide +kernel
theorem dX8_best_65 : decode cX8_best 65 = .ok (.getfield 47, 3) := by decide +kernel
theorem dX8_best_68 : decode cX8_best 68 = .ok (.getfield 195, 3) := by decide +kernel
theorem dX8_best_71 : decode cX8_best 71 = .ok (.iload_n 1, 1) := by decide +kernel
theorem dX8_best_72 : decode cX8_best 72 = .ok (.bipush 10, 2) := by decide +kernel
theorem dX8_best_74 : decode cX8_best 74 = .ok (.isub, 1) := by decide +kernel
theorem dX8_best_75 : decode cX8_best 75 = .ok (.iaload, 1) := by decide +kernel
theorem dX8_best_76 : decode cX8_best 76 = .ok (.goto 10, 3) := by decide +kernel
theorem dX8_best_79 : decode cX8_best 79 = .ok (.aload_n 0, 1) := by decide +kernel
theorem dX8_best_80 : decode cX8_best 80 = .ok (.getfield 47, 3) := by decide +kernel
theorem dX8_best_83 : decode cX8_best 83 = .ok (.getfield 198, 3) := by decide +kernel
theorem dX8_best_86 : decode cX8_best 86 = .ok (.ireturn, 1) := by decide +kernel
set_option maxRecDepth 20000 in
theorem ggX8_place_X2_hasParty : GoodIn wsX8_place wsX2_hasParty := goodIn_r _ [6, 7, 99, 100, 101, 102, 103, 104, 105, 106, 107, 108, 109, 110] (by decide +kernel) (by decide +kernel)
set_option maxRecDepth 20000 in
theorem gX8_place_X2_hasParty : GoodIn wsX8_place (wsV RX8 139 RX2 yX2_hasParty wsX2_hasParty) := goodIn_app (goodIn_of _ (by decide +kernel)) ggX8_place_X2_hasParty
set_option maxRecDepth 20000 in
theorem ggX8_place_X8_within : GoodIn wsX8_place wsX8_within := goodIn_r _ [11] (by decide +kernel) (by decide +kernel)
set_option maxRecDepth 20000 in
theorem gX8_place_X8_within : GoodIn wsX8_place (va_wsS RX8 76 yX8_within wsX8_within) := goodIn_app (goodIn_of _ (by decide +kernel)) ggX8_place_X8_within
set_option maxRecDepth 20000 in
theorem ggX8_place_X8_soonestStone : GoodIn wsX8_place wsX8_soonestStone := goodIn_r _ [15, 1, 16, 17, 18, 10, 19, 20, 21, 22, 23, 24, 5, 25, 26, 27, 28, 29, 30, 31, 32, 33, 34, 35, 36, 37, 38, 7, 39, 40, 41, 42, 43, 44, 45, 46, 47, 48, 49, 50, 51, 52, 53, 54, 55, 56, 57, 58, 59, 60, 61, 62, 63, 64, 65, 66, 67, 68, 69, 70, 71, 72, 73, 74, 75, 76, 77, 78, 79, 80, 81, 82, 83, 84, 85, 86, 87, 88, 89, 90, 91, 92, 93, 94, 95, 96, 97, 98, 99, 100, 101, 102, 103, 104, 105, 106, 107, 108, 109, 110, 111, 112, 113, 114, 115, 116, 117] (by decide +kernel) (by decide +kernel)
set_option maxRecDepth 20000 in
theorem gX8_place_X8_soonestStone : GoodIn wsX8_place (wsV RX8 201 RX8 yX8_soonestStone wsX8_soonestStone) := goodIn_app (goodIn_of _ (by decide +kernel)) ggX8_place_X8_soonestStone
set_option maxRecDepth 20000 in
theorem ggX8_place_X8_verdictFrom : GoodIn wsX8_place wsX8_verdictFrom := goodIn_r _ [19, 20, 1, 21, 22, 23, 24, 5, 25, 26, 27, 28, 29, 30, 31, 32, 33, 34, 35, 36, 37, 38, 7, 39, 40, 41, 42, 43, 44, 45, 46, 47, 48, 49, 50, 51, 52, 53, 54, 55, 56, 57, 58, 59, 60, 61, 62, 63, 64, 65, 66, 67, 68, 69, 70, 71, 72, 73, 74, 75, 76, 77, 78, 79, 80, 81, 82, 83, 84, 85, 86, 87, 88, 89, 90, 91, 92, 93, 94, 95, 96, 97, 98, 99, 100, 101, 102, 103, 104, 105, 106, 107, 108, 109, 110, 111, 112, 113, 114, 115, 116, 117] (by decide +kernel) (by decide +kernel)
set_option maxRecDepth 20000 in
theorem gX8_place_X8_verdictFrom : GoodIn wsX8_place (wsV RX8 204 RX8 yX8_verdictFrom wsX8_verdictFrom) := goodIn_app (goodIn_of _ (by decide +kernel)) ggX8_place_X8_verdictFrom
theorem dX8_place_0 : decode cX8_place 0 = .ok (.aload_n 0, 1) := by decide +kernel
theorem dX8_place_1 : decode cX8_place 1 = .ok (.getfield 28, 3) := by decide +kernel
theorem dX8_place_4 : decode cX8_place 4 = .ok (.iload_n 1, 1) := by decide +kernel
theorem dX8_place_5 : decode cX8_place 5 = .ok (.invokevirtual 139, 3) := by decide +kernel
theorem dX8_place_8 : decode cX8_place 8 = .ok (.ifCond .eq 12, 3) := by decide +kernel
theorem dX8_place_11 : decode cX8_place 11 = .ok (.iload_n 2, 1) := by decide +kernel
theorem dX8_place_12 : decode cX8_place 12 = .ok (.iconst 0, 1) := by decide +kernel
theorem dX8_place_13 : decode cX8_place 13 = .ok (.iconst 1, 1) := by decide +kernel
theorem dX8_place_14 : decode cX8_place 14 = .ok (.invokestatic 76, 3) := by decide +kernel
theorem dX8_place_17 : decode cX8_place 17 = .ok (.ifCond .ne 5, 3) := by decide +kernel
theorem dX8_place_20 : decode cX8_place 20 = .ok (.iconst (-1), 1) := by decide +kernel
theorem dX8_place_21 : decode cX8_place 21 = .ok (.ireturn, 1) := by decide +kernel
theorem dX8_place_22 : decode cX8_place 22 = .ok (.aload_n 0, 1) := by decide +kernel
theorem dX8_place_23 : decode cX8_place 23 = .ok (.iload_n 1, 1) := by decide +kernel
theorem dX8_place_24 : decode cX8_place 24 = .ok (.invokevirtual 201, 3) := by decide +kernel
theorem dX8_place_27 : decode cX8_place 27 = .ok (.istore_n 3, 1) := by decide +kernel
theorem dX8_place_28 : decode cX8_place 28 = .ok (.iload_n 2, 1) := by decide +kernel
theorem dX8_place_29 : decode cX8_place 29 = .ok (.ifCond .eq 9, 3) := by decide +kernel
theorem dX8_place_32 : decode cX8_place 32 = .ok (.iload_n 3, 1) := by decide +kernel
theorem dX8_place_33 : decode cX8_place 33 = .ok (.bipush (-4), 2) := by decide +kernel
theorem dX8_place_35 : decode cX8_place 35 = .ok (.if_icmp .ne 7, 3) := by decide +kernel
theorem dX8_place_38 : decode cX8_place 38 = .ok (.iload_n 3, 1) := by decide +kernel
theorem dX8_place_39 : decode cX8_place 39 = .ok (.goto 9, 3) := by decide +kernel
theorem dX8_place_42 : decode cX8_place 42 = .ok (.aload_n 0, 1) := by decide +kernel
theorem dX8_place_43 : decode cX8_place 43 = .ok (.iload_n 1, 1) := by decide +kernel
theorem dX8_place_44 : decode cX8_place 44 = .ok (.iload_n 3, 1) := by decide +kernel
theorem dX8_place_45 : decode cX8_place 45 = .ok (.invokevirtual 204, 3) := by decide +kernel
theorem dX8_place_48 : decode cX8_place 48 = .ok (.ireturn, 1) := by decide +kernel
set_option maxRecDepth 20000 in
theorem ggX8_never_X8_soonestStone : GoodIn wsX8_never wsX8_soonestStone := goodIn_r _ [6, 1, 7, 8, 9, 5, 10, 11, 12, 13, 14, 15, 16, 17, 18, 19, 20, 21, 22, 23, 24, 25, 26, 27, 28, 29, 30, 31, 32, 33, 34, 35, 36, 37, 38, 39, 40, 41, 42, 43, 44, 45, 46, 47, 48, 49, 50, 51, 52, 53, 54, 55, 56, 57, 58, 59, 60, 61, 62, 63, 64, 65, 66, 67, 68, 69, 70, 71, 72, 73, 74, 75, 76, 77, 78, 79, 80, 81, 82, 83, 84, 85, 86, 87, 88, 89, 90, 91, 92, 93, 94, 95, 96, 97, 98, 99, 100, 101, 102, 103, 104, 105, 106, 107, 108, 109, 110] (by decide +kernel) (by decide +kernel)
set_option maxRecDepth 20000 in
theorem gX8_never_X8_soonestStone : GoodIn wsX8_never (wsV RX8 201 RX8 yX8_soonestStone wsX8_soonestStone) := goodIn_app (goodIn_of _ (by decide +kernel)) ggX8_never_X8_soonestStone
theorem dX8_never_0 : decode cX8_never 0 = .ok (.iconst 0, 1) := by decide +kernel
theorem dX8_never_1 : decode cX8_never 1 = .ok (.istore_n 1, 1) := by decide +kernel
theorem dX8_never_2 : decode cX8_never 2 = .ok (.iconst 0, 1) := by decide +kernel
theorem dX8_never_3 : decode cX8_never 3 = .ok (.istore_n 2, 1) := by decide +kernel
theorem dX8_never_4 : decode cX8_never 4 = .ok (.iload_n 2, 1) := by decide +kernel
theorem dX8_never_5 : decode cX8_never 5 = .ok (.aload_n 0, 1) := by decide +kernel
theorem dX8_never_6 : decode cX8_never 6 = .ok (.getfield 28, 3) := by decide +kernel
theorem dX8_never_9 : decode cX8_never 9 = .ok (.getfield 109, 3) := by decide +kernel
theorem dX8_never_12 : decode cX8_never 12 = .ok (.if_icmp .ge 25, 3) := by decide +kernel
theorem dX8_never_15 : decode cX8_never 15 = .ok (.aload_n 0, 1) := by decide +kernel
theorem dX8_never_16 : decode cX8_never 16 = .ok (.iload_n 2, 1) := by decide +kernel
theorem dX8_never_17 : decode cX8_never 17 = .ok (.invokevirtual 201, 3) := by decide +kernel
theorem dX8_never_20 : decode cX8_never 20 = .ok (.bipush (-4), 2) := by decide +kernel
theorem dX8_never_22 : decode cX8_never 22 = .ok (.if_icmp .ne 9, 3) := by decide +kernel
theorem dX8_never_25 : decode cX8_never 25 = .ok (.iload_n 1, 1) := by decide +kernel
theorem dX8_never_26 : decode cX8_never 26 = .ok (.iconst 1, 1) := by decide +kernel
theorem dX8_never_27 : decode cX8_never 27 = .ok (.iload_n 2, 1) := by decide +kernel
theorem dX8_never_28 : decode cX8_never 28 = .ok (.ishl, 1) := by decide +kernel
theorem dX8_never_29 : decode cX8_never 29 = .ok (.ior, 1) := by decide +kernel
theorem dX8_never_30 : decode cX8_never 30 = .ok (.istore_n 1, 1) := by decide +kernel
theorem dX8_never_31 : decode cX8_never 31 = .ok (.iinc 2 1, 3) := by decide +kernel
theorem dX8_never_34 : decode cX8_never 34 = .ok (.goto (-30), 3) := by decide +kernel
theorem dX8_never_37 : decode cX8_never 37 = .ok (.iload_n 1, 1) := by decide +kernel
theorem dX8_never_38 : decode cX8_never 38 = .ok (.ireturn, 1) := by decide +kernel
set_option maxRecDepth 20000 in
theorem ggX8_oats_X2_hasParty : GoodIn wsX8_oats wsX2_hasParty := goodIn_r _ [8, 9, 91, 92, 93, 94, 95, 96, 97, 98, 99, 100, 101, 102] (by decide +kernel) (by decide +kernel)
set_option maxRecDepth 20000 in
theorem gX8_oats_X2_hasParty : GoodIn wsX8_oats (wsV RX8 139 RX2 yX2_hasParty wsX2_hasParty) := goodIn_app (goodIn_of _ (by decide +kernel)) ggX8_oats_X2_hasParty
set_option maxRecDepth 20000 in
theorem ggX8_oats_X2_copyFrom : GoodIn wsX8_oats wsX2_copyFrom := goodIn_r _ [13, 14, 15, 16, 17, 18, 19, 20, 21, 22, 23, 24, 25, 26, 9, 27, 28, 91, 92, 93, 94, 95, 96, 97, 98, 99, 100, 101, 102] (by decide +kernel) (by decide +kernel)
set_option maxRecDepth 20000 in
theorem gX8_oats_X2_copyFrom : GoodIn wsX8_oats (wsV RX8 95 RX2 yX2_copyFrom wsX2_copyFrom) := goodIn_app (goodIn_of _ (by decide +kernel)) ggX8_oats_X2_copyFrom
set_option maxRecDepth 20000 in
theorem ggX8_oats_X0_run : GoodIn wsX8_oats wsX0_run := goodIn_r _ [33, 34, 35, 36, 37, 32, 38, 39, 40, 41, 42, 43, 7, 44, 26, 28, 45, 46, 47, 48, 19, 20, 49, 50, 51, 52, 53, 54, 55, 56, 57, 58, 59, 60, 61, 62, 63, 64, 21, 65, 66, 67, 68, 69, 70, 71, 72, 73, 74, 75, 103, 104, 105, 106, 107, 108, 109, 91, 92, 93, 94, 95, 96, 97, 98, 99, 100, 101, 102] (by decide +kernel) (by decide +kernel)

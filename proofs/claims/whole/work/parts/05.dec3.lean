set_option maxRecDepth 20000 in
theorem gX8_oats_X0_run : GoodIn wsX8_oats (wsV RX8 171 RX0 yX0_run wsX0_run) := goodIn_app (goodIn_of _ (by decide +kernel)) ggX8_oats_X0_run
set_option maxRecDepth 20000 in
theorem ggX8_oats_X0_hasVerdict : GoodIn wsX8_oats wsX0_hasVerdict := goodIn_r _ [79, 56, 103, 104, 105, 106, 107, 108, 109] (by decide +kernel) (by decide +kernel)
set_option maxRecDepth 20000 in
theorem gX8_oats_X0_hasVerdict : GoodIn wsX8_oats (wsV RX8 210 RX0 yX0_hasVerdict wsX0_hasVerdict) := goodIn_app (goodIn_of _ (by decide +kernel)) ggX8_oats_X0_hasVerdict
theorem dX8_oats_0 : decode cX8_oats 0 = .ok (.aload_n 0, 1) := by decide +kernel
theorem dX8_oats_1 : decode cX8_oats 1 = .ok (.getfield 28, 3) := by decide +kernel
theorem dX8_oats_4 : decode cX8_oats 4 = .ok (.iload_n 1, 1) := by decide +kernel
theorem dX8_oats_5 : decode cX8_oats 5 = .ok (.invokevirtual 139, 3) := by decide +kernel
theorem dX8_oats_8 : decode cX8_oats 8 = .ok (.ifCond .ne 5, 3) := by decide +kernel
theorem dX8_oats_11 : decode cX8_oats 11 = .ok (.iconst (-1), 1) := by decide +kernel
theorem dX8_oats_12 : decode cX8_oats 12 = .ok (.ireturn, 1) := by decide +kernel
theorem dX8_oats_13 : decode cX8_oats 13 = .ok (.aload_n 0, 1) := by decide +kernel
theorem dX8_oats_14 : decode cX8_oats 14 = .ok (.getfield 32, 3) := by decide +kernel
theorem dX8_oats_17 : decode cX8_oats 17 = .ok (.aload_n 0, 1) := by decide +kernel
theorem dX8_oats_18 : decode cX8_oats 18 = .ok (.getfield 28, 3) := by decide +kernel
theorem dX8_oats_21 : decode cX8_oats 21 = .ok (.invokevirtual 95, 3) := by decide +kernel
theorem dX8_oats_24 : decode cX8_oats 24 = .ok (.iconst 0, 1) := by decide +kernel
theorem dX8_oats_25 : decode cX8_oats 25 = .ok (.istore_n 2, 1) := by decide +kernel
theorem dX8_oats_26 : decode cX8_oats 26 = .ok (.iload_n 2, 1) := by decide +kernel
theorem dX8_oats_27 : decode cX8_oats 27 = .ok (.bipush 99, 2) := by decide +kernel
theorem dX8_oats_29 : decode cX8_oats 29 = .ok (.if_icmp .gt 43, 3) := by decide +kernel
theorem dX8_oats_32 : decode cX8_oats 32 = .ok (.aload_n 0, 1) := by decide +kernel
theorem dX8_oats_33 : decode cX8_oats 33 = .ok (.getfield 32, 3) := by decide +kernel
theorem dX8_oats_36 : decode cX8_oats 36 = .ok (.getfield 207, 3) := by decide +kernel
theorem dX8_oats_39 : decode cX8_oats 39 = .ok (.iload_n 1, 1) := by decide +kernel
theorem dX8_oats_40 : decode cX8_oats 40 = .ok (.iload_n 2, 1) := by decide +kernel
theorem dX8_oats_41 : decode cX8_oats 41 = .ok (.iastore, 1) := by decide +kernel
theorem dX8_oats_42 : decode cX8_oats 42 = .ok (.aload_n 0, 1) := by decide +kernel
theorem dX8_oats_43 : decode cX8_oats 43 = .ok (.getfield 38, 3) := by decide +kernel
theorem dX8_oats_46 : decode cX8_oats 46 = .ok (.aload_n 0, 1) := by decide +kernel
theorem dX8_oats_47 : decode cX8_oats 47 = .ok (.getfield 32, 3) := by decide +kernel
theorem dX8_oats_50 : decode cX8_oats 50 = .ok (.invokevirtual 171, 3) := by decide +kernel
theorem dX8_oats_53 : decode cX8_oats 53 = .ok (.aload_n 0, 1) := by decide +kernel
theorem dX8_oats_54 : decode cX8_oats 54 = .ok (.getfield 38, 3) := by decide +kernel
theorem dX8_oats_57 : decode cX8_oats 57 = .ok (.iload_n 1, 1) := by decide +kernel
theorem dX8_oats_58 : decode cX8_oats 58 = .ok (.invokevirtual 210, 3) := by decide +kernel
theorem dX8_oats_61 : decode cX8_oats 61 = .ok (.ifCond .eq 5, 3) := by decide +kernel
theorem dX8_oats_64 : decode cX8_oats 64 = .ok (.iload_n 2, 1) := by decide +kernel
theorem dX8_oats_65 : decode cX8_oats 65 = .ok (.ireturn, 1) := by decide +kernel
theorem dX8_oats_66 : decode cX8_oats 66 = .ok (.iinc 2 1, 3) := by decide +kernel
theorem dX8_oats_69 : decode cX8_oats 69 = .ok (.goto (-43), 3) := by decide +kernel
theorem dX8_oats_72 : decode cX8_oats 72 = .ok (.bipush (-4), 2) := by decide +kernel
theorem dX8_oats_74 : decode cX8_oats 74 = .ok (.ireturn, 1) := by decide +kernel
set_option maxRecDepth 20000 in
theorem ggX8_room_X8_verdictsUnder : GoodIn wsX8_room wsX8_verdictsUnder := goodIn_r _ [6, 7, 1, 8, 9, 10, 11, 12, 13, 14, 15, 16, 17, 18, 19, 20, 21, 22, 23, 24, 25, 26, 27, 28, 29, 30, 31, 32, 33, 34, 35, 36, 37, 38, 39, 40, 41, 42, 43, 44, 45, 46, 47, 48, 49, 50, 51, 52, 53, 54, 55, 56, 57, 58, 59, 60, 61, 62, 63, 64, 65, 66, 67, 68, 69, 70, 71, 72, 73, 74, 75, 76, 77, 78, 79, 80, 81, 82, 83, 84, 85, 86, 87, 88, 89, 90, 91, 92, 93, 94, 95, 96, 97, 98, 99, 100, 101, 102, 103, 104, 105, 106, 107, 108, 109, 110, 111, 112, 113, 114, 115, 116, 117, 118] (by decide +kernel) (by decide +kernel)
set_option maxRecDepth 20000 in
theorem gX8_room_X8_verdictsUnder : GoodIn wsX8_room (wsV RX8 213 RX8 yX8_verdictsUnder wsX8_verdictsUnder) := goodIn_app (goodIn_of _ (by decide +kernel)) ggX8_room_X8_verdictsUnder
theorem dX8_room_0 : decode cX8_room 0 = .ok (.aload_n 0, 1) := by decide +kernel
theorem dX8_room_1 : decode cX8_room 1 = .ok (.iconst 4, 1) := by decide +kernel
theorem dX8_room_2 : decode cX8_room 2 = .ok (.aload_n 0, 1) := by decide +kernel
theorem dX8_room_3 : decode cX8_room 3 = .ok (.getfield 28, 3) := by decide +kernel
theorem dX8_room_6 : decode cX8_room 6 = .ok (.getfield 115, 3) := by decide +kernel
theorem dX8_room_9 : decode cX8_room 9 = .ok (.invokevirtual 213, 3) := by decide +kernel
theorem dX8_room_12 : decode cX8_room 12 = .ok (.istore_n 1, 1) := by decide +kernel
theorem dX8_room_13 : decode cX8_room 13 = .ok (.iconst 1, 1) := by decide +kernel
theorem dX8_room_14 : decode cX8_room 14 = .ok (.istore_n 2, 1) := by decide +kernel
theorem dX8_room_15 : decode cX8_room 15 = .ok (.iload_n 2, 1) := by decide +kernel
theorem dX8_room_16 : decode cX8_room 16 = .ok (.iconst 4, 1) := by decide +kernel
theorem dX8_room_17 : decode cX8_room 17 = .ok (.if_icmp .ge 25, 3) := by decide +kernel
theorem dX8_room_20 : decode cX8_room 20 = .ok (.aload_n 0, 1) := by decide +kernel
theorem dX8_room_21 : decode cX8_room 21 = .ok (.iload_n 2, 1) := by decide +kernel
theorem dX8_room_22 : decode cX8_room 22 = .ok (.aload_n 0, 1) := by decide +kernel
theorem dX8_room_23 : decode cX8_room 23 = .ok (.getfield 28, 3) := by decide +kernel
theorem dX8_room_26 : decode cX8_room 26 = .ok (.getfield 115, 3) := by decide +kernel
theorem dX8_room_29 : decode cX8_room 29 = .ok (.invokevirtual 213, 3) := by decide +kernel
theorem dX8_room_32 : decode cX8_room 32 = .ok (.iload_n 1, 1) := by decide +kernel
theorem dX8_room_33 : decode cX8_room 33 = .ok (.if_icmp .eq 9, 3) := by decide +kernel
theorem dX8_room_36 : decode cX8_room 36 = .ok (.iinc 2 1, 3) := by decide +kernel
theorem dX8_room_39 : decode cX8_room 39 = .ok (.goto (-24), 3) := by decide +kernel
theorem dX8_room_42 : decode cX8_room 42 = .ok (.iload_n 2, 1) := by decide +kernel
theorem dX8_room_43 : decode cX8_room 43 = .ok (.ireturn, 1) := by decide +kernel
set_option maxRecDepth 20000 in
theorem ggX8_snow_X8_verdictsUnder : GoodIn wsX8_snow wsX8_verdictsUnder := goodIn_r _ [6, 7, 1, 8, 9, 10, 11, 12, 13, 14, 15, 16, 17, 18, 19, 20, 21, 22, 23, 24, 25, 26, 27, 28, 29, 30, 31, 32, 33, 34, 35, 36, 37, 38, 39, 40, 41, 42, 43, 44, 45, 46, 47, 48, 49, 50, 51, 52, 53, 54, 55, 56, 57, 58, 59, 60, 61, 62, 63, 64, 65, 66, 67, 68, 69, 70, 71, 72, 73, 74, 75, 76, 77, 78, 79, 80, 81, 82, 83, 84, 85, 86, 87, 88, 89, 90, 91, 92, 93, 94, 95, 96, 97, 98, 99, 100, 101, 102, 103, 104, 105, 106, 107, 108, 109, 110, 111, 112, 113, 114, 115, 116, 117, 118] (by decide +kernel) (by decide +kernel)
set_option maxRecDepth 20000 in
theorem gX8_snow_X8_verdictsUnder : GoodIn wsX8_snow (wsV RX8 213 RX8 yX8_verdictsUnder wsX8_verdictsUnder) := goodIn_app (goodIn_of _ (by decide +kernel)) ggX8_snow_X8_verdictsUnder
theorem dX8_snow_0 : decode cX8_snow 0 = .ok (.aload_n 0, 1) := by decide +kernel
theorem dX8_snow_1 : decode cX8_snow 1 = .ok (.aload_n 0, 1) := by decide +kernel
theorem dX8_snow_2 : decode cX8_snow 2 = .ok (.getfield 28, 3) := by decide +kernel
theorem dX8_snow_5 : decode cX8_snow 5 = .ok (.getfield 112, 3) := by decide +kernel
theorem dX8_snow_8 : decode cX8_snow 8 = .ok (.bipush 99, 2) := by decide +kernel
theorem dX8_snow_10 : decode cX8_snow 10 = .ok (.invokevirtual 213, 3) := by decide +kernel
theorem dX8_snow_13 : decode cX8_snow 13 = .ok (.istore_n 1, 1) := by decide +kernel
theorem dX8_snow_14 : decode cX8_snow 14 = .ok (.iconst 0, 1) := by decide +kernel
theorem dX8_snow_15 : decode cX8_snow 15 = .ok (.istore_n 2, 1) := by decide +kernel
theorem dX8_snow_16 : decode cX8_snow 16 = .ok (.iload_n 2, 1) := by decide +kernel
theorem dX8_snow_17 : decode cX8_snow 17 = .ok (.bipush 99, 2) := by decide +kernel
theorem dX8_snow_19 : decode cX8_snow 19 = .ok (.if_icmp .ge 25, 3) := by decide +kernel
theorem dX8_snow_22 : decode cX8_snow 22 = .ok (.aload_n 0, 1) := by decide +kernel
theorem dX8_snow_23 : decode cX8_snow 23 = .ok (.aload_n 0, 1) := by decide +kernel
theorem dX8_snow_24 : decode cX8_snow 24 = .ok (.getfield 28, 3) := by decide +kernel
theorem dX8_snow_27 : decode cX8_snow 27 = .ok (.getfield 112, 3) := by decide +kernel
theorem dX8_snow_30 : decode cX8_snow 30 = .ok (.iload_n 2, 1) := by decide +kernel
theorem dX8_snow_31 : decode cX8_snow 31 = .ok (.invokevirtual 213, 3) := by decide +kernel
theorem dX8_snow_34 : decode cX8_snow 34 = .ok (.iload_n 1, 1) := by decide +kernel
theorem dX8_snow_35 : decode cX8_snow 35 = .ok (.if_icmp .eq 9, 3) := by decide +kernel
theorem dX8_snow_38 : decode cX8_snow 38 = .ok (.iinc 2 1, 3) := by decide +kernel
theorem dX8_snow_41 : decode cX8_snow 41 = .ok (.goto (-25), 3) := by decide +kernel
theorem dX8_snow_44 : decode cX8_snow 44 = .ok (.iload_n 2, 1) := by decide +kernel
theorem dX8_snow_45 : decode cX8_snow 45 = .ok (.ireturn, 1) := by decide +kernel
set_option maxRecDepth 20000 in
theorem ggX8_rain_X8_within : GoodIn wsX8_rain wsX8_within := goodIn_r _ [6] (by decide +kernel) (by decide +kernel)
set_option maxRecDepth 20000 in
theorem gX8_rain_X8_within : GoodIn wsX8_rain (va_wsS RX8 76 yX8_within wsX8_within) := goodIn_app (goodIn_of _ (by decide +kernel)) ggX8_rain_X8_within
set_option maxRecDepth 20000 in
theorem ggX8_rain_X0_run : GoodIn wsX8_rain wsX0_run := goodIn_r _ [11, 12, 13, 14, 15, 10, 16, 17, 18, 19, 20, 21, 22, 23, 24, 25, 26, 27, 28, 29, 30, 31, 32, 33, 34, 35, 36, 37, 38, 39, 40, 41, 42, 43, 44, 45, 46, 47, 48, 49, 50, 51, 52, 53, 54, 55, 56, 57, 58, 59, 115, 116, 117, 118, 119, 120, 121, 103, 104, 105, 106, 107, 108, 109, 110, 111, 112, 113, 114] (by decide +kernel) (by decide +kernel)
set_option maxRecDepth 20000 in
theorem gX8_rain_X0_run : GoodIn wsX8_rain (wsV RX8 171 RX0 yX0_run wsX0_run) := goodIn_app (goodIn_of _ (by decide +kernel)) ggX8_rain_X0_run
set_option maxRecDepth 20000 in
theorem ggX8_rain_X0_verdicts : GoodIn wsX8_rain wsX0_verdicts := goodIn_r _ [63, 64, 65, 66, 10, 67, 12, 68, 69, 70, 71, 39, 37, 38, 36, 49, 50, 51, 52, 53, 54, 55, 115, 116, 117, 118, 119, 120, 121] (by decide +kernel) (by decide +kernel)
set_option maxRecDepth 20000 in
theorem gX8_rain_X0_verdicts : GoodIn wsX8_rain (wsV RX8 180 RX0 yX0_verdicts wsX0_verdicts) := goodIn_app (goodIn_of _ (by decide +kernel)) ggX8_rain_X0_verdicts
set_option maxRecDepth 20000 in
theorem ggX8_rain_X8_verdictsWithOtherMud : GoodIn wsX8_rain wsX8_verdictsWithOtherMud := goodIn_r _ [75, 76, 2, 1, 77, 78, 79, 22, 80, 81, 82, 83, 84, 85, 30, 31, 48, 86, 87, 88, 89, 24, 90, 91, 25, 7, 8, 9, 10, 11, 12, 13, 14, 15, 16, 17, 18, 19, 20, 21, 23, 26, 27, 28, 29, 32, 33, 34, 35, 36, 37, 38, 39, 40, 41, 42, 43, 44, 45, 46, 47, 49, 50, 51, 52, 53, 54, 55, 56, 57, 58, 59, 60, 61, 62, 63, 64, 65, 66, 67, 68, 69, 70, 71, 92, 93, 94, 95, 96, 97, 98, 99, 100, 101, 102, 103, 104, 105, 106, 107, 108, 109, 110, 111, 112, 113, 114, 115, 116, 117, 118, 119, 120, 121] (by decide +kernel) (by decide +kernel)
set_option maxRecDepth 20000 in
theorem gX8_rain_X8_verdictsWithOtherMud : GoodIn wsX8_rain (wsV RX8 216 RX8 yX8_verdictsWithOtherMud wsX8_verdictsWithOtherMud) := goodIn_app (goodIn_of _ (by decide +kernel)) ggX8_rain_X8_verdictsWithOtherMud
theorem dX8_rain_0 : decode cX8_rain 0 = .ok (.iload_n 1, 1) := by decide +kernel
theorem dX8_rain_1 : decode cX8_rain 1 = .ok (.iconst 0, 1) := by decide +kernel
theorem dX8_rain_2 : decode cX8_rain 2 = .ok (.iconst 1, 1) := by decide +kernel
theorem dX8_rain_3 : decode cX8_rain 3 = .ok (.invokestatic 76, 3) := by decide +kernel
theorem dX8_rain_6 : decode cX8_rain 6 = .ok (.ifCond .ne 5, 3) := by decide +kernel
theorem dX8_rain_9 : decode cX8_rain 9 = .ok (.iconst (-1), 1) := by decide +kernel
theorem dX8_rain_10 : decode cX8_rain 10 = .ok (.ireturn, 1) := by decide +kernel
theorem dX8_rain_11 : decode cX8_rain 11 = .ok (.aload_n 0, 1) := by decide +kernel
theorem dX8_rain_12 : decode cX8_rain 12 = .ok (.getfield 38, 3) := by decide +kernel
theorem dX8_rain_15 : decode cX8_rain 15 = .ok (.aload_n 0, 1) := by decide +kernel
theorem dX8_rain_16 : decode cX8_rain 16 = .ok (.getfield 28, 3) := by decide +kernel
theorem dX8_rain_19 : decode cX8_rain 19 = .ok (.invokevirtual 171, 3) := by decide +kernel
theorem dX8_rain_22 : decode cX8_rain 22 = .ok (.aload_n 0, 1) := by decide +kernel
theorem dX8_rain_23 : decode cX8_rain 23 = .ok (.getfield 38, 3) := by decide +kernel
theorem dX8_rain_26 : decode cX8_rain 26 = .ok (.invokevirtual 180, 3) := by decide +kernel
theorem dX8_rain_29 : decode cX8_rain 29 = .ok (.istore_n 2, 1) := by decide +kernel
theorem dX8_rain_30 : decode cX8_rain 30 = .ok (.bipush (-4), 2) := by decide +kernel
theorem dX8_rain_32 : decode cX8_rain 32 = .ok (.istore_n 3, 1) := by decide +kernel
theorem dX8_rain_33 : decode cX8_rain 33 = .ok (.iconst 0, 1) := by decide +kernel
theorem dX8_rain_34 : decode cX8_rain 34 = .ok (.istore 4, 2) := by decide +kernel
theorem dX8_rain_36 : decode cX8_rain 36 = .ok (.iload 4, 2) := by decide +kernel
theorem dX8_rain_38 : decode cX8_rain 38 = .ok (.aload_n 0, 1) := by decide +kernel
theorem dX8_rain_39 : decode cX8_rain 39 = .ok (.getfield 28, 3) := by decide +kernel
theorem dX8_rain_42 : decode cX8_rain 42 = .ok (.getfield 106, 3) := by decide +kernel
theorem dX8_rain_45 : decode cX8_rain 45 = .ok (.if_icmp .ge 29, 3) := by decide +kernel
theorem dX8_rain_48 : decode cX8_rain 48 = .ok (.aload_n 0, 1) := by decide +kernel
theorem dX8_rain_49 : decode cX8_rain 49 = .ok (.iload 4, 2) := by decide +kernel
theorem dX8_rain_51 : decode cX8_rain 51 = .ok (.invokevirtual 216, 3) := by decide +kernel
theorem dX8_rain_54 : decode cX8_rain 54 = .ok (.istore 5, 2) := by decide +kernel
theorem dX8_rain_56 : decode cX8_rain 56 = .ok (.iload 5, 2) := by decide +kernel
theorem dX8_rain_58 : decode cX8_rain 58 = .ok (.iload_n 2, 1) := by decide +kernel
theorem dX8_rain_59 : decode cX8_rain 59 = .ok (.if_icmp .le 9, 3) := by decide +kernel
theorem dX8_rain_62 : decode cX8_rain 62 = .ok (.iload 5, 2) := by decide +kernel
theorem dX8_rain_64 : decode cX8_rain 64 = .ok (.istore_n 2, 1) := by decide +kernel
theorem dX8_rain_65 : decode cX8_rain 65 = .ok (.iload 4, 2) := by decide +kernel
theorem dX8_rain_67 : decode cX8_rain 67 = .ok (.istore_n 3, 1) := by decide +kernel
theorem dX8_rain_68 : decode cX8_rain 68 = .ok (.iinc 4 1, 3) := by decide +kernel
theorem dX8_rain_71 : decode cX8_rain 71 = .ok (.goto (-35), 3) := by decide +kernel
theorem dX8_rain_74 : decode cX8_rain 74 = .ok (.iload_n 1, 1) := by decide +kernel
theorem dX8_rain_75 : decode cX8_rain 75 = .ok (.ifCond .eq 9, 3) := by decide +kernel
theorem dX8_rain_78 : decode cX8_rain 78 = .ok (.iload_n 3, 1) := by decide +kernel
theorem dX8_rain_79 : decode cX8_rain 79 = .ok (.bipush (-4), 2) := by decide +kernel
theorem dX8_rain_81 : decode cX8_rain 81 = .ok (.if_icmp .ne 7, 3) := by decide +kernel
theorem dX8_rain_84 : decode cX8_rain 84 = .ok (.iload_n 3, 1) := by decide +kernel
theorem dX8_rain_85 : decode cX8_rain 85 = .ok (.goto 4, 3) := by decide +kernel
theorem dX8_rain_88 : decode cX8_rain 88 = .ok (.iload_n 2, 1) := by decide +kernel
theorem dX8_rain_89 : decode cX8_rain 89 = .ok (.ireturn, 1) := by decide +kernel
set_option maxRecDepth 20000 in
theorem ggX8_luck_X8_within : GoodIn wsX8_luck wsX8_within := goodIn_r _ [6] (by decide +kernel) (by decide +kernel)
set_option maxRecDepth 20000 in
theorem gX8_luck_X8_within : GoodIn wsX8_luck (va_wsS RX8 76 yX8_within wsX8_within) := goodIn_app (goodIn_of _ (by decide +kernel)) ggX8_luck_X8_within
set_option maxRecDepth 20000 in
theorem ggX8_luck_X2_hasParty : GoodIn wsX8_luck wsX2_hasParty := goodIn_r _ [11, 12, 130, 131, 132, 133, 134, 135, 136, 137, 138, 139, 140, 141] (by decide +kernel) (by decide +kernel)
set_option maxRecDepth 20000 in
theorem gX8_luck_X2_hasParty : GoodIn wsX8_luck (wsV RX8 139 RX2 yX2_hasParty wsX2_hasParty) := goodIn_app (goodIn_of _ (by decide +kernel)) ggX8_luck_X2_hasParty
set_option maxRecDepth 20000 in
theorem ggX8_luck_X8_weighVerdicts : GoodIn wsX8_luck wsX8_weighVerdicts := goodIn_r _ [16, 17, 1, 18, 19, 20, 21, 10, 22, 23, 24, 25, 26, 27, 28, 29, 30, 31, 32, 33, 34, 35, 12, 36, 37, 38, 39, 40, 41, 42, 43, 44, 45, 46, 5, 47, 48, 49, 50, 51, 52, 53, 54, 55, 56, 57, 58, 59, 60, 61, 62, 63, 64, 65, 66, 67, 68, 69, 70, 71, 72, 73, 74, 75, 76, 77, 78, 79, 80, 81, 82, 83, 84, 85, 86, 87, 88, 89, 90, 91, 92, 93, 94, 95, 96, 97, 98, 99, 100, 101, 102, 103, 104, 105, 106, 107, 108, 109, 110, 111, 112, 119, 120, 121, 122, 123, 124, 125, 126, 127, 128, 129, 130, 131, 132, 133, 134, 135, 136, 137, 138, 139, 140, 141, 142, 143, 144, 145, 146, 147, 148] (by decide +kernel) (by decide +kernel)
set_option maxRecDepth 20000 in
theorem gX8_luck_X8_weighVerdicts : GoodIn wsX8_luck (wsV RX8 221 RX8 yX8_weighVerdicts wsX8_weighVerdicts) := goodIn_app (goodIn_of _ (by decide +kernel)) ggX8_luck_X8_weighVerdicts
set_option maxRecDepth 20000 in
theorem ggX8_luck_X8_power : GoodIn wsX8_luck wsX8_power := goodIn_r _ [47] (by decide +kernel) (by decide +kernel)
set_option maxRecDepth 20000 in
theorem gX8_luck_X8_power : GoodIn wsX8_luck (va_wsS RX8 225 yX8_power wsX8_power) := goodIn_app (goodIn_of _ (by decide +kernel)) ggX8_luck_X8_power
set_option maxRecDepth 20000 in
theorem ggX8_luck_X8_partOfFraction : GoodIn wsX8_luck wsX8_partOfFraction := goodIn_r _ [115, 116, 117, 5, 118] (by decide +kernel) (by decide +kernel)
set_option maxRecDepth 20000 in
theorem gX8_luck_X8_partOfFraction : GoodIn wsX8_luck (va_wsS RX8 228 yX8_partOfFraction wsX8_partOfFraction) := goodIn_app (goodIn_of _ (by decide +kernel)) ggX8_luck_X8_partOfFraction
theorem dX8_luck_0 : decode cX8_luck 0 = .ok (.iload_n 1, 1) := by decide +kernel
theorem dX8_luck_1 : decode cX8_luck 1 = .ok (.iconst 0, 1) := by decide +kernel
theorem dX8_luck_2 : decode cX8_luck 2 = .ok (.bipush 10, 2) := by decide +kernel
theorem dX8_luck_4 : decode cX8_luck 4 = .ok (.invokestatic 76, 3) := by decide +kernel
theorem dX8_luck_7 : decode cX8_luck 7 = .ok (.ifCond .eq 23, 3) := by decide +kernel
theorem dX8_luck_10 : decode cX8_luck 10 = .ok (.aload_n 0, 1) := by decide +kernel
theorem dX8_luck_11 : decode cX8_luck 11 = .ok (.getfield 28, 3) := by decide +kernel
theorem dX8_luck_14 : decode cX8_luck 14 = .ok (.iload_n 2, 1) := by decide +kernel
theorem dX8_luck_15 : decode cX8_luck 15 = .ok (.invokevirtual 139, 3) := by decide +kernel
theorem dX8_luck_18 : decode cX8_luck 18 = .ok (.ifCond .eq 12, 3) := by decide +kernel
theorem dX8_luck_21 : decode cX8_luck 21 = .ok (.iload_n 3, 1) := by decide +kernel
theorem dX8_luck_22 : decode cX8_luck 22 = .ok (.iconst 0, 1) := by decide +kernel
theorem dX8_luck_23 : decode cX8_luck 23 = .ok (.iconst 1, 1) := by decide +kernel
theorem dX8_luck_24 : decode cX8_luck 24 = .ok (.invokestatic 76, 3) := by decide +kernel
theorem dX8_luck_27 : decode cX8_luck 27 = .ok (.ifCond .ne 7, 3) := by decide +kernel
theorem dX8_luck_30 : decode cX8_luck 30 = .ok (.ldc2_w 219, 3) := by decide +kernel
theorem dX8_luck_33 : decode cX8_luck 33 = .ok (.lreturn, 1) := by decide +kernel
theorem dX8_luck_34 : decode cX8_luck 34 = .ok (.aload_n 0, 1) := by decide +kernel
theorem dX8_luck_35 : decode cX8_luck 35 = .ok (.iload_n 1, 1) := by decide +kernel
theorem dX8_luck_36 : decode cX8_luck 36 = .ok (.iload_n 2, 1) := by decide +kernel
theorem dX8_luck_37 : decode cX8_luck 37 = .ok (.invokevirtual 221, 3) := by decide +kernel
theorem dX8_luck_40 : decode cX8_luck 40 = .ok (.bipush 10, 2) := by decide +kernel
theorem dX8_luck_42 : decode cX8_luck 42 = .ok (.aload_n 0, 1) := by decide +kernel
theorem dX8_luck_43 : decode cX8_luck 43 = .ok (.getfield 28, 3) := by decide +kernel
theorem dX8_luck_46 : decode cX8_luck 46 = .ok (.getfield 106, 3) := by decide +kernel
theorem dX8_luck_49 : decode cX8_luck 49 = .ok (.invokestatic 225, 3) := by decide +kernel
theorem dX8_luck_52 : decode cX8_luck 52 = .ok (.iload_n 3, 1) := by decide +kernel
theorem dX8_luck_53 : decode cX8_luck 53 = .ok (.invokestatic 228, 3) := by decide +kernel
theorem dX8_luck_56 : decode cX8_luck 56 = .ok (.lreturn, 1) := by decide +kernel
set_option maxRecDepth 20000 in
theorem ggX8_mean_X8_within : GoodIn wsX8_mean wsX8_within := goodIn_r _ [6] (by decide +kernel) (by decide +kernel)
set_option maxRecDepth 20000 in
theorem gX8_mean_X8_within : GoodIn wsX8_mean (va_wsS RX8 76 yX8_within wsX8_within) := goodIn_app (goodIn_of _ (by decide +kernel)) ggX8_mean_X8_within
set_option maxRecDepth 20000 in
theorem ggX8_mean_X8_weighVerdicts : GoodIn wsX8_mean wsX8_weighVerdicts := goodIn_r _ [10, 11, 2, 12, 13, 14, 15, 16, 17, 18, 19, 20, 21, 22, 23, 24, 25, 26, 27, 28, 29, 30, 31, 32, 33, 34, 35, 36, 37, 38, 39, 40, 41, 42, 5, 43, 44, 45, 46, 47, 48, 49, 50, 51, 52, 53, 54, 55, 56, 57, 58, 59, 60, 61, 62, 63, 64, 65, 66, 67, 68, 69, 70, 71, 72, 73, 74, 75, 76, 77, 78, 79, 80, 81, 82, 83, 84, 85, 86, 87, 88, 89, 90, 91, 92, 93, 94, 95, 96, 97, 98, 99, 100, 101, 102, 103, 104, 105, 106, 107, 108, 115, 116, 117, 118, 119, 120, 121, 122, 123, 124, 125, 126, 127, 128, 129, 130, 131, 132, 133, 134, 135, 136, 137, 138, 139, 140, 141, 142, 143, 144] (by decide +kernel) (by decide +kernel)
set_option maxRecDepth 20000 in
theorem gX8_mean_X8_weighVerdicts : GoodIn wsX8_mean (wsV RX8 221 RX8 yX8_weighVerdicts wsX8_weighVerdicts) := goodIn_app (goodIn_of _ (by decide +kernel)) ggX8_mean_X8_weighVerdicts
set_option maxRecDepth 20000 in
theorem ggX8_mean_X8_power : GoodIn wsX8_mean wsX8_power := goodIn_r _ [43] (by decide +kernel) (by decide +kernel)
set_option maxRecDepth 20000 in
theorem gX8_mean_X8_power : GoodIn wsX8_mean (va_wsS RX8 225 yX8_power wsX8_power) := goodIn_app (goodIn_of _ (by decide +kernel)) ggX8_mean_X8_power
set_option maxRecDepth 20000 in
theorem ggX8_mean_X8_partOfFraction : GoodIn wsX8_mean wsX8_partOfFraction := goodIn_r _ [111, 112, 113, 5, 114] (by decide +kernel) (by decide +kernel)
set_option maxRecDepth 20000 in
theorem gX8_mean_X8_partOfFraction : GoodIn wsX8_mean (va_wsS RX8 228 yX8_partOfFraction wsX8_partOfFraction) := goodIn_app (goodIn_of _ (by decide +kernel)) ggX8_mean_X8_partOfFraction
theorem dX8_mean_0 : decode cX8_mean 0 = .ok (.iload_n 1, 1) := by decide +kernel
theorem dX8_mean_1 : decode cX8_mean 1 = .ok (.iconst 0, 1) := by decide +kernel
theorem dX8_mean_2 : decode cX8_mean 2 = .ok (.bipush 10, 2) := by decide +kernel
theorem dX8_mean_4 : decode cX8_mean 4 = .ok (.invokestatic 76, 3) := by decide +kernel
theorem dX8_mean_7 : decode cX8_mean 7 = .ok (.ifCond .eq 12, 3) := by decide +kernel
theorem dX8_mean_10 : decode cX8_mean 10 = .ok (.iload_n 2, 1) := by decide +kernel
theorem dX8_mean_11 : decode cX8_mean 11 = .ok (.iconst 0, 1) := by decide +kernel
theorem dX8_mean_12 : decode cX8_mean 12 = .ok (.iconst 1, 1) := by decide +kernel
theorem dX8_mean_13 : decode cX8_mean 13 = .ok (.invokestatic 76, 3) := by decide +kernel
theorem dX8_mean_16 : decode cX8_mean 16 = .ok (.ifCond .ne 7, 3) := by decide +kernel
theorem dX8_mean_19 : decode cX8_mean 19 = .ok (.ldc2_w 219, 3) := by decide +kernel
theorem dX8_mean_22 : decode cX8_mean 22 = .ok (.lreturn, 1) := by decide +kernel
theorem dX8_mean_23 : decode cX8_mean 23 = .ok (.aload_n 0, 1) := by decide +kernel
theorem dX8_mean_24 : decode cX8_mean 24 = .ok (.iload_n 1, 1) := by decide +kernel
theorem dX8_mean_25 : decode cX8_mean 25 = .ok (.iconst (-1), 1) := by decide +kernel
theorem dX8_mean_26 : decode cX8_mean 26 = .ok (.invokevirtual 221, 3) := by decide +kernel
theorem dX8_mean_29 : decode cX8_mean 29 = .ok (.bipush 10, 2) := by decide +kernel
theorem dX8_mean_31 : decode cX8_mean 31 = .ok (.aload_n 0, 1) := by decide +kernel
theorem dX8_mean_32 : decode cX8_mean 32 = .ok (.getfield 28, 3) := by decide +kernel
theorem dX8_mean_35 : decode cX8_mean 35 = .ok (.getfield 106, 3) := by decide +kernel
theorem dX8_mean_38 : decode cX8_mean 38 = .ok (.invokestatic 225, 3) := by decide +kernel
theorem dX8_mean_41 : decode cX8_mean 41 = .ok (.iload_n 2, 1) := by decide +kernel
theorem dX8_mean_42 : decode cX8_mean 42 = .ok (.invokestatic 228, 3) := by decide +kernel
theorem dX8_mean_45 : decode cX8_mean 45 = .ok (.lreturn, 1) := by decide +kernel
set_option maxRecDepth 20000 in
theorem ggX8_see_X2_hasParty : GoodIn wsX8_see wsX2_hasParty := goodIn_r _ [7, 8, 35, 36, 37, 38, 39, 40, 41, 42, 43, 44, 45, 46] (by decide +kernel) (by decide +kernel)
set_option maxRecDepth 20000 in
theorem gX8_see_X2_hasParty : GoodIn wsX8_see (wsV RX8 139 RX2 yX2_hasParty wsX2_hasParty) := goodIn_app (goodIn_of _ (by decide +kernel)) ggX8_see_X2_hasParty
set_option maxRecDepth 20000 in
theorem ggX8_see_X8_within : GoodIn wsX8_see wsX8_within := goodIn_r _ [12] (by decide +kernel) (by decide +kernel)
set_option maxRecDepth 20000 in
theorem gX8_see_X8_within : GoodIn wsX8_see (va_wsS RX8 76 yX8_within wsX8_within) := goodIn_app (goodIn_of _ (by decide +kernel)) ggX8_see_X8_within
set_option maxRecDepth 20000 in
theorem ggX8_see_X5_put : GoodIn wsX8_see wsX5_put := goodIn_r _ [17, 18, 19, 20, 32, 33, 34] (by decide +kernel) (by decide +kernel)
set_option maxRecDepth 20000 in
theorem gX8_see_X5_put : GoodIn wsX8_see (wsV RX8 232 RX5 yX5_put wsX5_put) := goodIn_app (goodIn_of _ (by decide +kernel)) ggX8_see_X5_put
theorem dX8_see_0 : decode cX8_see 0 = .ok (.aload_n 0, 1) := by decide +kernel
theorem dX8_see_1 : decode cX8_see 1 = .ok (.getfield 28, 3) := by decide +kernel
theorem dX8_see_4 : decode cX8_see 4 = .ok (.iload_n 1, 1) := by decide +kernel
theorem dX8_see_5 : decode cX8_see 5 = .ok (.invokevirtual 139, 3) := by decide +kernel
theorem dX8_see_8 : decode cX8_see 8 = .ok (.ifCond .eq 19, 3) := by decide +kernel
theorem dX8_see_11 : decode cX8_see 11 = .ok (.iload_n 2, 1) := by decide +kernel
theorem dX8_see_12 : decode cX8_see 12 = .ok (.bipush (-4), 2) := by decide +kernel
theorem dX8_see_14 : decode cX8_see 14 = .ok (.if_icmp .eq 15, 3) := by decide +kernel
theorem dX8_see_17 : decode cX8_see 17 = .ok (.iload_n 2, 1) := by decide +kernel
theorem dX8_see_18 : decode cX8_see 18 = .ok (.iconst 0, 1) := by decide +kernel
theorem dX8_see_19 : decode cX8_see 19 = .ok (.bipush 7, 2) := by decide +kernel
theorem dX8_see_21 : decode cX8_see 21 = .ok (.invokestatic 76, 3) := by decide +kernel
theorem dX8_see_24 : decode cX8_see 24 = .ok (.ifCond .ne 5, 3) := by decide +kernel
theorem dX8_see_27 : decode cX8_see 27 = .ok (.iconst (-1), 1) := by decide +kernel
theorem dX8_see_28 : decode cX8_see 28 = .ok (.ireturn, 1) := by decide +kernel
theorem dX8_see_29 : decode cX8_see 29 = .ok (.aload_n 0, 1) := by decide +kernel
theorem dX8_see_30 : decode cX8_see 30 = .ok (.getfield 54, 3) := by decide +kernel
theorem dX8_see_33 : decode cX8_see 33 = .ok (.iload_n 1, 1) := by decide +kernel
theorem dX8_see_34 : decode cX8_see 34 = .ok (.iload_n 2, 1) := by decide +kernel
theorem dX8_see_35 : decode cX8_see 35 = .ok (.invokevirtual 232, 3) := by decide +kernel
theorem dX8_see_38 : decode cX8_see 38 = .ok (.ifCond .eq 13, 3) := by decide +kernel
theorem dX8_see_41 : decode cX8_see 41 = .ok (.aload_n 0, 1) := by decide +kernel
theorem dX8_see_42 : decode cX8_see 42 = .ok (.getfield 54, 3) := by decide +kernel
theorem dX8_see_45 : decode cX8_see 45 = .ok (.getfield 99, 3) := by decide +kernel
theorem dX8_see_48 : decode cX8_see 48 = .ok (.goto 5, 3) := by decide +kernel
theorem dX8_see_51 : decode cX8_see 51 = .ok (.bipush (-3), 2) := by decide +kernel
theorem dX8_see_53 : decode cX8_see 53 = .ok (.ireturn, 1) := by decide +kernel
set_option maxRecDepth 20000 in
theorem ggX8_forget_X8_within : GoodIn wsX8_forget wsX8_within := goodIn_r _ [5] (by decide +kernel) (by decide +kernel)
set_option maxRecDepth 20000 in
theorem gX8_forget_X8_within : GoodIn wsX8_forget (va_wsS RX8 76 yX8_within wsX8_within) := goodIn_app (goodIn_of _ (by decide +kernel)) ggX8_forget_X8_within
theorem dX8_forget_0 : decode cX8_forget 0 = .ok (.iload_n 1, 1) := by decide +kernel
theorem dX8_forget_1 : decode cX8_forget 1 = .ok (.iconst 0, 1) := by decide +kernel
theorem dX8_forget_2 : decode cX8_forget 2 = .ok (.aload_n 0, 1) := by decide +kernel
theorem dX8_forget_3 : decode cX8_forget 3 = .ok (.getfield 54, 3) := by decide +kernel
theorem dX8_forget_6 : decode cX8_forget 6 = .ok (.getfield 99, 3) := by decide +kernel
theorem dX8_forget_9 : decode cX8_forget 9 = .ok (.invokestatic 76, 3) := by decide +kernel
theorem dX8_forget_12 : decode cX8_forget 12 = .ok (.ifCond .ne 5, 3) := by decide +kernel
theorem dX8_forget_15 : decode cX8_forget 15 = .ok (.iconst (-1), 1) := by decide +kernel
theorem dX8_forget_16 : decode cX8_forget 16 = .ok (.ireturn, 1) := by decide +kernel
theorem dX8_forget_17 : decode cX8_forget 17 = .ok (.aload_n 0, 1) := by decide +kernel
theorem dX8_forget_18 : decode cX8_forget 18 = .ok (.getfield 54, 3) := by decide +kernel
theorem dX8_forget_21 : decode cX8_forget 21 = .ok (.getfield 99, 3) := by decide +kernel
theorem dX8_forget_24 : decode cX8_forget 24 = .ok (.istore_n 2, 1) := by decide +kernel
theorem dX8_forget_25 : decode cX8_forget 25 = .ok (.aload_n 0, 1) := by decide +kernel
theorem dX8_forget_26 : decode cX8_forget 26 = .ok (.getfield 54, 3) := by decide +kernel
theorem dX8_forget_29 : decode cX8_forget 29 = .ok (.iload_n 1, 1) := by decide +kernel
theorem dX8_forget_30 : decode cX8_forget 30 = .ok (.putfield 99, 3) := by decide +kernel
theorem dX8_forget_33 : decode cX8_forget 33 = .ok (.iload_n 2, 1) := by decide +kernel
theorem dX8_forget_34 : decode cX8_forget 34 = .ok (.ireturn, 1) := by decide +kernel
set_option maxRecDepth 20000 in
theorem ggX8_turned_X8_driveIfTurned : GoodIn wsX8_turned wsX8_driveIfTurned := goodIn_r _ [8, 9, 3, 2, 10, 11, 12, 13, 14, 15, 16, 17, 18, 19, 20, 21, 22, 23, 24, 25, 26, 27, 28, 29, 30, 31, 32, 33, 34, 35, 36, 37, 38, 39, 40, 41, 42, 43, 44, 45, 46, 47, 48, 49, 50, 51, 52, 53, 54, 55, 56, 57, 58, 59, 60, 61, 62, 63, 64, 65, 66, 67, 68, 69, 70, 71, 72, 73, 74, 75, 76, 77, 78, 79, 80, 81, 82, 83, 84, 85, 94, 95, 96, 97, 98, 99, 100, 101, 102, 103, 104, 105, 106, 107, 108, 109, 110, 111, 112, 113, 114, 115, 116, 117, 118, 119, 120, 121, 122, 123] (by decide +kernel) (by decide +kernel)
set_option maxRecDepth 20000 in
theorem gX8_turned_X8_driveIfTurned : GoodIn wsX8_turned (wsV RX8 235 RX8 yX8_driveIfTurned wsX8_driveIfTurned) := goodIn_app (goodIn_of _ (by decide +kernel)) ggX8_turned_X8_driveIfTurned
set_option maxRecDepth 20000 in
theorem ggX8_turned_X5_agreeWith : GoodIn wsX8_turned wsX5_agreeWith := goodIn_r _ [90, 91, 92, 93, 124, 125, 126, 117, 118, 119, 120, 121, 122, 123] (by decide +kernel) (by decide +kernel)
set_option maxRecDepth 20000 in
theorem gX8_turned_X5_agreeWith : GoodIn wsX8_turned (wsV RX8 238 RX5 yX5_agreeWith wsX5_agreeWith) := goodIn_app (goodIn_of _ (by decide +kernel)) ggX8_turned_X5_agreeWith
theorem dX8_turned_0 : decode cX8_turned 0 = .ok (.aload_n 0, 1) := by decide +kernel
theorem dX8_turned_1 : decode cX8_turned 1 = .ok (.bipush (-4), 2) := by decide +kernel
theorem dX8_turned_3 : decode cX8_turned 3 = .ok (.invokevirtual 235, 3) := by decide +kernel
theorem dX8_turned_6 : decode cX8_turned 6 = .ok (.aload_n 0, 1) := by decide +kernel
theorem dX8_turned_7 : decode cX8_turned 7 = .ok (.getfield 54, 3) := by decide +kernel
theorem dX8_turned_10 : decode cX8_turned 10 = .ok (.aload_n 0, 1) := by decide +kernel
theorem dX8_turned_11 : decode cX8_turned 11 = .ok (.getfield 38, 3) := by decide +kernel
theorem dX8_turned_14 : decode cX8_turned 14 = .ok (.invokevirtual 238, 3) := by decide +kernel
theorem dX8_turned_17 : decode cX8_turned 17 = .ok (.ifCond .eq 9, 3) := by decide +kernel
theorem dX8_turned_20 : decode cX8_turned 20 = .ok (.sipush 256, 3) := by decide +kernel
theorem dX8_turned_23 : decode cX8_turned 23 = .ok (.goto 4, 3) := by decide +kernel
theorem dX8_turned_26 : decode cX8_turned 26 = .ok (.iconst 0, 1) := by decide +kernel
theorem dX8_turned_27 : decode cX8_turned 27 = .ok (.istore_n 1, 1) := by decide +kernel
theorem dX8_turned_28 : decode cX8_turned 28 = .ok (.iconst 0, 1) := by decide +kernel
theorem dX8_turned_29 : decode cX8_turned 29 = .ok (.istore_n 2, 1) := by decide +kernel
theorem dX8_turned_30 : decode cX8_turned 30 = .ok (.iload_n 2, 1) := by decide +kernel
theorem dX8_turned_31 : decode cX8_turned 31 = .ok (.aload_n 0, 1) := by decide +kernel
theorem dX8_turned_32 : decode cX8_turned 32 = .ok (.getfield 28, 3) := by decide +kernel
theorem dX8_turned_35 : decode cX8_turned 35 = .ok (.getfield 106, 3) := by decide +kernel
theorem dX8_turned_38 : decode cX8_turned 38 = .ok (.iconst 1, 1) := by decide +kernel
theorem dX8_turned_39 : decode cX8_turned 39 = .ok (.isub, 1) := by decide +kernel
theorem dX8_turned_40 : decode cX8_turned 40 = .ok (.if_icmp .ge 34, 3) := by decide +kernel
theorem dX8_turned_43 : decode cX8_turned 43 = .ok (.aload_n 0, 1) := by decide +kernel
theorem dX8_turned_44 : decode cX8_turned 44 = .ok (.iload_n 2, 1) := by decide +kernel
theorem dX8_turned_45 : decode cX8_turned 45 = .ok (.invokevirtual 235, 3) := by decide +kernel
theorem dX8_turned_48 : decode cX8_turned 48 = .ok (.aload_n 0, 1) := by decide +kernel
theorem dX8_turned_49 : decode cX8_turned 49 = .ok (.getfield 54, 3) := by decide +kernel
theorem dX8_turned_52 : decode cX8_turned 52 = .ok (.aload_n 0, 1) := by decide +kernel
theorem dX8_turned_53 : decode cX8_turned 53 = .ok (.getfield 38, 3) := by decide +kernel
theorem dX8_turned_56 : decode cX8_turned 56 = .ok (.invokevirtual 238, 3) := by decide +kernel
theorem dX8_turned_59 : decode cX8_turned 59 = .ok (.ifCond .eq 9, 3) := by decide +kernel
theorem dX8_turned_62 : decode cX8_turned 62 = .ok (.iload_n 1, 1) := by decide +kernel
theorem dX8_turned_63 : decode cX8_turned 63 = .ok (.iconst 1, 1) := by decide +kernel
theorem dX8_turned_64 : decode cX8_turned 64 = .ok (.iload_n 2, 1) := by decide +kernel
theorem dX8_turned_65 : decode cX8_turned 65 = .ok (.ishl, 1) := by decide +kernel
theorem dX8_turned_66 : decode cX8_turned 66 = .ok (.ior, 1) := by decide +kernel
theorem dX8_turned_67 : decode cX8_turned 67 = .ok (.istore_n 1, 1) := by decide +kernel
theorem dX8_turned_68 : decode cX8_turned 68 = .ok (.iinc 2 1, 3) := by decide +kernel
theorem dX8_turned_71 : decode cX8_turned 71 = .ok (.goto (-41), 3) := by decide +kernel
theorem dX8_turned_74 : decode cX8_turned 74 = .ok (.iload_n 1, 1) := by decide +kernel
theorem dX8_turned_75 : decode cX8_turned 75 = .ok (.ireturn, 1) := by decide +kernel
set_option maxRecDepth 20000 in
theorem ggX8_laws_X2_hasParty : GoodIn wsX8_laws wsX2_hasParty := goodIn_r _ [9, 10, 96, 97, 98, 99, 100, 101, 102, 103, 104, 105, 106, 107] (by decide +kernel) (by decide +kernel)
set_option maxRecDepth 20000 in
theorem gX8_laws_X2_hasParty : GoodIn wsX8_laws (wsV RX8 139 RX2 yX2_hasParty wsX2_hasParty) := goodIn_app (goodIn_of _ (by decide +kernel)) ggX8_laws_X2_hasParty
set_option maxRecDepth 20000 in
theorem ggX8_laws_X2_copyFrom : GoodIn wsX8_laws wsX2_copyFrom := goodIn_r _ [14, 15, 16, 17, 18, 19, 20, 21, 22, 23, 24, 25, 26, 27, 10, 28, 29, 96, 97, 98, 99, 100, 101, 102, 103, 104, 105, 106, 107] (by decide +kernel) (by decide +kernel)
set_option maxRecDepth 20000 in
theorem gX8_laws_X2_copyFrom : GoodIn wsX8_laws (wsV RX8 95 RX2 yX2_copyFrom wsX2_copyFrom) := goodIn_app (goodIn_of _ (by decide +kernel)) ggX8_laws_X2_copyFrom
set_option maxRecDepth 20000 in
theorem ggX8_laws_X0_run : GoodIn wsX8_laws wsX0_run := goodIn_r _ [34, 35, 36, 37, 38, 33, 39, 40, 41, 42, 43, 44, 8, 45, 27, 29, 46, 47, 48, 49, 20, 21, 50, 51, 52, 53, 54, 55, 56, 57, 58, 59, 60, 61, 62, 63, 64, 65, 22, 66, 67, 68, 69, 70, 71, 72, 73, 74, 75, 76, 108, 109, 110, 111, 112, 113, 114, 96, 97, 98, 99, 100, 101, 102, 103, 104, 105, 106, 107] (by decide +kernel) (by decide +kernel)
set_option maxRecDepth 20000 in
theorem gX8_laws_X0_run : GoodIn wsX8_laws (wsV RX8 171 RX0 yX0_run wsX0_run) := goodIn_app (goodIn_of _ (by decide +kernel)) ggX8_laws_X0_run
set_option maxRecDepth 20000 in
theorem ggX8_laws_X5_agreeWith : GoodIn wsX8_laws wsX5_agreeWith := goodIn_r _ [81, 82, 83, 84, 115, 116, 117, 108, 109, 110, 111, 112, 113, 114] (by decide +kernel) (by decide +kernel)
set_option maxRecDepth 20000 in
theorem gX8_laws_X5_agreeWith : GoodIn wsX8_laws (wsV RX8 238 RX5 yX5_agreeWith wsX5_agreeWith) := goodIn_app (goodIn_of _ (by decide +kernel)) ggX8_laws_X5_agreeWith
theorem dX8_laws_0 : decode cX8_laws 0 = .ok (.aload_n 0, 1) := by decide +kernel
theorem dX8_laws_1 : decode cX8_laws 1 = .ok (.getfield 28, 3) := by decide +kernel
theorem dX8_laws_4 : decode cX8_laws 4 = .ok (.iload_n 1, 1) := by decide +kernel
theorem dX8_laws_5 : decode cX8_laws 5 = .ok (.invokevirtual 139, 3) := by decide +kernel
theorem dX8_laws_8 : decode cX8_laws 8 = .ok (.ifCond .ne 5, 3) := by decide +kernel
theorem dX8_laws_11 : decode cX8_laws 11 = .ok (.iconst (-1), 1) := by decide +kernel
theorem dX8_laws_12 : decode cX8_laws 12 = .ok (.ireturn, 1) := by decide +kernel
theorem dX8_laws_13 : decode cX8_laws 13 = .ok (.iconst 0, 1) := by decide +kernel
theorem dX8_laws_14 : decode cX8_laws 14 = .ok (.istore_n 2, 1) := by decide +kernel
theorem dX8_laws_15 : decode cX8_laws 15 = .ok (.aload_n 0, 1) := by decide +kernel
theorem dX8_laws_16 : decode cX8_laws 16 = .ok (.getfield 32, 3) := by decide +kernel
theorem dX8_laws_19 : decode cX8_laws 19 = .ok (.aload_n 0, 1) := by decide +kernel
theorem dX8_laws_20 : decode cX8_laws 20 = .ok (.getfield 28, 3) := by decide +kernel
theorem dX8_laws_23 : decode cX8_laws 23 = .ok (.invokevirtual 95, 3) := by decide +kernel
theorem dX8_laws_26 : decode cX8_laws 26 = .ok (.iconst 0, 1) := by decide +kernel
theorem dX8_laws_27 : decode cX8_laws 27 = .ok (.istore_n 3, 1) := by decide +kernel
theorem dX8_laws_28 : decode cX8_laws 28 = .ok (.iload_n 3, 1) := by decide +kernel
theorem dX8_laws_29 : decode cX8_laws 29 = .ok (.iconst 3, 1) := by decide +kernel
theorem dX8_laws_30 : decode cX8_laws 30 = .ok (.if_icmp .gt 50, 3) := by decide +kernel
theorem dX8_laws_33 : decode cX8_laws 33 = .ok (.aload_n 0, 1) := by decide +kernel
theorem dX8_laws_34 : decode cX8_laws 34 = .ok (.getfield 32, 3) := by decide +kernel
theorem dX8_laws_37 : decode cX8_laws 37 = .ok (.getfield 242, 3) := by decide +kernel
theorem dX8_laws_40 : decode cX8_laws 40 = .ok (.iload_n 1, 1) := by decide +kernel
theorem dX8_laws_41 : decode cX8_laws 41 = .ok (.iload_n 3, 1) := by decide +kernel
theorem dX8_laws_42 : decode cX8_laws 42 = .ok (.iastore, 1) := by decide +kernel
theorem dX8_laws_43 : decode cX8_laws 43 = .ok (.aload_n 0, 1) := by decide +kernel
theorem dX8_laws_44 : decode cX8_laws 44 = .ok (.getfield 38, 3) := by decide +kernel
theorem dX8_laws_47 : decode cX8_laws 47 = .ok (.aload_n 0, 1) := by decide +kernel
theorem dX8_laws_48 : decode cX8_laws 48 = .ok (.getfield 32, 3) := by decide +kernel
theorem dX8_laws_51 : decode cX8_laws 51 = .ok (.invokevirtual 171, 3) := by decide +kernel
theorem dX8_laws_54 : decode cX8_laws 54 = .ok (.aload_n 0, 1) := by decide +kernel
theorem dX8_laws_55 : decode cX8_laws 55 = .ok (.getfield 54, 3) := by decide +kernel
theorem dX8_laws_58 : decode cX8_laws 58 = .ok (.aload_n 0, 1) := by decide +kernel
theorem dX8_laws_59 : decode cX8_laws 59 = .ok (.getfield 38, 3) := by decide +kernel
theorem dX8_laws_62 : decode cX8_laws 62 = .ok (.invokevirtual 238, 3) := by decide +kernel
theorem dX8_laws_65 : decode cX8_laws 65 = .ok (.ifCond .eq 9, 3) := by decide +kernel
theorem dX8_laws_68 : decode cX8_laws 68 = .ok (.iload_n 2, 1) := by decide +kernel
theorem dX8_laws_69 : decode cX8_laws 69 = .ok (.iconst 1, 1) := by decide +kernel
theorem dX8_laws_70 : decode cX8_laws 70 = .ok (.iload_n 3, 1) := by decide +kernel
theorem dX8_laws_71 : decode cX8_laws 71 = .ok (.ishl, 1) := by decide +kernel
theorem dX8_laws_72 : decode cX8_laws 72 = .ok (.ior, 1) := by decide +kernel
theorem dX8_laws_73 : decode cX8_laws 73 = .ok (.istore_n 2, 1) := by decide +kernel
theorem dX8_laws_74 : decode cX8_laws 74 = .ok (.iinc 3 1, 3) := by decide +kernel
theorem dX8_laws_77 : decode cX8_laws 77 = .ok (.goto (-49), 3) := by decide +kernel
theorem dX8_laws_80 : decode cX8_laws 80 = .ok (.iload_n 2, 1) := by decide +kernel
theorem dX8_laws_81 : decode cX8_laws 81 = .ok (.ireturn, 1) := by decide +kernel
set_option maxRecDepth 20000 in
theorem ggX8_look_X8_within : GoodIn wsX8_look wsX8_within := goodIn_r _ [5] (by decide +kernel) (by decide +kernel)
set_option maxRecDepth 20000 in
theorem gX8_look_X8_within : GoodIn wsX8_look (va_wsS RX8 76 yX8_within wsX8_within) := goodIn_app (goodIn_of _ (by decide +kernel)) ggX8_look_X8_within
set_option maxRecDepth 20000 in
theorem ggX8_look_X8_turned : GoodIn wsX8_look wsX8_turned := goodIn_r _ [9, 10, 11, 1, 12, 13, 14, 4, 15, 16, 17, 18, 19, 20, 21, 22, 23, 24, 25, 26, 27, 28, 29, 30, 31, 32, 33, 34, 35, 36, 37, 38, 39, 40, 41, 42, 43, 44, 45, 46, 47, 48, 49, 50, 51, 52, 53, 54, 55, 56, 57, 58, 59, 60, 61, 62, 63, 64, 65, 66, 67, 68, 69, 70, 71, 72, 73, 74, 75, 76, 77, 78, 79, 80, 81, 82, 83, 84, 85, 86, 87, 88, 89, 90, 91, 92, 93, 94, 95, 96, 97, 98, 99, 100, 111, 112, 113, 114, 115, 116, 117, 118, 119, 120, 121, 122, 123, 124, 125, 126, 127, 128, 129, 130, 131, 132, 133, 134, 135, 136, 137, 138, 139, 140, 141, 142, 143] (by decide +kernel) (by decide +kernel)
set_option maxRecDepth 20000 in
theorem gX8_look_X8_turned : GoodIn wsX8_look (wsV RX8 245 RX8 yX8_turned wsX8_turned) := goodIn_app (goodIn_of _ (by decide +kernel)) ggX8_look_X8_turned
set_option maxRecDepth 20000 in
theorem ggX8_look_J6_bitCount_0f7a4 : GoodIn wsX8_look wsJ6_bitCount_0f7a4 := goodIn_r _ [85, 86, 87, 88] (by decide +kernel) (by decide +kernel)
set_option maxRecDepth 20000 in
theorem gX8_look_J6_bitCount_0f7a4 : GoodIn wsX8_look (va_wsS RX8 248 yJ6_bitCount_0f7a4 wsJ6_bitCount_0f7a4) := goodIn_app (goodIn_of _ (by decide +kernel)) ggX8_look_J6_bitCount_0f7a4
set_option maxRecDepth 20000 in
theorem ggX8_look_X8_mostLeftBy : GoodIn wsX8_look wsX8_mostLeftBy := goodIn_r _ [105, 106, 11, 107, 108, 109, 110, 12, 13, 14, 4, 15, 16, 1, 17, 18, 19, 20, 21, 22, 23, 24, 25, 26, 27, 28, 29, 30, 31, 32, 33, 34, 35, 36, 37, 38, 39, 40, 41, 42, 43, 44, 45, 46, 47, 48, 49, 50, 51, 52, 53, 54, 55, 56, 57, 58, 59, 60, 61, 62, 63, 64, 65, 66, 67, 68, 69, 70, 71, 72, 73, 74, 75, 76, 77, 78, 79, 80, 81, 82, 83, 84, 85, 86, 87, 88, 89, 90, 91, 92, 2, 3, 5, 111, 112, 113, 114, 115, 116, 117, 118, 119, 120, 121, 134, 135, 136, 137, 138, 139, 140, 122, 123, 124, 125, 126, 127, 128, 129, 130, 131, 132, 133] (by decide +kernel) (by decide +kernel)
set_option maxRecDepth 20000 in
theorem gX8_look_X8_mostLeftBy : GoodIn wsX8_look (wsV RX8 253 RX8 yX8_mostLeftBy wsX8_mostLeftBy) := goodIn_app (goodIn_of _ (by decide +kernel)) ggX8_look_X8_mostLeftBy
theorem dX8_look_0 : decode cX8_look 0 = .ok (.iload_n 1, 1) := by decide +kernel
theorem dX8_look_1 : decode cX8_look 1 = .ok (.iconst 0, 1) := by decide +kernel
theorem dX8_look_2 : decode cX8_look 2 = .ok (.iconst 1, 1) := by decide +kernel
theorem dX8_look_3 : decode cX8_look 3 = .ok (.invokestatic 76, 3) := by decide +kernel
theorem dX8_look_6 : decode cX8_look 6 = .ok (.ifCond .ne 5, 3) := by decide +kernel
theorem dX8_look_9 : decode cX8_look 9 = .ok (.iconst (-1), 1) := by decide +kernel
theorem dX8_look_10 : decode cX8_look 10 = .ok (.ireturn, 1) := by decide +kernel
theorem dX8_look_11 : decode cX8_look 11 = .ok (.aload_n 0, 1) := by decide +kernel
theorem dX8_look_12 : decode cX8_look 12 = .ok (.invokevirtual 245, 3) := by decide +kernel
theorem dX8_look_15 : decode cX8_look 15 = .ok (.istore_n 2, 1) := by decide +kernel
theorem dX8_look_16 : decode cX8_look 16 = .ok (.iload_n 2, 1) := by decide +kernel
theorem dX8_look_17 : decode cX8_look 17 = .ok (.invokestatic 248, 3) := by decide +kernel
theorem dX8_look_20 : decode cX8_look 20 = .ok (.istore_n 3, 1) := by decide +kernel
theorem dX8_look_21 : decode cX8_look 21 = .ok (.bipush (-4), 2) := by decide +kernel
theorem dX8_look_23 : decode cX8_look 23 = .ok (.istore 4, 2) := by decide +kernel
theorem dX8_look_25 : decode cX8_look 25 = .ok (.iconst 0, 1) := by decide +kernel
theorem dX8_look_26 : decode cX8_look 26 = .ok (.istore 5, 2) := by decide +kernel
theorem dX8_look_28 : decode cX8_look 28 = .ok (.iload 5, 2) := by decide +kernel
theorem dX8_look_30 : decode cX8_look 30 = .ok (.aload_n 0, 1) := by decide +kernel
theorem dX8_look_31 : decode cX8_look 31 = .ok (.getfield 28, 3) := by decide +kernel
theorem dX8_look_34 : decode cX8_look 34 = .ok (.getfield 109, 3) := by decide +kernel
theorem dX8_look_37 : decode cX8_look 37 = .ok (.if_icmp .ge 31, 3) := by decide +kernel
theorem dX8_look_40 : decode cX8_look 40 = .ok (.aload_n 0, 1) := by decide +kernel
theorem dX8_look_41 : decode cX8_look 41 = .ok (.iload 5, 2) := by decide +kernel
theorem dX8_look_43 : decode cX8_look 43 = .ok (.iload_n 2, 1) := by decide +kernel
theorem dX8_look_44 : decode cX8_look 44 = .ok (.invokevirtual 253, 3) := by decide +kernel
theorem dX8_look_47 : decode cX8_look 47 = .ok (.istore 6, 2) := by decide +kernel
theorem dX8_look_49 : decode cX8_look 49 = .ok (.iload 6, 2) := by decide +kernel
theorem dX8_look_51 : decode cX8_look 51 = .ok (.iload_n 3, 1) := by decide +kernel
theorem dX8_look_52 : decode cX8_look 52 = .ok (.if_icmp .ge 10, 3) := by decide +kernel
theorem dX8_look_55 : decode cX8_look 55 = .ok (.iload 6, 2) := by decide +kernel
theorem dX8_look_57 : decode cX8_look 57 = .ok (.istore_n 3, 1) := by decide +kernel
theorem dX8_look_58 : decode cX8_look 58 = .ok (.iload 5, 2) := by decide +kernel
theorem dX8_look_60 : decode cX8_look 60 = .ok (.istore 4, 2) := by decide +kernel
theorem dX8_look_62 : decode cX8_look 62 = .ok (.iinc 5 1, 3) := by decide +kernel
theorem dX8_look_65 : decode cX8_look 65 = .ok (.goto (-37), 3) := by decide +kernel
theorem dX8_look_68 : decode cX8_look 68 = .ok (.iload_n 1, 1) := by decide +kernel
theorem dX8_look_69 : decode cX8_look 69 = .ok (.ifCond .eq 10, 3) := by decide +kernel
theorem dX8_look_72 : decode cX8_look 72 = .ok (.iload 4, 2) := by decide +kernel
theorem dX8_look_74 : decode cX8_look 74 = .ok (.bipush (-4), 2) := by decide +kernel
theorem dX8_look_76 : decode cX8_look 76 = .ok (.if_icmp .ne 8, 3) := by decide +kernel
theorem dX8_look_79 : decode cX8_look 79 = .ok (.iload 4, 2) := by decide +kernel
theorem dX8_look_81 : decode cX8_look 81 = .ok (.goto 4, 3) := by decide +kernel
theorem dX8_look_84 : decode cX8_look 84 = .ok (.iload_n 3, 1) := by decide +kernel
theorem dX8_look_85 : decode cX8_look 85 = .ok (.ireturn, 1) := by decide +kernel
set_option maxRecDepth 20000 in
theorem ggX8_drift_X8_within : GoodIn wsX8_drift wsX8_within := goodIn_r _ [7] (by decide +kernel) (by decide +kernel)
set_option maxRecDepth 20000 in
theorem gX8_drift_X8_within : GoodIn wsX8_drift (va_wsS RX8 76 yX8_within wsX8_within) := goodIn_app (goodIn_of _ (by decide +kernel)) ggX8_drift_X8_within
set_option maxRecDepth 20000 in
theorem ggX8_drift_X2_copyFrom : GoodIn wsX8_drift wsX2_copyFrom := goodIn_r _ [12, 13, 14, 15, 16, 17, 18, 19, 20, 21, 22, 23, 24, 25, 26, 27, 28, 107, 108, 109, 110, 111, 112, 113, 114, 115, 116, 117, 118] (by decide +kernel) (by decide +kernel)
set_option maxRecDepth 20000 in
theorem gX8_drift_X2_copyFrom : GoodIn wsX8_drift (wsV RX8 95 RX2 yX2_copyFrom wsX2_copyFrom) := goodIn_app (goodIn_of _ (by decide +kernel)) ggX8_drift_X2_copyFrom
set_option maxRecDepth 20000 in
theorem ggX8_drift_X8_nextSeed : GoodIn wsX8_drift wsX8_nextSeed := goodIn_r _ [31, 32] (by decide +kernel) (by decide +kernel)
set_option maxRecDepth 20000 in
theorem gX8_drift_X8_nextSeed : GoodIn wsX8_drift (va_wsS RX8 256 yX8_nextSeed wsX8_nextSeed) := goodIn_app (goodIn_of _ (by decide +kernel)) ggX8_drift_X8_nextSeed
set_option maxRecDepth 20000 in
theorem ggX8_drift_X8_drawnOf : GoodIn wsX8_drift wsX8_drawnOf := goodIn_r _ [35] (by decide +kernel) (by decide +kernel)
set_option maxRecDepth 20000 in
theorem gX8_drift_X8_drawnOf : GoodIn wsX8_drift (va_wsS RX8 259 yX8_drawnOf wsX8_drawnOf) := goodIn_app (goodIn_of _ (by decide +kernel)) ggX8_drift_X8_drawnOf
set_option maxRecDepth 20000 in
theorem ggX8_drift_X0_run : GoodIn wsX8_drift wsX0_run := goodIn_r _ [40, 41, 42, 43, 44, 39, 45, 46, 47, 48, 49, 50, 11, 51, 25, 28, 52, 53, 54, 55, 18, 19, 56, 57, 58, 59, 60, 61, 62, 63, 64, 65, 66, 67, 68, 69, 70, 71, 20, 72, 73, 74, 75, 76, 77, 78, 79, 80, 81, 82, 119, 120, 121, 122, 123, 124, 125, 107, 108, 109, 110, 111, 112, 113, 114, 115, 116, 117, 118] (by decide +kernel) (by decide +kernel)
set_option maxRecDepth 20000 in
theorem gX8_drift_X0_run : GoodIn wsX8_drift (wsV RX8 171 RX0 yX0_run wsX0_run) := goodIn_app (goodIn_of _ (by decide +kernel)) ggX8_drift_X0_run
set_option maxRecDepth 20000 in
theorem ggX8_drift_X0_verdicts : GoodIn wsX8_drift wsX0_verdicts := goodIn_r _ [86, 87, 88, 89, 39, 90, 41, 91, 92, 93, 94, 63, 61, 62, 60, 72, 73, 74, 75, 76, 77, 78, 119, 120, 121, 122, 123, 124, 125] (by decide +kernel) (by decide +kernel)
set_option maxRecDepth 20000 in
theorem gX8_drift_X0_verdicts : GoodIn wsX8_drift (wsV RX8 180 RX0 yX0_verdicts wsX0_verdicts) := goodIn_app (goodIn_of _ (by decide +kernel)) ggX8_drift_X0_verdicts
set_option maxRecDepth 20000 in
theorem ggX8_drift_X0_whoHas : GoodIn wsX8_drift wsX0_whoHas := goodIn_r _ [90, 41, 91, 92, 93, 39, 94, 63, 61, 62, 60, 119, 120, 121, 122, 123, 124, 125] (by decide +kernel) (by decide +kernel)
set_option maxRecDepth 20000 in
theorem gX8_drift_X0_whoHas : GoodIn wsX8_drift (wsV RX8 183 RX0 yX0_whoHas wsX0_whoHas) := goodIn_app (goodIn_of _ (by decide +kernel)) ggX8_drift_X0_whoHas
theorem dX8_drift_0 : decode cX8_drift 0 = .ok (.iload_n 2, 1) := by decide +kernel
theorem dX8_drift_1 : decode cX8_drift 1 = .ok (.iconst 1, 1) := by decide +kernel
theorem dX8_drift_2 : decode cX8_drift 2 = .ok (.bipush 60, 2) := by decide +kernel
theorem dX8_drift_4 : decode cX8_drift 4 = .ok (.invokestatic 76, 3) := by decide +kernel
theorem dX8_drift_7 : decode cX8_drift 7 = .ok (.ifCond .eq 12, 3) := by decide +kernel
theorem dX8_drift_10 : decode cX8_drift 10 = .ok (.iload_n 3, 1) := by decide +kernel
theorem dX8_drift_11 : decode cX8_drift 11 = .ok (.iconst 0, 1) := by decide +kernel
theorem dX8_drift_12 : decode cX8_drift 12 = .ok (.iconst 1, 1) := by decide +kernel
theorem dX8_drift_13 : decode cX8_drift 13 = .ok (.invokestatic 76, 3) := by decide +kernel
theorem dX8_drift_16 : decode cX8_drift 16 = .ok (.ifCond .ne 5, 3) := by decide +kernel
theorem dX8_drift_19 : decode cX8_drift 19 = .ok (.iconst (-1), 1) := by decide +kernel
theorem dX8_drift_20 : decode cX8_drift 20 = .ok (.ireturn, 1) := by decide +kernel
theorem dX8_drift_21 : decode cX8_drift 21 = .ok (.aload_n 0, 1) := by decide +kernel
theorem dX8_drift_22 : decode cX8_drift 22 = .ok (.getfield 28, 3) := by decide +kernel
theorem dX8_drift_25 : decode cX8_drift 25 = .ok (.getfield 109, 3) := by decide +kernel
theorem dX8_drift_28 : decode cX8_drift 28 = .ok (.ifCond .eq 13, 3) := by decide +kernel
theorem dX8_drift_31 : decode cX8_drift 31 = .ok (.aload_n 0, 1) := by decide +kernel
theorem dX8_drift_32 : decode cX8_drift 32 = .ok (.getfield 28, 3) := by decide +kernel
theorem dX8_drift_35 : decode cX8_drift 35 = .ok (.getfield 106, 3) := by decide +kernel
theorem dX8_drift_38 : decode cX8_drift 38 = .ok (.ifCond .ne 6, 3) := by decide +kernel
theorem dX8_drift_41 : decode cX8_drift 41 = .ok (.bipush (-2), 2) := by decide +kernel
theorem dX8_drift_43 : decode cX8_drift 43 = .ok (.ireturn, 1) := by decide +kernel
theorem dX8_drift_44 : decode cX8_drift 44 = .ok (.aload_n 0, 1) := by decide +kernel
theorem dX8_drift_45 : decode cX8_drift 45 = .ok (.getfield 32, 3) := by decide +kernel
theorem dX8_drift_48 : decode cX8_drift 48 = .ok (.aload_n 0, 1) := by decide +kernel
theorem dX8_drift_49 : decode cX8_drift 49 = .ok (.getfield 28, 3) := by decide +kernel
theorem dX8_drift_52 : decode cX8_drift 52 = .ok (.invokevirtual 95, 3) := by decide +kernel
theorem dX8_drift_55 : decode cX8_drift 55 = .ok (.iload_n 1, 1) := by decide +kernel
theorem dX8_drift_56 : decode cX8_drift 56 = .ok (.istore 4, 2) := by decide +kernel
theorem dX8_drift_58 : decode cX8_drift 58 = .ok (.iconst 0, 1) := by decide +kernel
theorem dX8_drift_59 : decode cX8_drift 59 = .ok (.istore 5, 2) := by decide +kernel
theorem dX8_drift_61 : decode cX8_drift 61 = .ok (.iconst 0, 1) := by decide +kernel
theorem dX8_drift_62 : decode cX8_drift 62 = .ok (.istore 6, 2) := by decide +kernel
theorem dX8_drift_64 : decode cX8_drift 64 = .ok (.iload 6, 2) := by decide +kernel
theorem dX8_drift_66 : decode cX8_drift 66 = .ok (.iload_n 2, 1) := by decide +kernel
theorem dX8_drift_67 : decode cX8_drift 67 = .ok (.if_icmp .ge 84, 3) := by decide +kernel
theorem dX8_drift_70 : decode cX8_drift 70 = .ok (.iload 4, 2) := by decide +kernel
theorem dX8_drift_72 : decode cX8_drift 72 = .ok (.invokestatic 256, 3) := by decide +kernel
theorem dX8_drift_75 : decode cX8_drift 75 = .ok (.istore 4, 2) := by decide +kernel
theorem dX8_drift_77 : decode cX8_drift 77 = .ok (.iload 4, 2) := by decide +kernel
theorem dX8_drift_79 : decode cX8_drift 79 = .ok (.invokestatic 259, 3) := by decide +kernel
theorem dX8_drift_82 : decode cX8_drift 82 = .ok (.aload_n 0, 1) := by decide +kernel
theorem dX8_drift_83 : decode cX8_drift 83 = .ok (.getfield 28, 3) := by decide +kernel
theorem dX8_drift_86 : decode cX8_drift 86 = .ok (.getfield 109, 3) := by decide +kernel
theorem dX8_drift_89 : decode cX8_drift 89 = .ok (.irem, 1) := by decide +kernel
theorem dX8_drift_90 : decode cX8_drift 90 = .ok (.istore 7, 2) := by decide +kernel
theorem dX8_drift_92 : decode cX8_drift 92 = .ok (.iload 4, 2) := by decide +kernel
theorem dX8_drift_94 : decode cX8_drift 94 = .ok (.invokestatic 256, 3) := by decide +kernel
theorem dX8_drift_97 : decode cX8_drift 97 = .ok (.istore 4, 2) := by decide +kernel
theorem dX8_drift_99 : decode cX8_drift 99 = .ok (.aload_n 0, 1) := by decide +kernel
theorem dX8_drift_100 : decode cX8_drift 100 = .ok (.getfield 32, 3) := by decide +kernel
theorem dX8_drift_103 : decode cX8_drift 103 = .ok (.getfield 158, 3) := by decide +kernel
theorem dX8_drift_106 : decode cX8_drift 106 = .ok (.iload 7, 2) := by decide +kernel
theorem dX8_drift_108 : decode cX8_drift 108 = .ok (.iload 4, 2) := by decide +kernel
theorem dX8_drift_110 : decode cX8_drift 110 = .ok (.invokestatic 259, 3) := by decide +kernel
theorem dX8_drift_113 : decode cX8_drift 113 = .ok (.aload_n 0, 1) := by decide +kernel
theorem dX8_drift_114 : decode cX8_drift 114 = .ok (.getfield 28, 3) := by decide +kernel
theorem dX8_drift_117 : decode cX8_drift 117 = .ok (.getfield 106, 3) := by decide +kernel
theorem dX8_drift_120 : decode cX8_drift 120 = .ok (.irem, 1) := by decide +kernel
theorem dX8_drift_121 : decode cX8_drift 121 = .ok (.iastore, 1) := by decide +kernel
theorem dX8_drift_122 : decode cX8_drift 122 = .ok (.aload_n 0, 1) := by decide +kernel
theorem dX8_drift_123 : decode cX8_drift 123 = .ok (.getfield 38, 3) := by decide +kernel
theorem dX8_drift_126 : decode cX8_drift 126 = .ok (.aload_n 0, 1) := by decide +kernel
theorem dX8_drift_127 : decode cX8_drift 127 = .ok (.getfield 32, 3) := by decide +kernel
theorem dX8_drift_130 : decode cX8_drift 130 = .ok (.invokevirtual 171, 3) := by decide +kernel
theorem dX8_drift_133 : decode cX8_drift 133 = .ok (.iload 5, 2) := by decide +kernel
theorem dX8_drift_135 : decode cX8_drift 135 = .ok (.aload_n 0, 1) := by decide +kernel
theorem dX8_drift_136 : decode cX8_drift 136 = .ok (.getfield 38, 3) := by decide +kernel
theorem dX8_drift_139 : decode cX8_drift 139 = .ok (.invokevirtual 180, 3) := by decide +kernel
theorem dX8_drift_142 : decode cX8_drift 142 = .ok (.iadd, 1) := by decide +kernel
theorem dX8_drift_143 : decode cX8_drift 143 = .ok (.istore 5, 2) := by decide +kernel
theorem dX8_drift_145 : decode cX8_drift 145 = .ok (.iinc 6 1, 3) := by decide +kernel
theorem dX8_drift_148 : decode cX8_drift 148 = .ok (.goto (-84), 3) := by decide +kernel
theorem dX8_drift_151 : decode cX8_drift 151 = .ok (.iload_n 3, 1) := by decide +kernel
theorem dX8_drift_152 : decode cX8_drift 152 = .ok (.ifCond .ne 8, 3) := by decide +kernel
theorem dX8_drift_155 : decode cX8_drift 155 = .ok (.iload 5, 2) := by decide +kernel
theorem dX8_drift_157 : decode cX8_drift 157 = .ok (.goto 11, 3) := by decide +kernel
theorem dX8_drift_160 : decode cX8_drift 160 = .ok (.aload_n 0, 1) := by decide +kernel
theorem dX8_drift_161 : decode cX8_drift 161 = .ok (.getfield 38, 3) := by decide +kernel
theorem dX8_drift_164 : decode cX8_drift 164 = .ok (.iconst 0, 1) := by decide +kernel
theorem dX8_drift_165 : decode cX8_drift 165 = .ok (.invokevirtual 183, 3) := by decide +kernel
theorem dX8_drift_168 : decode cX8_drift 168 = .ok (.ireturn, 1) := by decide +kernel
set_option maxRecDepth 20000 in
theorem ggX8_keep_X8_within : GoodIn wsX8_keep wsX8_within := goodIn_r _ [7] (by decide +kernel) (by decide +kernel)
set_option maxRecDepth 20000 in
theorem gX8_keep_X8_within : GoodIn wsX8_keep (va_wsS RX8 76 yX8_within wsX8_within) := goodIn_app (goodIn_of _ (by decide +kernel)) ggX8_keep_X8_within
set_option maxRecDepth 20000 in
theorem ggX8_keep_X2_copyFrom : GoodIn wsX8_keep wsX2_copyFrom := goodIn_r _ [12, 13, 14, 15, 16, 17, 18, 19, 20, 21, 22, 23, 24, 25, 26, 27, 28, 52, 53, 54, 55, 56, 57, 58, 59, 60, 61, 62, 63] (by decide +kernel) (by decide +kernel)
set_option maxRecDepth 20000 in
theorem gX8_keep_X2_copyFrom : GoodIn wsX8_keep (wsV RX8 95 RX2 yX2_copyFrom wsX2_copyFrom) := goodIn_app (goodIn_of _ (by decide +kernel)) ggX8_keep_X2_copyFrom
set_option maxRecDepth 20000 in
theorem ggX8_keep_X5_copyFrom : GoodIn wsX8_keep wsX5_copyFrom := goodIn_r _ [33, 34, 35, 15, 16, 17, 36, 37, 64, 65, 66] (by decide +kernel) (by decide +kernel)
set_option maxRecDepth 20000 in
theorem gX8_keep_X5_copyFrom : GoodIn wsX8_keep (wsV RX8 264 RX5 yX5_copyFrom wsX5_copyFrom) := goodIn_app (goodIn_of _ (by decide +kernel)) ggX8_keep_X5_copyFrom
theorem dX8_keep_0 : decode cX8_keep 0 = .ok (.iload_n 1, 1) := by decide +kernel
theorem dX8_keep_1 : decode cX8_keep 1 = .ok (.iconst 0, 1) := by decide +kernel
theorem dX8_keep_2 : decode cX8_keep 2 = .ok (.iconst 1, 1) := by decide +kernel
theorem dX8_keep_3 : decode cX8_keep 3 = .ok (.invokestatic 76, 3) := by decide +kernel
theorem dX8_keep_6 : decode cX8_keep 6 = .ok (.ifCond .ne 5, 3) := by decide +kernel
theorem dX8_keep_9 : decode cX8_keep 9 = .ok (.iconst (-1), 1) := by decide +kernel
theorem dX8_keep_10 : decode cX8_keep 10 = .ok (.ireturn, 1) := by decide +kernel
theorem dX8_keep_11 : decode cX8_keep 11 = .ok (.aload_n 0, 1) := by decide +kernel
theorem dX8_keep_12 : decode cX8_keep 12 = .ok (.getfield 60, 3) := by decide +kernel
theorem dX8_keep_15 : decode cX8_keep 15 = .ok (.iload_n 1, 1) := by decide +kernel
theorem dX8_keep_16 : decode cX8_keep 16 = .ok (.aaload, 1) := by decide +kernel
theorem dX8_keep_17 : decode cX8_keep 17 = .ok (.astore_n 2, 1) := by decide +kernel
theorem dX8_keep_18 : decode cX8_keep 18 = .ok (.aload_n 2, 1) := by decide +kernel
theorem dX8_keep_19 : decode cX8_keep 19 = .ok (.getfield 102, 3) := by decide +kernel
theorem dX8_keep_22 : decode cX8_keep 22 = .ok (.ifCond .eq 7, 3) := by decide +kernel
theorem dX8_keep_25 : decode cX8_keep 25 = .ok (.iconst 1, 1) := by decide +kernel
theorem dX8_keep_26 : decode cX8_keep 26 = .ok (.goto 4, 3) := by decide +kernel
theorem dX8_keep_29 : decode cX8_keep 29 = .ok (.iconst 0, 1) := by decide +kernel
theorem dX8_keep_30 : decode cX8_keep 30 = .ok (.istore_n 3, 1) := by decide +kernel
theorem dX8_keep_31 : decode cX8_keep 31 = .ok (.aload_n 2, 1) := by decide +kernel
theorem dX8_keep_32 : decode cX8_keep 32 = .ok (.iconst 1, 1) := by decide +kernel
theorem dX8_keep_33 : decode cX8_keep 33 = .ok (.putfield 102, 3) := by decide +kernel
theorem dX8_keep_36 : decode cX8_keep 36 = .ok (.aload_n 2, 1) := by decide +kernel
theorem dX8_keep_37 : decode cX8_keep 37 = .ok (.getfield 262, 3) := by decide +kernel
theorem dX8_keep_40 : decode cX8_keep 40 = .ok (.aload_n 0, 1) := by decide +kernel
theorem dX8_keep_41 : decode cX8_keep 41 = .ok (.getfield 28, 3) := by decide +kernel
theorem dX8_keep_44 : decode cX8_keep 44 = .ok (.invokevirtual 95, 3) := by decide +kernel
theorem dX8_keep_47 : decode cX8_keep 47 = .ok (.aload_n 2, 1) := by decide +kernel
theorem dX8_keep_48 : decode cX8_keep 48 = .ok (.getfield 263, 3) := by decide +kernel
theorem dX8_keep_51 : decode cX8_keep 51 = .ok (.aload_n 0, 1) := by decide +kernel
theorem dX8_keep_52 : decode cX8_keep 52 = .ok (.getfield 54, 3) := by decide +kernel
theorem dX8_keep_55 : decode cX8_keep 55 = .ok (.invokevirtual 264, 3) := by decide +kernel
theorem dX8_keep_58 : decode cX8_keep 58 = .ok (.iload_n 3, 1) := by decide +kernel
theorem dX8_keep_59 : decode cX8_keep 59 = .ok (.ireturn, 1) := by decide +kernel
set_option maxRecDepth 20000 in
theorem ggX8_back_X8_within : GoodIn wsX8_back wsX8_within := goodIn_r _ [8] (by decide +kernel) (by decide +kernel)
set_option maxRecDepth 20000 in
theorem gX8_back_X8_within : GoodIn wsX8_back (va_wsS RX8 76 yX8_within wsX8_within) := goodIn_app (goodIn_of _ (by decide +kernel)) ggX8_back_X8_within
set_option maxRecDepth 20000 in
theorem ggX8_back_X2_copyFrom : GoodIn wsX8_back wsX2_copyFrom := goodIn_r _ [13, 14, 15, 16, 17, 18, 19, 20, 21, 22, 23, 24, 25, 26, 27, 28, 29, 112, 113, 114, 115, 116, 117, 118, 119, 120, 121, 122, 123] (by decide +kernel) (by decide +kernel)
set_option maxRecDepth 20000 in
theorem gX8_back_X2_copyFrom : GoodIn wsX8_back (wsV RX8 95 RX2 yX2_copyFrom wsX2_copyFrom) := goodIn_app (goodIn_of _ (by decide +kernel)) ggX8_back_X2_copyFrom
set_option maxRecDepth 20000 in
theorem ggX8_back_X5_copyFrom : GoodIn wsX8_back wsX5_copyFrom := goodIn_r _ [34, 35, 36, 16, 17, 18, 37, 38, 124, 125, 126] (by decide +kernel) (by decide +kernel)
set_option maxRecDepth 20000 in
theorem gX8_back_X5_copyFrom : GoodIn wsX8_back (wsV RX8 264 RX5 yX5_copyFrom wsX5_copyFrom) := goodIn_app (goodIn_of _ (by decide +kernel)) ggX8_back_X5_copyFrom
set_option maxRecDepth 20000 in
theorem ggX8_back_X0_run : GoodIn wsX8_back wsX0_run := goodIn_r _ [43, 44, 45, 46, 47, 42, 48, 49, 50, 51, 52, 53, 12, 54, 26, 29, 55, 56, 57, 58, 19, 20, 59, 60, 61, 62, 63, 64, 65, 66, 67, 68, 69, 70, 71, 72, 73, 74, 21, 75, 76, 77, 78, 79, 80, 81, 82, 83, 84, 85, 127, 128, 129, 130, 131, 132, 133, 112, 113, 114, 115, 116, 117, 118, 119, 120, 121, 122, 123] (by decide +kernel) (by decide +kernel)
set_option maxRecDepth 20000 in
theorem gX8_back_X0_run : GoodIn wsX8_back (wsV RX8 171 RX0 yX0_run wsX0_run) := goodIn_app (goodIn_of _ (by decide +kernel)) ggX8_back_X0_run
set_option maxRecDepth 20000 in
theorem ggX8_back_X0_verdicts : GoodIn wsX8_back wsX0_verdicts := goodIn_r _ [89, 90, 91, 92, 42, 93, 44, 94, 95, 96, 97, 66, 64, 65, 63, 75, 76, 77, 78, 79, 80, 81, 127, 128, 129, 130, 131, 132, 133] (by decide +kernel) (by decide +kernel)
set_option maxRecDepth 20000 in
theorem gX8_back_X0_verdicts : GoodIn wsX8_back (wsV RX8 180 RX0 yX0_verdicts wsX0_verdicts) := goodIn_app (goodIn_of _ (by decide +kernel)) ggX8_back_X0_verdicts
theorem dX8_back_0 : decode cX8_back 0 = .ok (.iload_n 1, 1) := by decide +kernel
theorem dX8_back_1 : decode cX8_back 1 = .ok (.iconst 0, 1) := by decide +kernel
theorem dX8_back_2 : decode cX8_back 2 = .ok (.iconst 1, 1) := by decide +kernel
theorem dX8_back_3 : decode cX8_back 3 = .ok (.invokestatic 76, 3) := by decide +kernel
theorem dX8_back_6 : decode cX8_back 6 = .ok (.ifCond .ne 5, 3) := by decide +kernel
theorem dX8_back_9 : decode cX8_back 9 = .ok (.iconst (-1), 1) := by decide +kernel
theorem dX8_back_10 : decode cX8_back 10 = .ok (.ireturn, 1) := by decide +kernel
theorem dX8_back_11 : decode cX8_back 11 = .ok (.aload_n 0, 1) := by decide +kernel
theorem dX8_back_12 : decode cX8_back 12 = .ok (.getfield 60, 3) := by decide +kernel
theorem dX8_back_15 : decode cX8_back 15 = .ok (.iload_n 1, 1) := by decide +kernel
theorem dX8_back_16 : decode cX8_back 16 = .ok (.aaload, 1) := by decide +kernel
theorem dX8_back_17 : decode cX8_back 17 = .ok (.astore_n 2, 1) := by decide +kernel
theorem dX8_back_18 : decode cX8_back 18 = .ok (.aload_n 2, 1) := by decide +kernel
theorem dX8_back_19 : decode cX8_back 19 = .ok (.getfield 102, 3) := by decide +kernel
theorem dX8_back_22 : decode cX8_back 22 = .ok (.ifCond .ne 6, 3) := by decide +kernel
theorem dX8_back_25 : decode cX8_back 25 = .ok (.bipush (-2), 2) := by decide +kernel
theorem dX8_back_27 : decode cX8_back 27 = .ok (.ireturn, 1) := by decide +kernel
theorem dX8_back_28 : decode cX8_back 28 = .ok (.aload_n 0, 1) := by decide +kernel
theorem dX8_back_29 : decode cX8_back 29 = .ok (.getfield 28, 3) := by decide +kernel
theorem dX8_back_32 : decode cX8_back 32 = .ok (.aload_n 2, 1) := by decide +kernel
theorem dX8_back_33 : decode cX8_back 33 = .ok (.getfield 262, 3) := by decide +kernel
theorem dX8_back_36 : decode cX8_back 36 = .ok (.invokevirtual 95, 3) := by decide +kernel
theorem dX8_back_39 : decode cX8_back 39 = .ok (.aload_n 0, 1) := by decide +kernel
theorem dX8_back_40 : decode cX8_back 40 = .ok (.getfield 54, 3) := by decide +kernel
theorem dX8_back_43 : decode cX8_back 43 = .ok (.aload_n 2, 1) := by decide +kernel
theorem dX8_back_44 : decode cX8_back 44 = .ok (.getfield 263, 3) := by decide +kernel
theorem dX8_back_47 : decode cX8_back 47 = .ok (.invokevirtual 264, 3) := by decide +kernel
theorem dX8_back_50 : decode cX8_back 50 = .ok (.aload_n 0, 1) := by decide +kernel
theorem dX8_back_51 : decode cX8_back 51 = .ok (.getfield 38, 3) := by decide +kernel
theorem dX8_back_54 : decode cX8_back 54 = .ok (.aload_n 0, 1) := by decide +kernel
theorem dX8_back_55 : decode cX8_back 55 = .ok (.getfield 28, 3) := by decide +kernel
theorem dX8_back_58 : decode cX8_back 58 = .ok (.invokevirtual 171, 3) := by decide +kernel
theorem dX8_back_61 : decode cX8_back 61 = .ok (.aload_n 0, 1) := by decide +kernel
theorem dX8_back_62 : decode cX8_back 62 = .ok (.getfield 38, 3) := by decide +kernel
theorem dX8_back_65 : decode cX8_back 65 = .ok (.invokevirtual 180, 3) := by decide +kernel
theorem dX8_back_68 : decode cX8_back 68 = .ok (.ireturn, 1) := by decide +kernel
set_option maxRecDepth 20000 in
theorem ggX8_sheet_X8_within : GoodIn wsX8_sheet wsX8_within := goodIn_r _ [5] (by decide +kernel) (by decide +kernel)
set_option maxRecDepth 20000 in
theorem gX8_sheet_X8_within : GoodIn wsX8_sheet (va_wsS RX8 76 yX8_within wsX8_within) := goodIn_app (goodIn_of _ (by decide +kernel)) ggX8_sheet_X8_within
set_option maxRecDepth 20000 in
theorem ggX8_sheet_X4_renew : GoodIn wsX8_sheet wsX4_renew := goodIn_r _ [10, 11, 12, 13, 14, 26, 27, 28, 29] (by decide +kernel) (by decide +kernel)
set_option maxRecDepth 20000 in
theorem gX8_sheet_X4_renew : GoodIn wsX8_sheet (wsV RX8 267 RX4 yX4_renew wsX4_renew) := goodIn_app (goodIn_of _ (by decide +kernel)) ggX8_sheet_X4_renew
theorem dX8_sheet_0 : decode cX8_sheet 0 = .ok (.iload_n 1, 1) := by decide +kernel
theorem dX8_sheet_1 : decode cX8_sheet 1 = .ok (.iconst 0, 1) := by decide +kernel
theorem dX8_sheet_2 : decode cX8_sheet 2 = .ok (.iconst 3, 1) := by decide +kernel
theorem dX8_sheet_3 : decode cX8_sheet 3 = .ok (.invokestatic 76, 3) := by decide +kernel
theorem dX8_sheet_6 : decode cX8_sheet 6 = .ok (.ifCond .eq 18, 3) := by decide +kernel
theorem dX8_sheet_9 : decode cX8_sheet 9 = .ok (.iload_n 2, 1) := by decide +kernel
theorem dX8_sheet_10 : decode cX8_sheet 10 = .ok (.iconst 0, 1) := by decide +kernel
theorem dX8_sheet_11 : decode cX8_sheet 11 = .ok (.iconst 2, 1) := by decide +kernel
theorem dX8_sheet_12 : decode cX8_sheet 12 = .ok (.invokestatic 76, 3) := by decide +kernel
theorem dX8_sheet_15 : decode cX8_sheet 15 = .ok (.ifCond .eq 9, 3) := by decide +kernel
theorem dX8_sheet_18 : decode cX8_sheet 18 = .ok (.iload_n 3, 1) := by decide +kernel
theorem dX8_sheet_19 : decode cX8_sheet 19 = .ok (.bipush 40, 2) := by decide +kernel
theorem dX8_sheet_21 : decode cX8_sheet 21 = .ok (.if_icmp .le 5, 3) := by decide +kernel
theorem dX8_sheet_24 : decode cX8_sheet 24 = .ok (.iconst (-1), 1) := by decide +kernel
theorem dX8_sheet_25 : decode cX8_sheet 25 = .ok (.ireturn, 1) := by decide +kernel
theorem dX8_sheet_26 : decode cX8_sheet 26 = .ok (.iload_n 3, 1) := by decide +kernel
theorem dX8_sheet_27 : decode cX8_sheet 27 = .ok (.ifCond .ge 6, 3) := by decide +kernel
theorem dX8_sheet_30 : decode cX8_sheet 30 = .ok (.bipush (-14), 2) := by decide +kernel
theorem dX8_sheet_32 : decode cX8_sheet 32 = .ok (.ireturn, 1) := by decide +kernel
theorem dX8_sheet_33 : decode cX8_sheet 33 = .ok (.aload_n 0, 1) := by decide +kernel
theorem dX8_sheet_34 : decode cX8_sheet 34 = .ok (.getfield 67, 3) := by decide +kernel
theorem dX8_sheet_37 : decode cX8_sheet 37 = .ok (.iload_n 1, 1) := by decide +kernel
theorem dX8_sheet_38 : decode cX8_sheet 38 = .ok (.aaload, 1) := by decide +kernel
theorem dX8_sheet_39 : decode cX8_sheet 39 = .ok (.iload_n 2, 1) := by decide +kernel
theorem dX8_sheet_40 : decode cX8_sheet 40 = .ok (.iload_n 3, 1) := by decide +kernel
theorem dX8_sheet_41 : decode cX8_sheet 41 = .ok (.invokevirtual 267, 3) := by decide +kernel
theorem dX8_sheet_44 : decode cX8_sheet 44 = .ok (.iconst 1, 1) := by decide +kernel
theorem dX8_sheet_45 : decode cX8_sheet 45 = .ok (.ireturn, 1) := by decide +kernel
set_option maxRecDepth 20000 in
theorem ggX8_lay_X8_within : GoodIn wsX8_lay wsX8_within := goodIn_r _ [5] (by decide +kernel) (by decide +kernel)
set_option maxRecDepth 20000 in
theorem gX8_lay_X8_within : GoodIn wsX8_lay (va_wsS RX8 76 yX8_within wsX8_within) := goodIn_app (goodIn_of _ (by decide +kernel)) ggX8_lay_X8_within
set_option maxRecDepth 20000 in
theorem ggX8_lay_X4_refusal : GoodIn wsX8_lay wsX4_refusal := goodIn_r _ [10, 11, 12, 13, 29, 30, 31, 32] (by decide +kernel) (by decide +kernel)
set_option maxRecDepth 20000 in
theorem gX8_lay_X4_refusal : GoodIn wsX8_lay (wsV RX8 274 RX4 yX4_refusal wsX4_refusal) := goodIn_app (goodIn_of _ (by decide +kernel)) ggX8_lay_X4_refusal
set_option maxRecDepth 20000 in
theorem ggX8_lay_X4_cutToLane : GoodIn wsX8_lay wsX4_cutToLane := goodIn_r _ [17, 12, 29, 30, 31, 32] (by decide +kernel) (by decide +kernel)
set_option maxRecDepth 20000 in
theorem gX8_lay_X4_cutToLane : GoodIn wsX8_lay (wsV RX8 280 RX4 yX4_cutToLane wsX4_cutToLane) := goodIn_app (goodIn_of _ (by decide +kernel)) ggX8_lay_X4_cutToLane
theorem dX8_lay_0 : decode cX8_lay 0 = .ok (.iload_n 1, 1) := by decide +kernel
theorem dX8_lay_1 : decode cX8_lay 1 = .ok (.iconst 0, 1) := by decide +kernel
theorem dX8_lay_2 : decode cX8_lay 2 = .ok (.iconst 3, 1) := by decide +kernel
theorem dX8_lay_3 : decode cX8_lay 3 = .ok (.invokestatic 76, 3) := by decide +kernel
theorem dX8_lay_6 : decode cX8_lay 6 = .ok (.ifCond .ne 5, 3) := by decide +kernel
theorem dX8_lay_9 : decode cX8_lay 9 = .ok (.iconst (-1), 1) := by decide +kernel
theorem dX8_lay_10 : decode cX8_lay 10 = .ok (.ireturn, 1) := by decide +kernel
theorem dX8_lay_11 : decode cX8_lay 11 = .ok (.aload_n 0, 1) := by decide +kernel
theorem dX8_lay_12 : decode cX8_lay 12 = .ok (.getfield 67, 3) := by decide +kernel
theorem dX8_lay_15 : decode cX8_lay 15 = .ok (.iload_n 1, 1) := by decide +kernel
theorem dX8_lay_16 : decode cX8_lay 16 = .ok (.aaload, 1) := by decide +kernel
theorem dX8_lay_17 : decode cX8_lay 17 = .ok (.astore 4, 2) := by decide +kernel
theorem dX8_lay_19 : decode cX8_lay 19 = .ok (.aload 4, 2) := by decide +kernel
theorem dX8_lay_21 : decode cX8_lay 21 = .ok (.aload 4, 2) := by decide +kernel
theorem dX8_lay_23 : decode cX8_lay 23 = .ok (.getfield 271, 3) := by decide +kernel
theorem dX8_lay_26 : decode cX8_lay 26 = .ok (.iload_n 2, 1) := by decide +kernel
theorem dX8_lay_27 : decode cX8_lay 27 = .ok (.invokevirtual 274, 3) := by decide +kernel
theorem dX8_lay_30 : decode cX8_lay 30 = .ok (.istore 5, 2) := by decide +kernel
theorem dX8_lay_32 : decode cX8_lay 32 = .ok (.iload 5, 2) := by decide +kernel
theorem dX8_lay_34 : decode cX8_lay 34 = .ok (.ifCond .eq 9, 3) := by decide +kernel
theorem dX8_lay_37 : decode cX8_lay 37 = .ok (.bipush (-10), 2) := by decide +kernel
theorem dX8_lay_39 : decode cX8_lay 39 = .ok (.iload 5, 2) := by decide +kernel
theorem dX8_lay_41 : decode cX8_lay 41 = .ok (.isub, 1) := by decide +kernel
theorem dX8_lay_42 : decode cX8_lay 42 = .ok (.ireturn, 1) := by decide +kernel
theorem dX8_lay_43 : decode cX8_lay 43 = .ok (.aload 4, 2) := by decide +kernel
theorem dX8_lay_45 : decode cX8_lay 45 = .ok (.getfield 277, 3) := by decide +kernel
theorem dX8_lay_48 : decode cX8_lay 48 = .ok (.iload_n 2, 1) := by decide +kernel
theorem dX8_lay_49 : decode cX8_lay 49 = .ok (.aload 4, 2) := by decide +kernel
theorem dX8_lay_51 : decode cX8_lay 51 = .ok (.iload_n 3, 1) := by decide +kernel
theorem dX8_lay_52 : decode cX8_lay 52 = .ok (.invokevirtual 280, 3) := by decide +kernel
theorem dX8_lay_55 : decode cX8_lay 55 = .ok (.iastore, 1) := by decide +kernel
theorem dX8_lay_56 : decode cX8_lay 56 = .ok (.iconst 1, 1) := by decide +kernel
theorem dX8_lay_57 : decode cX8_lay 57 = .ok (.ireturn, 1) := by decide +kernel
set_option maxRecDepth 20000 in
theorem ggX8_read_X8_within : GoodIn wsX8_read wsX8_within := goodIn_r _ [8] (by decide +kernel) (by decide +kernel)
set_option maxRecDepth 20000 in
theorem gX8_read_X8_within : GoodIn wsX8_read (va_wsS RX8 76 yX8_within wsX8_within) := goodIn_app (goodIn_of _ (by decide +kernel)) ggX8_read_X8_within
set_option maxRecDepth 20000 in
theorem ggX8_read_X2_copyFrom : GoodIn wsX8_read wsX2_copyFrom := goodIn_r _ [13, 14, 15, 16, 17, 18, 19, 20, 21, 22, 23, 24, 25, 26, 27, 28, 29, 65, 66, 67, 68, 69, 70, 71, 72, 73, 74, 75, 76] (by decide +kernel) (by decide +kernel)
set_option maxRecDepth 20000 in
theorem gX8_read_X2_copyFrom : GoodIn wsX8_read (wsV RX8 95 RX2 yX2_copyFrom wsX2_copyFrom) := goodIn_app (goodIn_of _ (by decide +kernel)) ggX8_read_X2_copyFrom
set_option maxRecDepth 20000 in
theorem ggX8_read_X4_refusalOfPair : GoodIn wsX8_read wsX4_refusalOfPair := goodIn_r _ [34, 35, 36, 37, 33, 38, 39, 40, 41, 61, 62, 63, 64] (by decide +kernel) (by decide +kernel)
set_option maxRecDepth 20000 in
theorem gX8_read_X4_refusalOfPair : GoodIn wsX8_read (wsV RX8 283 RX4 yX4_refusalOfPair wsX4_refusalOfPair) := goodIn_app (goodIn_of _ (by decide +kernel)) ggX8_read_X4_refusalOfPair
set_option maxRecDepth 20000 in
theorem ggX8_read_X2_hasParty : GoodIn wsX8_read wsX2_hasParty := goodIn_r _ [45, 27, 65, 66, 67, 68, 69, 70, 71, 72, 73, 74, 75, 76] (by decide +kernel) (by decide +kernel)
set_option maxRecDepth 20000 in
theorem gX8_read_X2_hasParty : GoodIn wsX8_read (wsV RX8 139 RX2 yX2_hasParty wsX2_hasParty) := goodIn_app (goodIn_of _ (by decide +kernel)) ggX8_read_X2_hasParty
set_option maxRecDepth 20000 in
theorem ggX8_read_X2_hasMile : GoodIn wsX8_read wsX2_hasMile := goodIn_r _ [49, 26, 65, 66, 67, 68, 69, 70, 71, 72, 73, 74, 75, 76] (by decide +kernel) (by decide +kernel)
set_option maxRecDepth 20000 in
theorem gX8_read_X2_hasMile : GoodIn wsX8_read (wsV RX8 125 RX2 yX2_hasMile wsX2_hasMile) := goodIn_app (goodIn_of _ (by decide +kernel)) ggX8_read_X2_hasMile
theorem dX8_read_0 : decode cX8_read 0 = .ok (.iload_n 1, 1) := by decide +kernel
theorem dX8_read_1 : decode cX8_read 1 = .ok (.iconst 0, 1) := by decide +kernel
theorem dX8_read_2 : decode cX8_read 2 = .ok (.iconst 3, 1) := by decide +kernel
theorem dX8_read_3 : decode cX8_read 3 = .ok (.invokestatic 76, 3) := by decide +kernel
theorem dX8_read_6 : decode cX8_read 6 = .ok (.ifCond .eq 23, 3) := by decide +kernel
theorem dX8_read_9 : decode cX8_read 9 = .ok (.iload_n 2, 1) := by decide +kernel
theorem dX8_read_10 : decode cX8_read 10 = .ok (.iconst 0, 1) := by decide +kernel
theorem dX8_read_11 : decode cX8_read 11 = .ok (.iconst 2, 1) := by decide +kernel
theorem dX8_read_12 : decode cX8_read 12 = .ok (.invokestatic 76, 3) := by decide +kernel
theorem dX8_read_15 : decode cX8_read 15 = .ok (.ifCond .eq 14, 3) := by decide +kernel
theorem dX8_read_18 : decode cX8_read 18 = .ok (.iload 4, 2) := by decide +kernel
theorem dX8_read_20 : decode cX8_read 20 = .ok (.iconst 0, 1) := by decide +kernel
theorem dX8_read_21 : decode cX8_read 21 = .ok (.bipush 20, 2) := by decide +kernel
theorem dX8_read_23 : decode cX8_read 23 = .ok (.invokestatic 76, 3) := by decide +kernel
theorem dX8_read_26 : decode cX8_read 26 = .ok (.ifCond .ne 5, 3) := by decide +kernel
theorem dX8_read_29 : decode cX8_read 29 = .ok (.iconst (-1), 1) := by decide +kernel
theorem dX8_read_30 : decode cX8_read 30 = .ok (.ireturn, 1) := by decide +kernel
theorem dX8_read_31 : decode cX8_read 31 = .ok (.aload_n 0, 1) := by decide +kernel
theorem dX8_read_32 : decode cX8_read 32 = .ok (.getfield 67, 3) := by decide +kernel
theorem dX8_read_35 : decode cX8_read 35 = .ok (.iload_n 1, 1) := by decide +kernel
theorem dX8_read_36 : decode cX8_read 36 = .ok (.aaload, 1) := by decide +kernel
theorem dX8_read_37 : decode cX8_read 37 = .ok (.astore 5, 2) := by decide +kernel
theorem dX8_read_39 : decode cX8_read 39 = .ok (.aload_n 0, 1) := by decide +kernel
theorem dX8_read_40 : decode cX8_read 40 = .ok (.getfield 32, 3) := by decide +kernel
theorem dX8_read_43 : decode cX8_read 43 = .ok (.aload_n 0, 1) := by decide +kernel
theorem dX8_read_44 : decode cX8_read 44 = .ok (.getfield 28, 3) := by decide +kernel
theorem dX8_read_47 : decode cX8_read 47 = .ok (.invokevirtual 95, 3) := by decide +kernel
theorem dX8_read_50 : decode cX8_read 50 = .ok (.iconst 0, 1) := by decide +kernel
theorem dX8_read_51 : decode cX8_read 51 = .ok (.istore 6, 2) := by decide +kernel
theorem dX8_read_53 : decode cX8_read 53 = .ok (.iconst 0, 1) := by decide +kernel
theorem dX8_read_54 : decode cX8_read 54 = .ok (.istore 7, 2) := by decide +kernel
theorem dX8_read_56 : decode cX8_read 56 = .ok (.iload 6, 2) := by decide +kernel
theorem dX8_read_58 : decode cX8_read 58 = .ok (.iload 4, 2) := by decide +kernel
theorem dX8_read_60 : decode cX8_read 60 = .ok (.if_icmp .ge 101, 3) := by decide +kernel
theorem dX8_read_63 : decode cX8_read 63 = .ok (.iload 7, 2) := by decide +kernel
theorem dX8_read_65 : decode cX8_read 65 = .ok (.ifCond .ne 96, 3) := by decide +kernel
theorem dX8_read_68 : decode cX8_read 68 = .ok (.iload_n 3, 1) := by decide +kernel
theorem dX8_read_69 : decode cX8_read 69 = .ok (.iconst 2, 1) := by decide +kernel
theorem dX8_read_70 : decode cX8_read 70 = .ok (.iload 6, 2) := by decide +kernel
theorem dX8_read_72 : decode cX8_read 72 = .ok (.imul, 1) := by decide +kernel
theorem dX8_read_73 : decode cX8_read 73 = .ok (.iadd, 1) := by decide +kernel
theorem dX8_read_74 : decode cX8_read 74 = .ok (.istore 8, 2) := by decide +kernel
theorem dX8_read_76 : decode cX8_read 76 = .ok (.aload 5, 2) := by decide +kernel
theorem dX8_read_78 : decode cX8_read 78 = .ok (.iload_n 2, 1) := by decide +kernel
theorem dX8_read_79 : decode cX8_read 79 = .ok (.iload 8, 2) := by decide +kernel
theorem dX8_read_81 : decode cX8_read 81 = .ok (.invokevirtual 283, 3) := by decide +kernel
theorem dX8_read_84 : decode cX8_read 84 = .ok (.istore 7, 2) := by decide +kernel
theorem dX8_read_86 : decode cX8_read 86 = .ok (.iload 7, 2) := by decide +kernel
theorem dX8_read_88 : decode cX8_read 88 = .ok (.ifCond .ne 70, 3) := by decide +kernel
theorem dX8_read_91 : decode cX8_read 91 = .ok (.aload 5, 2) := by decide +kernel
theorem dX8_read_93 : decode cX8_read 93 = .ok (.getfield 277, 3) := by decide +kernel
theorem dX8_read_96 : decode cX8_read 96 = .ok (.iload 8, 2) := by decide +kernel
theorem dX8_read_98 : decode cX8_read 98 = .ok (.iaload, 1) := by decide +kernel
theorem dX8_read_99 : decode cX8_read 99 = .ok (.istore 9, 2) := by decide +kernel
theorem dX8_read_101 : decode cX8_read 101 = .ok (.aload 5, 2) := by decide +kernel
theorem dX8_read_103 : decode cX8_read 103 = .ok (.getfield 277, 3) := by decide +kernel
theorem dX8_read_106 : decode cX8_read 106 = .ok (.iload 8, 2) := by decide +kernel
theorem dX8_read_108 : decode cX8_read 108 = .ok (.iconst 1, 1) := by decide +kernel
theorem dX8_read_109 : decode cX8_read 109 = .ok (.iadd, 1) := by decide +kernel
theorem dX8_read_110 : decode cX8_read 110 = .ok (.iaload, 1) := by decide +kernel
theorem dX8_read_111 : decode cX8_read 111 = .ok (.istore 10, 2) := by decide +kernel
theorem dX8_read_113 : decode cX8_read 113 = .ok (.aload_n 0, 1) := by decide +kernel
theorem dX8_read_114 : decode cX8_read 114 = .ok (.getfield 32, 3) := by decide +kernel
theorem dX8_read_117 : decode cX8_read 117 = .ok (.iload 9, 2) := by decide +kernel
theorem dX8_read_119 : decode cX8_read 119 = .ok (.invokevirtual 139, 3) := by decide +kernel
theorem dX8_read_122 : decode cX8_read 122 = .ok (.ifCond .eq 15, 3) := by decide +kernel
theorem dX8_read_125 : decode cX8_read 125 = .ok (.aload_n 0, 1) := by decide +kernel
theorem dX8_read_126 : decode cX8_read 126 = .ok (.getfield 32, 3) := by decide +kernel
theorem dX8_read_129 : decode cX8_read 129 = .ok (.iload 10, 2) := by decide +kernel
theorem dX8_read_131 : decode cX8_read 131 = .ok (.invokevirtual 125, 3) := by decide +kernel
theorem dX8_read_134 : decode cX8_read 134 = .ok (.ifCond .ne 9, 3) := by decide +kernel
theorem dX8_read_137 : decode cX8_read 137 = .ok (.bipush (-20), 2) := by decide +kernel
theorem dX8_read_139 : decode cX8_read 139 = .ok (.iload 6, 2) := by decide +kernel
theorem dX8_read_141 : decode cX8_read 141 = .ok (.isub, 1) := by decide +kernel
theorem dX8_read_142 : decode cX8_read 142 = .ok (.ireturn, 1) := by decide +kernel
theorem dX8_read_143 : decode cX8_read 143 = .ok (.aload_n 0, 1) := by decide +kernel
theorem dX8_read_144 : decode cX8_read 144 = .ok (.getfield 32, 3) := by decide +kernel
theorem dX8_read_147 : decode cX8_read 147 = .ok (.getfield 158, 3) := by decide +kernel
theorem dX8_read_150 : decode cX8_read 150 = .ok (.iload 9, 2) := by decide +kernel
theorem dX8_read_152 : decode cX8_read 152 = .ok (.iload 10, 2) := by decide +kernel
theorem dX8_read_154 : decode cX8_read 154 = .ok (.iastore, 1) := by decide +kernel
theorem dX8_read_155 : decode cX8_read 155 = .ok (.iinc 6 1, 3) := by decide +kernel
theorem dX8_read_158 : decode cX8_read 158 = .ok (.goto (-102), 3) := by decide +kernel
theorem dX8_read_161 : decode cX8_read 161 = .ok (.aload_n 0, 1) := by decide +kernel
theorem dX8_read_162 : decode cX8_read 162 = .ok (.getfield 28, 3) := by decide +kernel
theorem dX8_read_165 : decode cX8_read 165 = .ok (.aload_n 0, 1) := by decide +kernel
theorem dX8_read_166 : decode cX8_read 166 = .ok (.getfield 32, 3) := by decide +kernel
theorem dX8_read_169 : decode cX8_read 169 = .ok (.invokevirtual 95, 3) := by decide +kernel
theorem dX8_read_172 : decode cX8_read 172 = .ok (.aload_n 0, 1) := by decide +kernel
theorem dX8_read_173 : decode cX8_read 173 = .ok (.iload 7, 2) := by decide +kernel
theorem dX8_read_175 : decode cX8_read 175 = .ok (.putfield 286, 3) := by decide +kernel
theorem dX8_read_178 : decode cX8_read 178 = .ok (.iload 6, 2) := by decide +kernel
theorem dX8_read_180 : decode cX8_read 180 = .ok (.ireturn, 1) := by decide +kernel
theorem dX8_torn_0 : decode cX8_torn 0 = .ok (.aload_n 0, 1) := by decide +kernel
theorem dX8_torn_1 : decode cX8_torn 1 = .ok (.getfield 286, 3) := by decide +kernel
theorem dX8_torn_4 : decode cX8_torn 4 = .ok (.ireturn, 1) := by decide +kernel
set_option maxRecDepth 20000 in
theorem ggX8_count_X2_muddyMiles : GoodIn wsX8_count wsX2_muddyMiles := goodIn_r _ [9, 10, 11, 49, 50, 51, 52, 53, 54, 55, 56, 57, 58, 59, 60] (by decide +kernel) (by decide +kernel)
set_option maxRecDepth 20000 in
theorem gX8_count_X2_muddyMiles : GoodIn wsX8_count (wsV RX8 289 RX2 yX2_muddyMiles wsX2_muddyMiles) := goodIn_app (goodIn_of _ (by decide +kernel)) ggX8_count_X2_muddyMiles
set_option maxRecDepth 20000 in
theorem ggX8_count_X8_imagesThere : GoodIn wsX8_count wsX8_imagesThere := goodIn_r _ [16, 17, 24, 25, 26, 27, 28, 29, 30, 31, 32, 33, 34, 61, 62, 63] (by decide +kernel) (by decide +kernel)
set_option maxRecDepth 20000 in
theorem gX8_count_X8_imagesThere : GoodIn wsX8_count (wsV RX8 292 RX8 yX8_imagesThere wsX8_imagesThere) := goodIn_app (goodIn_of _ (by decide +kernel)) ggX8_count_X8_imagesThere
set_option maxRecDepth 20000 in
theorem ggX8_count_X2_windOfAll : GoodIn wsX8_count wsX2_windOfAll := goodIn_r _ [21, 22, 23, 49, 50, 51, 52, 53, 54, 55, 56, 57, 58, 59, 60] (by decide +kernel) (by decide +kernel)
set_option maxRecDepth 20000 in
theorem gX8_count_X2_windOfAll : GoodIn wsX8_count (wsV RX8 299 RX2 yX2_windOfAll wsX2_windOfAll) := goodIn_app (goodIn_of _ (by decide +kernel)) ggX8_count_X2_windOfAll
theorem dX8_count_0 : decode cX8_count 0 = .ok (.iload_n 1, 1) := by decide +kernel
theorem dX8_count_1 : decode cX8_count 1 = .ok (.tableswitch 103 0 5 #[39, 47, 55, 60, 68, 95], 39) := by decide +kernel
theorem dX8_count_40 : decode cX8_count 40 = .ok (.aload_n 0, 1) := by decide +kernel
theorem dX8_count_41 : decode cX8_count 41 = .ok (.getfield 28, 3) := by decide +kernel
theorem dX8_count_44 : decode cX8_count 44 = .ok (.invokevirtual 289, 3) := by decide +kernel
theorem dX8_count_47 : decode cX8_count 47 = .ok (.ireturn, 1) := by decide +kernel
theorem dX8_count_48 : decode cX8_count 48 = .ok (.aload_n 0, 1) := by decide +kernel
theorem dX8_count_49 : decode cX8_count 49 = .ok (.getfield 54, 3) := by decide +kernel
theorem dX8_count_52 : decode cX8_count 52 = .ok (.getfield 99, 3) := by decide +kernel
theorem dX8_count_55 : decode cX8_count 55 = .ok (.ireturn, 1) := by decide +kernel
theorem dX8_count_56 : decode cX8_count 56 = .ok (.aload_n 0, 1) := by decide +kernel
theorem dX8_count_57 : decode cX8_count 57 = .ok (.invokevirtual 292, 3) := by decide +kernel
theorem dX8_count_60 : decode cX8_count 60 = .ok (.ireturn, 1) := by decide +kernel
theorem dX8_count_61 : decode cX8_count 61 = .ok (.aload_n 0, 1) := by decide +kernel
theorem dX8_count_62 : decode cX8_count 62 = .ok (.getfield 10, 3) := by decide +kernel
theorem dX8_count_65 : decode cX8_count 65 = .ok (.getfield 84, 3) := by decide +kernel
theorem dX8_count_68 : decode cX8_count 68 = .ok (.ireturn, 1) := by decide +kernel
theorem dX8_count_69 : decode cX8_count 69 = .ok (.aload_n 0, 1) := by decide +kernel
theorem dX8_count_70 : decode cX8_count 70 = .ok (.getfield 67, 3) := by decide +kernel
theorem dX8_count_73 : decode cX8_count 73 = .ok (.iconst 0, 1) := by decide +kernel
theorem dX8_count_74 : decode cX8_count 74 = .ok (.aaload, 1) := by decide +kernel
theorem dX8_count_75 : decode cX8_count 75 = .ok (.getfield 295, 3) := by decide +kernel
theorem dX8_count_78 : decode cX8_count 78 = .ok (.ifCond .eq 15, 3) := by decide +kernel
theorem dX8_count_81 : decode cX8_count 81 = .ok (.aload_n 0, 1) := by decide +kernel
theorem dX8_count_82 : decode cX8_count 82 = .ok (.getfield 67, 3) := by decide +kernel
theorem dX8_count_85 : decode cX8_count 85 = .ok (.iconst 0, 1) := by decide +kernel
theorem dX8_count_86 : decode cX8_count 86 = .ok (.aaload, 1) := by decide +kernel
theorem dX8_count_87 : decode cX8_count 87 = .ok (.getfield 296, 3) := by decide +kernel
theorem dX8_count_90 : decode cX8_count 90 = .ok (.goto 5, 3) := by decide +kernel
theorem dX8_count_93 : decode cX8_count 93 = .ok (.bipush (-4), 2) := by decide +kernel
theorem dX8_count_95 : decode cX8_count 95 = .ok (.ireturn, 1) := by decide +kernel
theorem dX8_count_96 : decode cX8_count 96 = .ok (.aload_n 0, 1) := by decide +kernel
theorem dX8_count_97 : decode cX8_count 97 = .ok (.getfield 28, 3) := by decide +kernel
theorem dX8_count_100 : decode cX8_count 100 = .ok (.invokevirtual 299, 3) := by decide +kernel
theorem dX8_count_103 : decode cX8_count 103 = .ok (.ireturn, 1) := by decide +kernel
theorem dX8_count_104 : decode cX8_count 104 = .ok (.iconst (-1), 1) := by decide +kernel
theorem dX8_count_105 : decode cX8_count 105 = .ok (.ireturn, 1) := by decide +kernel
theorem dX8_within_0 : decode cX8_within 0 = .ok (.iload_n 0, 1) := by decide +kernel
theorem dX8_within_1 : decode cX8_within 1 = .ok (.iload_n 1, 1) := by decide +kernel
theorem dX8_within_2 : decode cX8_within 2 = .ok (.if_icmp .lt 12, 3) := by decide +kernel
theorem dX8_within_5 : decode cX8_within 5 = .ok (.iload_n 0, 1) := by decide +kernel
theorem dX8_within_6 : decode cX8_within 6 = .ok (.iload_n 2, 1) := by decide +kernel
theorem dX8_within_7 : decode cX8_within 7 = .ok (.if_icmp .gt 7, 3) := by decide +kernel
theorem dX8_within_10 : decode cX8_within 10 = .ok (.iconst 1, 1) := by decide +kernel
theorem dX8_within_11 : decode cX8_within 11 = .ok (.goto 4, 3) := by decide +kernel
theorem dX8_within_14 : decode cX8_within 14 = .ok (.iconst 0, 1) := by decide +kernel
theorem dX8_within_15 : decode cX8_within 15 = .ok (.ireturn, 1) := by decide +kernel
set_option maxRecDepth 20000 in
theorem ggX8_verdictFrom_X2_copyFrom : GoodIn wsX8_verdictFrom wsX2_copyFrom := goodIn_r _ [8, 9, 10, 11, 12, 13, 14, 15, 16, 17, 18, 19, 20, 21, 22, 23, 24, 83, 84, 85, 86, 87, 88, 89, 90, 91, 92, 93, 94] (by decide +kernel) (by decide +kernel)
set_option maxRecDepth 20000 in
theorem gX8_verdictFrom_X2_copyFrom : GoodIn wsX8_verdictFrom (wsV RX8 95 RX2 yX2_copyFrom wsX2_copyFrom) := goodIn_app (goodIn_of _ (by decide +kernel)) ggX8_verdictFrom_X2_copyFrom
set_option maxRecDepth 20000 in
theorem ggX8_verdictFrom_X0_run : GoodIn wsX8_verdictFrom wsX0_run := goodIn_r _ [29, 30, 31, 32, 33, 28, 34, 35, 36, 37, 38, 39, 7, 40, 21, 24, 41, 42, 43, 44, 14, 15, 45, 46, 47, 48, 49, 50, 51, 52, 53, 54, 55, 56, 57, 58, 59, 60, 16, 61, 62, 63, 64, 65, 66, 67, 68, 69, 70, 71, 95, 96, 97, 98, 99, 100, 101, 83, 84, 85, 86, 87, 88, 89, 90, 91, 92, 93, 94] (by decide +kernel) (by decide +kernel)
set_option maxRecDepth 20000 in
theorem gX8_verdictFrom_X0_run : GoodIn wsX8_verdictFrom (wsV RX8 171 RX0 yX0_run wsX0_run) := goodIn_app (goodIn_of _ (by decide +kernel)) ggX8_verdictFrom_X0_run
theorem dX8_verdictFrom_0 : decode cX8_verdictFrom 0 = .ok (.aload_n 0, 1) := by decide +kernel
theorem dX8_verdictFrom_1 : decode cX8_verdictFrom 1 = .ok (.getfield 32, 3) := by decide +kernel
theorem dX8_verdictFrom_4 : decode cX8_verdictFrom 4 = .ok (.aload_n 0, 1) := by decide +kernel
theorem dX8_verdictFrom_5 : decode cX8_verdictFrom 5 = .ok (.getfield 28, 3) := by decide +kernel
theorem dX8_verdictFrom_8 : decode cX8_verdictFrom 8 = .ok (.invokevirtual 95, 3) := by decide +kernel
theorem dX8_verdictFrom_11 : decode cX8_verdictFrom 11 = .ok (.aload_n 0, 1) := by decide +kernel
theorem dX8_verdictFrom_12 : decode cX8_verdictFrom 12 = .ok (.getfield 32, 3) := by decide +kernel
theorem dX8_verdictFrom_15 : decode cX8_verdictFrom 15 = .ok (.getfield 158, 3) := by decide +kernel
theorem dX8_verdictFrom_18 : decode cX8_verdictFrom 18 = .ok (.iload_n 1, 1) := by decide +kernel
theorem dX8_verdictFrom_19 : decode cX8_verdictFrom 19 = .ok (.iload_n 2, 1) := by decide +kernel
theorem dX8_verdictFrom_20 : decode cX8_verdictFrom 20 = .ok (.iastore, 1) := by decide +kernel
theorem dX8_verdictFrom_21 : decode cX8_verdictFrom 21 = .ok (.aload_n 0, 1) := by decide +kernel
theorem dX8_verdictFrom_22 : decode cX8_verdictFrom 22 = .ok (.getfield 38, 3) := by decide +kernel
theorem dX8_verdictFrom_25 : decode cX8_verdictFrom 25 = .ok (.aload_n 0, 1) := by decide +kernel
theorem dX8_verdictFrom_26 : decode cX8_verdictFrom 26 = .ok (.getfield 32, 3) := by decide +kernel
theorem dX8_verdictFrom_29 : decode cX8_verdictFrom 29 = .ok (.invokevirtual 171, 3) := by decide +kernel
theorem dX8_verdictFrom_32 : decode cX8_verdictFrom 32 = .ok (.aload_n 0, 1) := by decide +kernel
theorem dX8_verdictFrom_33 : decode cX8_verdictFrom 33 = .ok (.getfield 38, 3) := by decide +kernel
theorem dX8_verdictFrom_36 : decode cX8_verdictFrom 36 = .ok (.getfield 302, 3) := by decide +kernel
theorem dX8_verdictFrom_39 : decode cX8_verdictFrom 39 = .ok (.iload_n 1, 1) := by decide +kernel
theorem dX8_verdictFrom_40 : decode cX8_verdictFrom 40 = .ok (.iaload, 1) := by decide +kernel
theorem dX8_verdictFrom_41 : decode cX8_verdictFrom 41 = .ok (.ireturn, 1) := by decide +kernel
set_option maxRecDepth 20000 in
theorem ggX8_soonestStone_X8_verdictFrom : GoodIn wsX8_soonestStone wsX8_verdictFrom := goodIn_r _ [6, 7, 1, 8, 9, 10, 11, 12, 13, 14, 15, 16, 17, 18, 19, 20, 21, 22, 23, 24, 25, 26, 27, 28, 29, 30, 31, 32, 33, 34, 35, 36, 37, 38, 39, 40, 41, 42, 43, 44, 45, 46, 47, 48, 49, 50, 51, 52, 53, 54, 55, 56, 57, 58, 59, 60, 61, 62, 63, 64, 65, 66, 67, 68, 69, 70, 71, 72, 73, 74, 75, 76, 77, 78, 79, 80, 81, 82, 83, 84, 85, 86, 87, 88, 89, 90, 91, 92, 93, 94, 95, 96, 97, 98, 99, 100, 101, 102, 103, 104, 105, 106] (by decide +kernel) (by decide +kernel)
set_option maxRecDepth 20000 in
theorem gX8_soonestStone_X8_verdictFrom : GoodIn wsX8_soonestStone (wsV RX8 204 RX8 yX8_verdictFrom wsX8_verdictFrom) := goodIn_app (goodIn_of _ (by decide +kernel)) ggX8_soonestStone_X8_verdictFrom
theorem dX8_soonestStone_0 : decode cX8_soonestStone 0 = .ok (.bipush 8, 2) := by decide +kernel
theorem dX8_soonestStone_2 : decode cX8_soonestStone 2 = .ok (.istore_n 2, 1) := by decide +kernel
theorem dX8_soonestStone_3 : decode cX8_soonestStone 3 = .ok (.bipush (-4), 2) := by decide +kernel
theorem dX8_soonestStone_5 : decode cX8_soonestStone 5 = .ok (.istore_n 3, 1) := by decide +kernel
theorem dX8_soonestStone_6 : decode cX8_soonestStone 6 = .ok (.iconst 0, 1) := by decide +kernel
theorem dX8_soonestStone_7 : decode cX8_soonestStone 7 = .ok (.istore 4, 2) := by decide +kernel
theorem dX8_soonestStone_9 : decode cX8_soonestStone 9 = .ok (.iload 4, 2) := by decide +kernel
theorem dX8_soonestStone_11 : decode cX8_soonestStone 11 = .ok (.aload_n 0, 1) := by decide +kernel
theorem dX8_soonestStone_12 : decode cX8_soonestStone 12 = .ok (.getfield 28, 3) := by decide +kernel
theorem dX8_soonestStone_15 : decode cX8_soonestStone 15 = .ok (.getfield 106, 3) := by decide +kernel
theorem dX8_soonestStone_18 : decode cX8_soonestStone 18 = .ok (.if_icmp .ge 37, 3) := by decide +kernel
theorem dX8_soonestStone_21 : decode cX8_soonestStone 21 = .ok (.aload_n 0, 1) := by decide +kernel
theorem dX8_soonestStone_22 : decode cX8_soonestStone 22 = .ok (.iload_n 1, 1) := by decide +kernel
theorem dX8_soonestStone_23 : decode cX8_soonestStone 23 = .ok (.iload 4, 2) := by decide +kernel
theorem dX8_soonestStone_25 : decode cX8_soonestStone 25 = .ok (.invokevirtual 204, 3) := by decide +kernel
theorem dX8_soonestStone_28 : decode cX8_soonestStone 28 = .ok (.istore 5, 2) := by decide +kernel
theorem dX8_soonestStone_30 : decode cX8_soonestStone 30 = .ok (.iload 5, 2) := by decide +kernel
theorem dX8_soonestStone_32 : decode cX8_soonestStone 32 = .ok (.bipush (-4), 2) := by decide +kernel
theorem dX8_soonestStone_34 : decode cX8_soonestStone 34 = .ok (.if_icmp .eq 15, 3) := by decide +kernel
theorem dX8_soonestStone_37 : decode cX8_soonestStone 37 = .ok (.iload 5, 2) := by decide +kernel
theorem dX8_soonestStone_39 : decode cX8_soonestStone 39 = .ok (.iload_n 2, 1) := by decide +kernel
theorem dX8_soonestStone_40 : decode cX8_soonestStone 40 = .ok (.if_icmp .gt 9, 3) := by decide +kernel
theorem dX8_soonestStone_43 : decode cX8_soonestStone 43 = .ok (.iload 5, 2) := by decide +kernel
theorem dX8_soonestStone_45 : decode cX8_soonestStone 45 = .ok (.istore_n 2, 1) := by decide +kernel
theorem dX8_soonestStone_46 : decode cX8_soonestStone 46 = .ok (.iload 4, 2) := by decide +kernel
theorem dX8_soonestStone_48 : decode cX8_soonestStone 48 = .ok (.istore_n 3, 1) := by decide +kernel
theorem dX8_soonestStone_49 : decode cX8_soonestStone 49 = .ok (.iinc 4 1, 3) := by decide +kernel
theorem dX8_soonestStone_52 : decode cX8_soonestStone 52 = .ok (.goto (-43), 3) := by decide +kernel
theorem dX8_soonestStone_55 : decode cX8_soonestStone 55 = .ok (.iload_n 3, 1) := by decide +kernel
theorem dX8_soonestStone_56 : decode cX8_soonestStone 56 = .ok (.ireturn, 1) := by decide +kernel
set_option maxRecDepth 20000 in
theorem ggX8_verdictsUnder_X2_copyFrom : GoodIn wsX8_verdictsUnder wsX2_copyFrom := goodIn_r _ [8, 9, 10, 11, 12, 13, 14, 15, 16, 17, 18, 19, 20, 21, 22, 23, 24, 95, 96, 97, 98, 99, 100, 101, 102, 103, 104, 105, 106] (by decide +kernel) (by decide +kernel)
set_option maxRecDepth 20000 in
theorem gX8_verdictsUnder_X2_copyFrom : GoodIn wsX8_verdictsUnder (wsV RX8 95 RX2 yX2_copyFrom wsX2_copyFrom) := goodIn_app (goodIn_of _ (by decide +kernel)) ggX8_verdictsUnder_X2_copyFrom
set_option maxRecDepth 20000 in
theorem ggX8_verdictsUnder_X0_run : GoodIn wsX8_verdictsUnder wsX0_run := goodIn_r _ [29, 30, 31, 32, 33, 28, 34, 35, 36, 37, 38, 39, 7, 40, 21, 24, 41, 42, 43, 44, 14, 15, 45, 46, 47, 48, 49, 50, 51, 52, 53, 54, 55, 56, 57, 58, 59, 60, 16, 61, 62, 63, 64, 65, 66, 67, 68, 69, 70, 71, 107, 108, 109, 110, 111, 112, 113, 95, 96, 97, 98, 99, 100, 101, 102, 103, 104, 105, 106] (by decide +kernel) (by decide +kernel)
set_option maxRecDepth 20000 in
theorem gX8_verdictsUnder_X0_run : GoodIn wsX8_verdictsUnder (wsV RX8 171 RX0 yX0_run wsX0_run) := goodIn_app (goodIn_of _ (by decide +kernel)) ggX8_verdictsUnder_X0_run
set_option maxRecDepth 20000 in
theorem ggX8_verdictsUnder_X0_verdicts : GoodIn wsX8_verdictsUnder wsX0_verdicts := goodIn_r _ [75, 76, 77, 78, 28, 79, 30, 80, 81, 82, 83, 52, 50, 51, 49, 61, 62, 63, 64, 65, 66, 67, 107, 108, 109, 110, 111, 112, 113] (by decide +kernel) (by decide +kernel)
set_option maxRecDepth 20000 in
theorem gX8_verdictsUnder_X0_verdicts : GoodIn wsX8_verdictsUnder (wsV RX8 180 RX0 yX0_verdicts wsX0_verdicts) := goodIn_app (goodIn_of _ (by decide +kernel)) ggX8_verdictsUnder_X0_verdicts
theorem dX8_verdictsUnder_0 : decode cX8_verdictsUnder 0 = .ok (.aload_n 0, 1) := by decide +kernel
theorem dX8_verdictsUnder_1 : decode cX8_verdictsUnder 1 = .ok (.getfield 32, 3) := by decide +kernel
theorem dX8_verdictsUnder_4 : decode cX8_verdictsUnder 4 = .ok (.aload_n 0, 1) := by decide +kernel
theorem dX8_verdictsUnder_5 : decode cX8_verdictsUnder 5 = .ok (.getfield 28, 3) := by decide +kernel
theorem dX8_verdictsUnder_8 : decode cX8_verdictsUnder 8 = .ok (.invokevirtual 95, 3) := by decide +kernel
theorem dX8_verdictsUnder_11 : decode cX8_verdictsUnder 11 = .ok (.aload_n 0, 1) := by decide +kernel
theorem dX8_verdictsUnder_12 : decode cX8_verdictsUnder 12 = .ok (.getfield 32, 3) := by decide +kernel
theorem dX8_verdictsUnder_15 : decode cX8_verdictsUnder 15 = .ok (.iload_n 1, 1) := by decide +kernel
theorem dX8_verdictsUnder_16 : decode cX8_verdictsUnder 16 = .ok (.putfield 112, 3) := by decide +kernel
theorem dX8_verdictsUnder_19 : decode cX8_verdictsUnder 19 = .ok (.aload_n 0, 1) := by decide +kernel
theorem dX8_verdictsUnder_20 : decode cX8_verdictsUnder 20 = .ok (.getfield 32, 3) := by decide +kernel
theorem dX8_verdictsUnder_23 : decode cX8_verdictsUnder 23 = .ok (.iload_n 2, 1) := by decide +kernel
theorem dX8_verdictsUnder_24 : decode cX8_verdictsUnder 24 = .ok (.putfield 115, 3) := by decide +kernel
theorem dX8_verdictsUnder_27 : decode cX8_verdictsUnder 27 = .ok (.aload_n 0, 1) := by decide +kernel
theorem dX8_verdictsUnder_28 : decode cX8_verdictsUnder 28 = .ok (.getfield 38, 3) := by decide +kernel
theorem dX8_verdictsUnder_31 : decode cX8_verdictsUnder 31 = .ok (.aload_n 0, 1) := by decide +kernel
theorem dX8_verdictsUnder_32 : decode cX8_verdictsUnder 32 = .ok (.getfield 32, 3) := by decide +kernel
theorem dX8_verdictsUnder_35 : decode cX8_verdictsUnder 35 = .ok (.invokevirtual 171, 3) := by decide +kernel
theorem dX8_verdictsUnder_38 : decode cX8_verdictsUnder 38 = .ok (.aload_n 0, 1) := by decide +kernel
theorem dX8_verdictsUnder_39 : decode cX8_verdictsUnder 39 = .ok (.getfield 38, 3) := by decide +kernel
theorem dX8_verdictsUnder_42 : decode cX8_verdictsUnder 42 = .ok (.invokevirtual 180, 3) := by decide +kernel
theorem dX8_verdictsUnder_45 : decode cX8_verdictsUnder 45 = .ok (.ireturn, 1) := by decide +kernel
set_option maxRecDepth 20000 in
theorem ggX8_verdictsWithOtherMud_X2_copyFrom : GoodIn wsX8_verdictsWithOtherMud wsX2_copyFrom := goodIn_r _ [8, 9, 10, 11, 12, 13, 14, 15, 16, 17, 18, 19, 20, 21, 22, 23, 24, 95, 96, 97, 98, 99, 100, 101, 102, 103, 104, 105, 106] (by decide +kernel) (by decide +kernel)
set_option maxRecDepth 20000 in
theorem gX8_verdictsWithOtherMud_X2_copyFrom : GoodIn wsX8_verdictsWithOtherMud (wsV RX8 95 RX2 yX2_copyFrom wsX2_copyFrom) := goodIn_app (goodIn_of _ (by decide +kernel)) ggX8_verdictsWithOtherMud_X2_copyFrom
set_option maxRecDepth 20000 in
theorem ggX8_verdictsWithOtherMud_X0_run : GoodIn wsX8_verdictsWithOtherMud wsX0_run := goodIn_r _ [29, 30, 31, 32, 33, 28, 34, 35, 36, 37, 38, 39, 7, 40, 21, 24, 41, 42, 43, 44, 14, 15, 45, 46, 47, 48, 49, 50, 51, 52, 53, 54, 55, 56, 57, 58, 59, 60, 16, 61, 62, 63, 64, 65, 66, 67, 68, 69, 70, 71, 107, 108, 109, 110, 111, 112, 113, 95, 96, 97, 98, 99, 100, 101, 102, 103, 104, 105, 106] (by decide +kernel) (by decide +kernel)
set_option maxRecDepth 20000 in
theorem gX8_verdictsWithOtherMud_X0_run : GoodIn wsX8_verdictsWithOtherMud (wsV RX8 171 RX0 yX0_run wsX0_run) := goodIn_app (goodIn_of _ (by decide +kernel)) ggX8_verdictsWithOtherMud_X0_run
set_option maxRecDepth 20000 in
theorem ggX8_verdictsWithOtherMud_X0_verdicts : GoodIn wsX8_verdictsWithOtherMud wsX0_verdicts := goodIn_r _ [75, 76, 77, 78, 28, 79, 30, 80, 81, 82, 83, 52, 50, 51, 49, 61, 62, 63, 64, 65, 66, 67, 107, 108, 109, 110, 111, 112, 113] (by decide +kernel) (by decide +kernel)
set_option maxRecDepth 20000 in
theorem gX8_verdictsWithOtherMud_X0_verdicts : GoodIn wsX8_verdictsWithOtherMud (wsV RX8 180 RX0 yX0_verdicts wsX0_verdicts) := goodIn_app (goodIn_of _ (by decide +kernel)) ggX8_verdictsWithOtherMud_X0_verdicts
theorem dX8_verdictsWithOtherMud_0 : decode cX8_verdictsWithOtherMud 0 = .ok (.aload_n 0, 1) := by decide +kernel
theorem dX8_verdictsWithOtherMud_1 : decode cX8_verdictsWithOtherMud 1 = .ok (.getfield 32, 3) := by decide +kernel
theorem dX8_verdictsWithOtherMud_4 : decode cX8_verdictsWithOtherMud 4 = .ok (.aload_n 0, 1) := by decide +kernel
theorem dX8_verdictsWithOtherMud_5 : decode cX8_verdictsWithOtherMud 5 = .ok (.getfield 28, 3) := by decide +kernel
theorem dX8_verdictsWithOtherMud_8 : decode cX8_verdictsWithOtherMud 8 = .ok (.invokevirtual 95, 3) := by decide +kernel
theorem dX8_verdictsWithOtherMud_11 : decode cX8_verdictsWithOtherMud 11 = .ok (.aload_n 0, 1) := by decide +kernel
theorem dX8_verdictsWithOtherMud_12 : decode cX8_verdictsWithOtherMud 12 = .ok (.getfield 32, 3) := by decide +kernel
theorem dX8_verdictsWithOtherMud_15 : decode cX8_verdictsWithOtherMud 15 = .ok (.getfield 305, 3) := by decide +kernel
theorem dX8_verdictsWithOtherMud_18 : decode cX8_verdictsWithOtherMud 18 = .ok (.iload_n 1, 1) := by decide +kernel
theorem dX8_verdictsWithOtherMud_19 : decode cX8_verdictsWithOtherMud 19 = .ok (.iconst 1, 1) := by decide +kernel
theorem dX8_verdictsWithOtherMud_20 : decode cX8_verdictsWithOtherMud 20 = .ok (.aload_n 0, 1) := by decide +kernel
theorem dX8_verdictsWithOtherMud_21 : decode cX8_verdictsWithOtherMud 21 = .ok (.getfield 28, 3) := by decide +kernel
theorem dX8_verdictsWithOtherMud_24 : decode cX8_verdictsWithOtherMud 24 = .ok (.getfield 305, 3) := by decide +kernel
theorem dX8_verdictsWithOtherMud_27 : decode cX8_verdictsWithOtherMud 27 = .ok (.iload_n 1, 1) := by decide +kernel
theorem dX8_verdictsWithOtherMud_28 : decode cX8_verdictsWithOtherMud 28 = .ok (.iaload, 1) := by decide +kernel
theorem dX8_verdictsWithOtherMud_29 : decode cX8_verdictsWithOtherMud 29 = .ok (.isub, 1) := by decide +kernel
theorem dX8_verdictsWithOtherMud_30 : decode cX8_verdictsWithOtherMud 30 = .ok (.iastore, 1) := by decide +kernel
theorem dX8_verdictsWithOtherMud_31 : decode cX8_verdictsWithOtherMud 31 = .ok (.aload_n 0, 1) := by decide +kernel
theorem dX8_verdictsWithOtherMud_32 : decode cX8_verdictsWithOtherMud 32 = .ok (.getfield 38, 3) := by decide +kernel
theorem dX8_verdictsWithOtherMud_35 : decode cX8_verdictsWithOtherMud 35 = .ok (.aload_n 0, 1) := by decide +kernel
theorem dX8_verdictsWithOtherMud_36 : decode cX8_verdictsWithOtherMud 36 = .ok (.getfield 32, 3) := by decide +kernel
theorem dX8_verdictsWithOtherMud_39 : decode cX8_verdictsWithOtherMud 39 = .ok (.invokevirtual 171, 3) := by decide +kernel
theorem dX8_verdictsWithOtherMud_42 : decode cX8_verdictsWithOtherMud 42 = .ok (.aload_n 0, 1) := by decide +kernel
theorem dX8_verdictsWithOtherMud_43 : decode cX8_verdictsWithOtherMud 43 = .ok (.getfield 38, 3) := by decide +kernel
theorem dX8_verdictsWithOtherMud_46 : decode cX8_verdictsWithOtherMud 46 = .ok (.invokevirtual 180, 3) := by decide +kernel
theorem dX8_verdictsWithOtherMud_49 : decode cX8_verdictsWithOtherMud 49 = .ok (.ireturn, 1) := by decide +kernel
set_option maxRecDepth 20000 in
theorem ggX8_weighVerdicts_X2_copyFrom : GoodIn wsX8_weighVerdicts wsX2_copyFrom := goodIn_r _ [8, 9, 10, 11, 12, 13, 14, 15, 16, 17, 18, 19, 20, 21, 22, 23, 24, 112, 113, 114, 115, 116, 117, 118, 119, 120, 121, 122, 123] (by decide +kernel) (by decide +kernel)
set_option maxRecDepth 20000 in
theorem gX8_weighVerdicts_X2_copyFrom : GoodIn wsX8_weighVerdicts (wsV RX8 95 RX2 yX2_copyFrom wsX2_copyFrom) := goodIn_app (goodIn_of _ (by decide +kernel)) ggX8_weighVerdicts_X2_copyFrom
set_option maxRecDepth 20000 in
theorem ggX8_weighVerdicts_J6_bitCount_0f7a4 : GoodIn wsX8_weighVerdicts wsJ6_bitCount_0f7a4 := goodIn_r _ [28, 29, 30, 31] (by decide +kernel) (by decide +kernel)
set_option maxRecDepth 20000 in
theorem gX8_weighVerdicts_J6_bitCount_0f7a4 : GoodIn wsX8_weighVerdicts (va_wsS RX8 248 yJ6_bitCount_0f7a4 wsJ6_bitCount_0f7a4) := goodIn_app (goodIn_of _ (by decide +kernel)) ggX8_weighVerdicts_J6_bitCount_0f7a4
set_option maxRecDepth 20000 in
theorem ggX8_weighVerdicts_X8_power : GoodIn wsX8_weighVerdicts wsX8_power := goodIn_r _ [35] (by decide +kernel) (by decide +kernel)
set_option maxRecDepth 20000 in
theorem gX8_weighVerdicts_X8_power : GoodIn wsX8_weighVerdicts (va_wsS RX8 225 yX8_power wsX8_power) := goodIn_app (goodIn_of _ (by decide +kernel)) ggX8_weighVerdicts_X8_power
set_option maxRecDepth 20000 in
theorem ggX8_weighVerdicts_X2_putMuds : GoodIn wsX8_weighVerdicts wsX2_putMuds := goodIn_r _ [39, 21, 15, 112, 113, 114, 115, 116, 117, 118, 119, 120, 121, 122, 123] (by decide +kernel) (by decide +kernel)
set_option maxRecDepth 20000 in
theorem gX8_weighVerdicts_X2_putMuds : GoodIn wsX8_weighVerdicts (wsV RX8 308 RX2 yX2_putMuds wsX2_putMuds) := goodIn_app (goodIn_of _ (by decide +kernel)) ggX8_weighVerdicts_X2_putMuds
set_option maxRecDepth 20000 in
theorem ggX8_weighVerdicts_X0_run : GoodIn wsX8_weighVerdicts wsX0_run := goodIn_r _ [44, 45, 46, 47, 48, 43, 49, 50, 51, 52, 53, 54, 7, 55, 21, 24, 56, 57, 58, 59, 14, 15, 60, 61, 62, 63, 64, 65, 66, 67, 68, 69, 70, 71, 72, 73, 74, 75, 16, 76, 26, 27, 28, 29, 30, 31, 77, 78, 79, 80, 124, 125, 126, 127, 128, 129, 130, 112, 113, 114, 115, 116, 117, 118, 119, 120, 121, 122, 123] (by decide +kernel) (by decide +kernel)
set_option maxRecDepth 20000 in
theorem gX8_weighVerdicts_X0_run : GoodIn wsX8_weighVerdicts (wsV RX8 171 RX0 yX0_run wsX0_run) := goodIn_app (goodIn_of _ (by decide +kernel)) ggX8_weighVerdicts_X0_run
set_option maxRecDepth 20000 in
theorem ggX8_weighVerdicts_X8_verdictsOf : GoodIn wsX8_weighVerdicts wsX8_verdictsOf := goodIn_r _ [84, 3, 85, 86, 87, 43, 88, 89, 90, 91, 92, 45, 93, 94, 95, 96, 67, 65, 66, 64, 76, 26, 27, 28, 29, 30, 31, 97, 98, 99, 100, 101, 102, 103, 104, 105, 106, 107, 108, 109, 110, 111, 124, 125, 126, 127, 128, 129, 130] (by decide +kernel) (by decide +kernel)
set_option maxRecDepth 20000 in
theorem gX8_weighVerdicts_X8_verdictsOf : GoodIn wsX8_weighVerdicts (wsV RX8 311 RX8 yX8_verdictsOf wsX8_verdictsOf) := goodIn_app (goodIn_of _ (by decide +kernel)) ggX8_weighVerdicts_X8_verdictsOf
theorem dX8_weighVerdicts_0 : decode cX8_weighVerdicts 0 = .ok (.lconst 0, 1) := by decide +kernel
theorem dX8_weighVerdicts_1 : decode cX8_weighVerdicts 1 = .ok (.lstore_n 3, 1) := by decide +kernel
theorem dX8_weighVerdicts_2 : decode cX8_weighVerdicts 2 = .ok (.aload_n 0, 1) := by decide +kernel
theorem dX8_weighVerdicts_3 : decode cX8_weighVerdicts 3 = .ok (.getfield 32, 3) := by decide +kernel
theorem dX8_weighVerdicts_6 : decode cX8_weighVerdicts 6 = .ok (.aload_n 0, 1) := by decide +kernel
theorem dX8_weighVerdicts_7 : decode cX8_weighVerdicts 7 = .ok (.getfield 28, 3) := by decide +kernel
theorem dX8_weighVerdicts_10 : decode cX8_weighVerdicts 10 = .ok (.invokevirtual 95, 3) := by decide +kernel
theorem dX8_weighVerdicts_13 : decode cX8_weighVerdicts 13 = .ok (.iconst 0, 1) := by decide +kernel
theorem dX8_weighVerdicts_14 : decode cX8_weighVerdicts 14 = .ok (.istore 5, 2) := by decide +kernel
theorem dX8_weighVerdicts_16 : decode cX8_weighVerdicts 16 = .ok (.iload 5, 2) := by decide +kernel
theorem dX8_weighVerdicts_18 : decode cX8_weighVerdicts 18 = .ok (.iconst 1, 1) := by decide +kernel
theorem dX8_weighVerdicts_19 : decode cX8_weighVerdicts 19 = .ok (.aload_n 0, 1) := by decide +kernel
theorem dX8_weighVerdicts_20 : decode cX8_weighVerdicts 20 = .ok (.getfield 28, 3) := by decide +kernel
theorem dX8_weighVerdicts_23 : decode cX8_weighVerdicts 23 = .ok (.getfield 106, 3) := by decide +kernel
theorem dX8_weighVerdicts_26 : decode cX8_weighVerdicts 26 = .ok (.ishl, 1) := by decide +kernel
theorem dX8_weighVerdicts_27 : decode cX8_weighVerdicts 27 = .ok (.if_icmp .ge 81, 3) := by decide +kernel
theorem dX8_weighVerdicts_30 : decode cX8_weighVerdicts 30 = .ok (.iload 5, 2) := by decide +kernel
theorem dX8_weighVerdicts_32 : decode cX8_weighVerdicts 32 = .ok (.invokestatic 248, 3) := by decide +kernel
theorem dX8_weighVerdicts_35 : decode cX8_weighVerdicts 35 = .ok (.istore 6, 2) := by decide +kernel
theorem dX8_weighVerdicts_37 : decode cX8_weighVerdicts 37 = .ok (.iload_n 1, 1) := by decide +kernel
theorem dX8_weighVerdicts_38 : decode cX8_weighVerdicts 38 = .ok (.iload 6, 2) := by decide +kernel
theorem dX8_weighVerdicts_40 : decode cX8_weighVerdicts 40 = .ok (.invokestatic 225, 3) := by decide +kernel
theorem dX8_weighVerdicts_43 : decode cX8_weighVerdicts 43 = .ok (.bipush 10, 2) := by decide +kernel
theorem dX8_weighVerdicts_45 : decode cX8_weighVerdicts 45 = .ok (.iload_n 1, 1) := by decide +kernel
theorem dX8_weighVerdicts_46 : decode cX8_weighVerdicts 46 = .ok (.isub, 1) := by decide +kernel
theorem dX8_weighVerdicts_47 : decode cX8_weighVerdicts 47 = .ok (.aload_n 0, 1) := by decide +kernel
theorem dX8_weighVerdicts_48 : decode cX8_weighVerdicts 48 = .ok (.getfield 28, 3) := by decide +kernel
theorem dX8_weighVerdicts_51 : decode cX8_weighVerdicts 51 = .ok (.getfield 106, 3) := by decide +kernel
theorem dX8_weighVerdicts_54 : decode cX8_weighVerdicts 54 = .ok (.iload 6, 2) := by decide +kernel
theorem dX8_weighVerdicts_56 : decode cX8_weighVerdicts 56 = .ok (.isub, 1) := by decide +kernel
theorem dX8_weighVerdicts_57 : decode cX8_weighVerdicts 57 = .ok (.invokestatic 225, 3) := by decide +kernel
theorem dX8_weighVerdicts_60 : decode cX8_weighVerdicts 60 = .ok (.lmul, 1) := by decide +kernel
theorem dX8_weighVerdicts_61 : decode cX8_weighVerdicts 61 = .ok (.lstore 7, 2) := by decide +kernel
theorem dX8_weighVerdicts_63 : decode cX8_weighVerdicts 63 = .ok (.lload 7, 2) := by decide +kernel
theorem dX8_weighVerdicts_65 : decode cX8_weighVerdicts 65 = .ok (.lconst 0, 1) := by decide +kernel
theorem dX8_weighVerdicts_66 : decode cX8_weighVerdicts 66 = .ok (.lcmp, 1) := by decide +kernel
theorem dX8_weighVerdicts_67 : decode cX8_weighVerdicts 67 = .ok (.ifCond .eq 35, 3) := by decide +kernel
theorem dX8_weighVerdicts_70 : decode cX8_weighVerdicts 70 = .ok (.aload_n 0, 1) := by decide +kernel
theorem dX8_weighVerdicts_71 : decode cX8_weighVerdicts 71 = .ok (.getfield 32, 3) := by decide +kernel
theorem dX8_weighVerdicts_74 : decode cX8_weighVerdicts 74 = .ok (.iload 5, 2) := by decide +kernel
theorem dX8_weighVerdicts_76 : decode cX8_weighVerdicts 76 = .ok (.invokevirtual 308, 3) := by decide +kernel
theorem dX8_weighVerdicts_79 : decode cX8_weighVerdicts 79 = .ok (.aload_n 0, 1) := by decide +kernel
theorem dX8_weighVerdicts_80 : decode cX8_weighVerdicts 80 = .ok (.getfield 38, 3) := by decide +kernel
theorem dX8_weighVerdicts_83 : decode cX8_weighVerdicts 83 = .ok (.aload_n 0, 1) := by decide +kernel
theorem dX8_weighVerdicts_84 : decode cX8_weighVerdicts 84 = .ok (.getfield 32, 3) := by decide +kernel
theorem dX8_weighVerdicts_87 : decode cX8_weighVerdicts 87 = .ok (.invokevirtual 171, 3) := by decide +kernel
theorem dX8_weighVerdicts_90 : decode cX8_weighVerdicts 90 = .ok (.lload_n 3, 1) := by decide +kernel
theorem dX8_weighVerdicts_91 : decode cX8_weighVerdicts 91 = .ok (.lload 7, 2) := by decide +kernel
theorem dX8_weighVerdicts_93 : decode cX8_weighVerdicts 93 = .ok (.aload_n 0, 1) := by decide +kernel
theorem dX8_weighVerdicts_94 : decode cX8_weighVerdicts 94 = .ok (.iload_n 2, 1) := by decide +kernel
theorem dX8_weighVerdicts_95 : decode cX8_weighVerdicts 95 = .ok (.invokevirtual 311, 3) := by decide +kernel
theorem dX8_weighVerdicts_98 : decode cX8_weighVerdicts 98 = .ok (.i2l, 1) := by decide +kernel
theorem dX8_weighVerdicts_99 : decode cX8_weighVerdicts 99 = .ok (.lmul, 1) := by decide +kernel
theorem dX8_weighVerdicts_100 : decode cX8_weighVerdicts 100 = .ok (.ladd, 1) := by decide +kernel
theorem dX8_weighVerdicts_101 : decode cX8_weighVerdicts 101 = .ok (.lstore_n 3, 1) := by decide +kernel
theorem dX8_weighVerdicts_102 : decode cX8_weighVerdicts 102 = .ok (.iinc 5 1, 3) := by decide +kernel
theorem dX8_weighVerdicts_105 : decode cX8_weighVerdicts 105 = .ok (.goto (-89), 3) := by decide +kernel
theorem dX8_weighVerdicts_108 : decode cX8_weighVerdicts 108 = .ok (.lload_n 3, 1) := by decide +kernel
theorem dX8_weighVerdicts_109 : decode cX8_weighVerdicts 109 = .ok (.lreturn, 1) := by decide +kernel
set_option maxRecDepth 20000 in
theorem ggX8_verdictsOf_X0_verdicts : GoodIn wsX8_verdictsOf wsX0_verdicts := goodIn_r _ [6, 7, 8, 9, 5, 10, 11, 12, 13, 14, 15, 16, 17, 18, 19, 20, 21, 22, 23, 24, 25, 26, 42, 43, 44, 45, 46, 47, 48] (by decide +kernel) (by decide +kernel)
set_option maxRecDepth 20000 in
theorem gX8_verdictsOf_X0_verdicts : GoodIn wsX8_verdictsOf (wsV RX8 180 RX0 yX0_verdicts wsX0_verdicts) := goodIn_app (goodIn_of _ (by decide +kernel)) ggX8_verdictsOf_X0_verdicts
set_option maxRecDepth 20000 in
theorem ggX8_verdictsOf_X0_hasVerdict : GoodIn wsX8_verdictsOf wsX0_hasVerdict := goodIn_r _ [30, 16, 42, 43, 44, 45, 46, 47, 48] (by decide +kernel) (by decide +kernel)
set_option maxRecDepth 20000 in
theorem gX8_verdictsOf_X0_hasVerdict : GoodIn wsX8_verdictsOf (wsV RX8 210 RX0 yX0_hasVerdict wsX0_hasVerdict) := goodIn_app (goodIn_of _ (by decide +kernel)) ggX8_verdictsOf_X0_hasVerdict
theorem dX8_verdictsOf_0 : decode cX8_verdictsOf 0 = .ok (.iload_n 1, 1) := by decide +kernel
theorem dX8_verdictsOf_1 : decode cX8_verdictsOf 1 = .ok (.iconst (-1), 1) := by decide +kernel
theorem dX8_verdictsOf_2 : decode cX8_verdictsOf 2 = .ok (.if_icmp .ne 11, 3) := by decide +kernel
theorem dX8_verdictsOf_5 : decode cX8_verdictsOf 5 = .ok (.aload_n 0, 1) := by decide +kernel
theorem dX8_verdictsOf_6 : decode cX8_verdictsOf 6 = .ok (.getfield 38, 3) := by decide +kernel
theorem dX8_verdictsOf_9 : decode cX8_verdictsOf 9 = .ok (.invokevirtual 180, 3) := by decide +kernel
theorem dX8_verdictsOf_12 : decode cX8_verdictsOf 12 = .ok (.ireturn, 1) := by decide +kernel
theorem dX8_verdictsOf_13 : decode cX8_verdictsOf 13 = .ok (.aload_n 0, 1) := by decide +kernel
theorem dX8_verdictsOf_14 : decode cX8_verdictsOf 14 = .ok (.getfield 38, 3) := by decide +kernel
theorem dX8_verdictsOf_17 : decode cX8_verdictsOf 17 = .ok (.iload_n 1, 1) := by decide +kernel
theorem dX8_verdictsOf_18 : decode cX8_verdictsOf 18 = .ok (.invokevirtual 210, 3) := by decide +kernel
theorem dX8_verdictsOf_21 : decode cX8_verdictsOf 21 = .ok (.ifCond .eq 7, 3) := by decide +kernel
theorem dX8_verdictsOf_24 : decode cX8_verdictsOf 24 = .ok (.iconst 1, 1) := by decide +kernel
theorem dX8_verdictsOf_25 : decode cX8_verdictsOf 25 = .ok (.goto 4, 3) := by decide +kernel
theorem dX8_verdictsOf_28 : decode cX8_verdictsOf 28 = .ok (.iconst 0, 1) := by decide +kernel
theorem dX8_verdictsOf_29 : decode cX8_verdictsOf 29 = .ok (.ireturn, 1) := by decide +kernel
theorem dX8_power_0 : decode cX8_power 0 = .ok (.lconst 1, 1) := by decide +kernel
theorem dX8_power_1 : decode cX8_power 1 = .ok (.lstore_n 2, 1) := by decide +kernel
theorem dX8_power_2 : decode cX8_power 2 = .ok (.iconst 0, 1) := by decide +kernel
theorem dX8_power_3 : decode cX8_power 3 = .ok (.istore 4, 2) := by decide +kernel
theorem dX8_power_5 : decode cX8_power 5 = .ok (.iload 4, 2) := by decide +kernel
theorem dX8_power_7 : decode cX8_power 7 = .ok (.iload_n 1, 1) := by decide +kernel
theorem dX8_power_8 : decode cX8_power 8 = .ok (.if_icmp .ge 14, 3) := by decide +kernel
theorem dX8_power_11 : decode cX8_power 11 = .ok (.lload_n 2, 1) := by decide +kernel
theorem dX8_power_12 : decode cX8_power 12 = .ok (.iload_n 0, 1) := by decide +kernel
theorem dX8_power_13 : decode cX8_power 13 = .ok (.i2l, 1) := by decide +kernel
theorem dX8_power_14 : decode cX8_power 14 = .ok (.lmul, 1) := by decide +kernel
theorem dX8_power_15 : decode cX8_power 15 = .ok (.lstore_n 2, 1) := by decide +kernel
theorem dX8_power_16 : decode cX8_power 16 = .ok (.iinc 4 1, 3) := by decide +kernel
theorem dX8_power_19 : decode cX8_power 19 = .ok (.goto (-14), 3) := by decide +kernel
theorem dX8_power_22 : decode cX8_power 22 = .ok (.lload_n 2, 1) := by decide +kernel
theorem dX8_power_23 : decode cX8_power 23 = .ok (.lreturn, 1) := by decide +kernel
set_option maxRecDepth 20000 in
theorem ggX8_partOfFraction_X8_commonDivisor : GoodIn wsX8_partOfFraction wsX8_commonDivisor := goodIn_r _ [4] (by decide +kernel) (by decide +kernel)
set_option maxRecDepth 20000 in
theorem gX8_partOfFraction_X8_commonDivisor : GoodIn wsX8_partOfFraction (va_wsS RX8 314 yX8_commonDivisor wsX8_commonDivisor) := goodIn_app (goodIn_of _ (by decide +kernel)) ggX8_partOfFraction_X8_commonDivisor
theorem dX8_partOfFraction_0 : decode cX8_partOfFraction 0 = .ok (.lload_n 0, 1) := by decide +kernel
theorem dX8_partOfFraction_1 : decode cX8_partOfFraction 1 = .ok (.lload_n 2, 1) := by decide +kernel
theorem dX8_partOfFraction_2 : decode cX8_partOfFraction 2 = .ok (.invokestatic 314, 3) := by decide +kernel
theorem dX8_partOfFraction_5 : decode cX8_partOfFraction 5 = .ok (.lstore 5, 2) := by decide +kernel
theorem dX8_partOfFraction_7 : decode cX8_partOfFraction 7 = .ok (.lload 5, 2) := by decide +kernel
theorem dX8_partOfFraction_9 : decode cX8_partOfFraction 9 = .ok (.lconst 0, 1) := by decide +kernel
theorem dX8_partOfFraction_10 : decode cX8_partOfFraction 10 = .ok (.lcmp, 1) := by decide +kernel
theorem dX8_partOfFraction_11 : decode cX8_partOfFraction 11 = .ok (.ifCond .ne 5, 3) := by decide +kernel
theorem dX8_partOfFraction_14 : decode cX8_partOfFraction 14 = .ok (.lconst 0, 1) := by decide +kernel
theorem dX8_partOfFraction_15 : decode cX8_partOfFraction 15 = .ok (.lreturn, 1) := by decide +kernel
theorem dX8_partOfFraction_16 : decode cX8_partOfFraction 16 = .ok (.iload 4, 2) := by decide +kernel
theorem dX8_partOfFraction_18 : decode cX8_partOfFraction 18 = .ok (.ifCond .ne 7, 3) := by decide +kernel
theorem dX8_partOfFraction_21 : decode cX8_partOfFraction 21 = .ok (.lload_n 0, 1) := by decide +kernel
theorem dX8_partOfFraction_22 : decode cX8_partOfFraction 22 = .ok (.goto 4, 3) := by decide +kernel
theorem dX8_partOfFraction_25 : decode cX8_partOfFraction 25 = .ok (.lload_n 2, 1) := by decide +kernel
theorem dX8_partOfFraction_26 : decode cX8_partOfFraction 26 = .ok (.lload 5, 2) := by decide +kernel
theorem dX8_partOfFraction_28 : decode cX8_partOfFraction 28 = .ok (.ldiv, 1) := by decide +kernel
theorem dX8_partOfFraction_29 : decode cX8_partOfFraction 29 = .ok (.lreturn, 1) := by decide +kernel
theorem dX8_commonDivisor_0 : decode cX8_commonDivisor 0 = .ok (.lload_n 0, 1) := by decide +kernel
theorem dX8_commonDivisor_1 : decode cX8_commonDivisor 1 = .ok (.lstore 4, 2) := by decide +kernel
theorem dX8_commonDivisor_3 : decode cX8_commonDivisor 3 = .ok (.lload_n 2, 1) := by decide +kernel
theorem dX8_commonDivisor_4 : decode cX8_commonDivisor 4 = .ok (.lstore 6, 2) := by decide +kernel
theorem dX8_commonDivisor_6 : decode cX8_commonDivisor 6 = .ok (.iconst 0, 1) := by decide +kernel
theorem dX8_commonDivisor_7 : decode cX8_commonDivisor 7 = .ok (.istore 8, 2) := by decide +kernel
theorem dX8_commonDivisor_9 : decode cX8_commonDivisor 9 = .ok (.iload 8, 2) := by decide +kernel
theorem dX8_commonDivisor_11 : decode cX8_commonDivisor 11 = .ok (.sipush 200, 3) := by decide +kernel
theorem dX8_commonDivisor_14 : decode cX8_commonDivisor 14 = .ok (.if_icmp .ge 31, 3) := by decide +kernel
theorem dX8_commonDivisor_17 : decode cX8_commonDivisor 17 = .ok (.lload 6, 2) := by decide +kernel
theorem dX8_commonDivisor_19 : decode cX8_commonDivisor 19 = .ok (.lconst 0, 1) := by decide +kernel
theorem dX8_commonDivisor_20 : decode cX8_commonDivisor 20 = .ok (.lcmp, 1) := by decide +kernel
theorem dX8_commonDivisor_21 : decode cX8_commonDivisor 21 = .ok (.ifCond .eq 24, 3) := by decide +kernel
theorem dX8_commonDivisor_24 : decode cX8_commonDivisor 24 = .ok (.lload 4, 2) := by decide +kernel
theorem dX8_commonDivisor_26 : decode cX8_commonDivisor 26 = .ok (.lload 6, 2) := by decide +kernel
theorem dX8_commonDivisor_28 : decode cX8_commonDivisor 28 = .ok (.lrem, 1) := by decide +kernel
theorem dX8_commonDivisor_29 : decode cX8_commonDivisor 29 = .ok (.lstore 9, 2) := by decide +kernel
theorem dX8_commonDivisor_31 : decode cX8_commonDivisor 31 = .ok (.lload 6, 2) := by decide +kernel
theorem dX8_commonDivisor_33 : decode cX8_commonDivisor 33 = .ok (.lstore 4, 2) := by decide +kernel
theorem dX8_commonDivisor_35 : decode cX8_commonDivisor 35 = .ok (.lload 9, 2) := by decide +kernel
theorem dX8_commonDivisor_37 : decode cX8_commonDivisor 37 = .ok (.lstore 6, 2) := by decide +kernel
theorem dX8_commonDivisor_39 : decode cX8_commonDivisor 39 = .ok (.iinc 8 1, 3) := by decide +kernel
theorem dX8_commonDivisor_42 : decode cX8_commonDivisor 42 = .ok (.goto (-33), 3) := by decide +kernel
theorem dX8_commonDivisor_45 : decode cX8_commonDivisor 45 = .ok (.lload 4, 2) := by decide +kernel
theorem dX8_commonDivisor_47 : decode cX8_commonDivisor 47 = .ok (.lreturn, 1) := by decide +kernel
set_option maxRecDepth 20000 in
theorem ggX8_driveIfTurned_X2_copyFrom : GoodIn wsX8_driveIfTurned wsX2_copyFrom := goodIn_r _ [8, 9, 10, 11, 12, 13, 14, 15, 16, 17, 18, 19, 20, 21, 22, 23, 24, 91, 92, 93, 94, 95, 96, 97, 98, 99, 100, 101, 102] (by decide +kernel) (by decide +kernel)
set_option maxRecDepth 20000 in
theorem gX8_driveIfTurned_X2_copyFrom : GoodIn wsX8_driveIfTurned (wsV RX8 95 RX2 yX2_copyFrom wsX2_copyFrom) := goodIn_app (goodIn_of _ (by decide +kernel)) ggX8_driveIfTurned_X2_copyFrom
set_option maxRecDepth 20000 in
theorem ggX8_driveIfTurned_X2_hasSignpost : GoodIn wsX8_driveIfTurned wsX2_hasSignpost := goodIn_r _ [28, 21, 91, 92, 93, 94, 95, 96, 97, 98, 99, 100, 101, 102] (by decide +kernel) (by decide +kernel)
set_option maxRecDepth 20000 in
theorem gX8_driveIfTurned_X2_hasSignpost : GoodIn wsX8_driveIfTurned (wsV RX8 161 RX2 yX2_hasSignpost wsX2_hasSignpost) := goodIn_app (goodIn_of _ (by decide +kernel)) ggX8_driveIfTurned_X2_hasSignpost
set_option maxRecDepth 20000 in
theorem ggX8_driveIfTurned_X2_turnSignpost : GoodIn wsX8_driveIfTurned wsX2_turnSignpost := goodIn_r _ [32, 9, 91, 92, 93, 94, 95, 96, 97, 98, 99, 100, 101, 102] (by decide +kernel) (by decide +kernel)
set_option maxRecDepth 20000 in
theorem gX8_driveIfTurned_X2_turnSignpost : GoodIn wsX8_driveIfTurned (wsV RX8 164 RX2 yX2_turnSignpost wsX2_turnSignpost) := goodIn_app (goodIn_of _ (by decide +kernel)) ggX8_driveIfTurned_X2_turnSignpost
set_option maxRecDepth 20000 in
theorem ggX8_driveIfTurned_X0_run : GoodIn wsX8_driveIfTurned wsX0_run := goodIn_r _ [37, 38, 39, 40, 41, 36, 42, 43, 44, 45, 46, 47, 7, 48, 21, 24, 49, 50, 51, 52, 14, 15, 53, 54, 55, 56, 57, 58, 59, 60, 61, 62, 63, 64, 65, 66, 67, 68, 16, 69, 70, 71, 72, 73, 74, 75, 76, 77, 78, 79, 103, 104, 105, 106, 107, 108, 109, 91, 92, 93, 94, 95, 96, 97, 98, 99, 100, 101, 102] (by decide +kernel) (by decide +kernel)
set_option maxRecDepth 20000 in
theorem gX8_driveIfTurned_X0_run : GoodIn wsX8_driveIfTurned (wsV RX8 171 RX0 yX0_run wsX0_run) := goodIn_app (goodIn_of _ (by decide +kernel)) ggX8_driveIfTurned_X0_run
theorem dX8_driveIfTurned_0 : decode cX8_driveIfTurned 0 = .ok (.aload_n 0, 1) := by decide +kernel
theorem dX8_driveIfTurned_1 : decode cX8_driveIfTurned 1 = .ok (.getfield 32, 3) := by decide +kernel
theorem dX8_driveIfTurned_4 : decode cX8_driveIfTurned 4 = .ok (.aload_n 0, 1) := by decide +kernel
theorem dX8_driveIfTurned_5 : decode cX8_driveIfTurned 5 = .ok (.getfield 28, 3) := by decide +kernel
theorem dX8_driveIfTurned_8 : decode cX8_driveIfTurned 8 = .ok (.invokevirtual 95, 3) := by decide +kernel
theorem dX8_driveIfTurned_11 : decode cX8_driveIfTurned 11 = .ok (.aload_n 0, 1) := by decide +kernel
theorem dX8_driveIfTurned_12 : decode cX8_driveIfTurned 12 = .ok (.getfield 32, 3) := by decide +kernel
theorem dX8_driveIfTurned_15 : decode cX8_driveIfTurned 15 = .ok (.iload_n 1, 1) := by decide +kernel
theorem dX8_driveIfTurned_16 : decode cX8_driveIfTurned 16 = .ok (.invokevirtual 161, 3) := by decide +kernel
theorem dX8_driveIfTurned_19 : decode cX8_driveIfTurned 19 = .ok (.ifCond .eq 11, 3) := by decide +kernel
theorem dX8_driveIfTurned_22 : decode cX8_driveIfTurned 22 = .ok (.aload_n 0, 1) := by decide +kernel
theorem dX8_driveIfTurned_23 : decode cX8_driveIfTurned 23 = .ok (.getfield 32, 3) := by decide +kernel
theorem dX8_driveIfTurned_26 : decode cX8_driveIfTurned 26 = .ok (.iload_n 1, 1) := by decide +kernel
theorem dX8_driveIfTurned_27 : decode cX8_driveIfTurned 27 = .ok (.invokevirtual 164, 3) := by decide +kernel
theorem dX8_driveIfTurned_30 : decode cX8_driveIfTurned 30 = .ok (.aload_n 0, 1) := by decide +kernel
theorem dX8_driveIfTurned_31 : decode cX8_driveIfTurned 31 = .ok (.getfield 38, 3) := by decide +kernel
theorem dX8_driveIfTurned_34 : decode cX8_driveIfTurned 34 = .ok (.aload_n 0, 1) := by decide +kernel
theorem dX8_driveIfTurned_35 : decode cX8_driveIfTurned 35 = .ok (.getfield 32, 3) := by decide +kernel
theorem dX8_driveIfTurned_38 : decode cX8_driveIfTurned 38 = .ok (.invokevirtual 171, 3) := by decide +kernel
theorem dX8_driveIfTurned_41 : decode cX8_driveIfTurned 41 = .ok (.return_, 1) := by decide +kernel
set_option maxRecDepth 20000 in
theorem ggX8_mostLeftBy_X8_driveIfTurned : GoodIn wsX8_mostLeftBy wsX8_driveIfTurned := goodIn_r _ [11, 12, 13, 2, 14, 15, 16, 17, 18, 19, 20, 21, 22, 23, 24, 25, 26, 27, 28, 29, 30, 31, 32, 33, 34, 35, 36, 37, 38, 39, 40, 41, 42, 43, 44, 45, 46, 47, 48, 49, 50, 51, 52, 53, 54, 55, 56, 57, 58, 59, 60, 61, 62, 63, 64, 65, 66, 67, 68, 69, 70, 71, 72, 73, 74, 75, 76, 77, 78, 79, 80, 81, 82, 83, 84, 85, 86, 87, 88, 89, 93, 94, 95, 96, 97, 98, 99, 100, 101, 102, 103, 111, 112, 113, 114, 115, 116, 117, 118, 119, 120, 121, 122, 104, 105, 106, 107, 108, 109, 110] (by decide +kernel) (by decide +kernel)
set_option maxRecDepth 20000 in
theorem gX8_mostLeftBy_X8_driveIfTurned : GoodIn wsX8_mostLeftBy (wsV RX8 235 RX8 yX8_driveIfTurned wsX8_driveIfTurned) := goodIn_app (goodIn_of _ (by decide +kernel)) ggX8_mostLeftBy_X8_driveIfTurned
set_option maxRecDepth 20000 in
theorem ggX8_mostLeftBy_X8_within : GoodIn wsX8_mostLeftBy wsX8_within := goodIn_r _ [92] (by decide +kernel) (by decide +kernel)
set_option maxRecDepth 20000 in
theorem gX8_mostLeftBy_X8_within : GoodIn wsX8_mostLeftBy (va_wsS RX8 76 yX8_within wsX8_within) := goodIn_app (goodIn_of _ (by decide +kernel)) ggX8_mostLeftBy_X8_within
theorem dX8_mostLeftBy_0 : decode cX8_mostLeftBy 0 = .ok (.iconst 0, 1) := by decide +kernel
theorem dX8_mostLeftBy_1 : decode cX8_mostLeftBy 1 = .ok (.istore_n 3, 1) := by decide +kernel
theorem dX8_mostLeftBy_2 : decode cX8_mostLeftBy 2 = .ok (.iload_n 3, 1) := by decide +kernel
theorem dX8_mostLeftBy_3 : decode cX8_mostLeftBy 3 = .ok (.aload_n 0, 1) := by decide +kernel
theorem dX8_mostLeftBy_4 : decode cX8_mostLeftBy 4 = .ok (.getfield 72, 3) := by decide +kernel
theorem dX8_mostLeftBy_7 : decode cX8_mostLeftBy 7 = .ok (.arraylength, 1) := by decide +kernel
theorem dX8_mostLeftBy_8 : decode cX8_mostLeftBy 8 = .ok (.if_icmp .ge 16, 3) := by decide +kernel
theorem dX8_mostLeftBy_11 : decode cX8_mostLeftBy 11 = .ok (.aload_n 0, 1) := by decide +kernel
theorem dX8_mostLeftBy_12 : decode cX8_mostLeftBy 12 = .ok (.getfield 72, 3) := by decide +kernel
theorem dX8_mostLeftBy_15 : decode cX8_mostLeftBy 15 = .ok (.iload_n 3, 1) := by decide +kernel
theorem dX8_mostLeftBy_16 : decode cX8_mostLeftBy 16 = .ok (.iconst 0, 1) := by decide +kernel
theorem dX8_mostLeftBy_17 : decode cX8_mostLeftBy 17 = .ok (.iastore, 1) := by decide +kernel
theorem dX8_mostLeftBy_18 : decode cX8_mostLeftBy 18 = .ok (.iinc 3 1, 3) := by decide +kernel
theorem dX8_mostLeftBy_21 : decode cX8_mostLeftBy 21 = .ok (.goto (-19), 3) := by decide +kernel
theorem dX8_mostLeftBy_24 : decode cX8_mostLeftBy 24 = .ok (.iconst 0, 1) := by decide +kernel
theorem dX8_mostLeftBy_25 : decode cX8_mostLeftBy 25 = .ok (.istore_n 3, 1) := by decide +kernel
theorem dX8_mostLeftBy_26 : decode cX8_mostLeftBy 26 = .ok (.iconst 0, 1) := by decide +kernel
theorem dX8_mostLeftBy_27 : decode cX8_mostLeftBy 27 = .ok (.istore 4, 2) := by decide +kernel
theorem dX8_mostLeftBy_29 : decode cX8_mostLeftBy 29 = .ok (.iload 4, 2) := by decide +kernel
theorem dX8_mostLeftBy_31 : decode cX8_mostLeftBy 31 = .ok (.bipush 8, 2) := by decide +kernel
theorem dX8_mostLeftBy_33 : decode cX8_mostLeftBy 33 = .ok (.if_icmp .gt 78, 3) := by decide +kernel
theorem dX8_mostLeftBy_36 : decode cX8_mostLeftBy 36 = .ok (.iload_n 2, 1) := by decide +kernel
theorem dX8_mostLeftBy_37 : decode cX8_mostLeftBy 37 = .ok (.iload 4, 2) := by decide +kernel
theorem dX8_mostLeftBy_39 : decode cX8_mostLeftBy 39 = .ok (.ishr, 1) := by decide +kernel
theorem dX8_mostLeftBy_40 : decode cX8_mostLeftBy 40 = .ok (.iconst 1, 1) := by decide +kernel
theorem dX8_mostLeftBy_41 : decode cX8_mostLeftBy 41 = .ok (.iand, 1) := by decide +kernel
theorem dX8_mostLeftBy_42 : decode cX8_mostLeftBy 42 = .ok (.ifCond .eq 63, 3) := by decide +kernel
theorem dX8_mostLeftBy_45 : decode cX8_mostLeftBy 45 = .ok (.aload_n 0, 1) := by decide +kernel
theorem dX8_mostLeftBy_46 : decode cX8_mostLeftBy 46 = .ok (.iload 4, 2) := by decide +kernel
theorem dX8_mostLeftBy_48 : decode cX8_mostLeftBy 48 = .ok (.invokevirtual 235, 3) := by decide +kernel
theorem dX8_mostLeftBy_51 : decode cX8_mostLeftBy 51 = .ok (.aload_n 0, 1) := by decide +kernel
theorem dX8_mostLeftBy_52 : decode cX8_mostLeftBy 52 = .ok (.getfield 38, 3) := by decide +kernel
theorem dX8_mostLeftBy_55 : decode cX8_mostLeftBy 55 = .ok (.getfield 302, 3) := by decide +kernel
theorem dX8_mostLeftBy_58 : decode cX8_mostLeftBy 58 = .ok (.iload_n 1, 1) := by decide +kernel
theorem dX8_mostLeftBy_59 : decode cX8_mostLeftBy 59 = .ok (.iaload, 1) := by decide +kernel
theorem dX8_mostLeftBy_60 : decode cX8_mostLeftBy 60 = .ok (.istore 5, 2) := by decide +kernel
theorem dX8_mostLeftBy_62 : decode cX8_mostLeftBy 62 = .ok (.iload 5, 2) := by decide +kernel
theorem dX8_mostLeftBy_64 : decode cX8_mostLeftBy 64 = .ok (.iconst 0, 1) := by decide +kernel
theorem dX8_mostLeftBy_65 : decode cX8_mostLeftBy 65 = .ok (.bipush 7, 2) := by decide +kernel
theorem dX8_mostLeftBy_67 : decode cX8_mostLeftBy 67 = .ok (.invokestatic 76, 3) := by decide +kernel
theorem dX8_mostLeftBy_70 : decode cX8_mostLeftBy 70 = .ok (.ifCond .eq 8, 3) := by decide +kernel
theorem dX8_mostLeftBy_73 : decode cX8_mostLeftBy 73 = .ok (.iload 5, 2) := by decide +kernel
theorem dX8_mostLeftBy_75 : decode cX8_mostLeftBy 75 = .ok (.goto 5, 3) := by decide +kernel
theorem dX8_mostLeftBy_78 : decode cX8_mostLeftBy 78 = .ok (.bipush 8, 2) := by decide +kernel
theorem dX8_mostLeftBy_80 : decode cX8_mostLeftBy 80 = .ok (.istore 6, 2) := by decide +kernel
theorem dX8_mostLeftBy_82 : decode cX8_mostLeftBy 82 = .ok (.aload_n 0, 1) := by decide +kernel
theorem dX8_mostLeftBy_83 : decode cX8_mostLeftBy 83 = .ok (.getfield 72, 3) := by decide +kernel
theorem dX8_mostLeftBy_86 : decode cX8_mostLeftBy 86 = .ok (.iload 6, 2) := by decide +kernel
theorem dX8_mostLeftBy_88 : decode cX8_mostLeftBy 88 = .ok (.dup2, 1) := by decide +kernel
theorem dX8_mostLeftBy_89 : decode cX8_mostLeftBy 89 = .ok (.iaload, 1) := by decide +kernel
theorem dX8_mostLeftBy_90 : decode cX8_mostLeftBy 90 = .ok (.iconst 1, 1) := by decide +kernel
theorem dX8_mostLeftBy_91 : decode cX8_mostLeftBy 91 = .ok (.iadd, 1) := by decide +kernel
theorem dX8_mostLeftBy_92 : decode cX8_mostLeftBy 92 = .ok (.iastore, 1) := by decide +kernel
theorem dX8_mostLeftBy_93 : decode cX8_mostLeftBy 93 = .ok (.iload_n 3, 1) := by decide +kernel
theorem dX8_mostLeftBy_94 : decode cX8_mostLeftBy 94 = .ok (.aload_n 0, 1) := by decide +kernel
theorem dX8_mostLeftBy_95 : decode cX8_mostLeftBy 95 = .ok (.getfield 72, 3) := by decide +kernel
theorem dX8_mostLeftBy_98 : decode cX8_mostLeftBy 98 = .ok (.iload 6, 2) := by decide +kernel
theorem dX8_mostLeftBy_100 : decode cX8_mostLeftBy 100 = .ok (.iaload, 1) := by decide +kernel
theorem dX8_mostLeftBy_101 : decode cX8_mostLeftBy 101 = .ok (.invokestatic 318, 3) := by decide +kernel
theorem dX8_mostLeftBy_104 : decode cX8_mostLeftBy 104 = .ok (.istore_n 3, 1) := by decide +kernel
theorem dX8_mostLeftBy_105 : decode cX8_mostLeftBy 105 = .ok (.iinc 4 1, 3) := by decide +kernel
theorem dX8_mostLeftBy_108 : decode cX8_mostLeftBy 108 = .ok (.goto (-79), 3) := by decide +kernel
theorem dX8_mostLeftBy_111 : decode cX8_mostLeftBy 111 = .ok (.iload_n 3, 1) := by decide +kernel
theorem dX8_mostLeftBy_112 : decode cX8_mostLeftBy 112 = .ok (.ireturn, 1) := by decide +kernel
theorem dX8_nextSeed_0 : decode cX8_nextSeed 0 = .ok (.iload_n 0, 1) := by decide +kernel
theorem dX8_nextSeed_1 : decode cX8_nextSeed 1 = .ok (.ldc_w 323, 3) := by decide +kernel
theorem dX8_nextSeed_4 : decode cX8_nextSeed 4 = .ok (.imul, 1) := by decide +kernel
theorem dX8_nextSeed_5 : decode cX8_nextSeed 5 = .ok (.sipush 12345, 3) := by decide +kernel
theorem dX8_nextSeed_8 : decode cX8_nextSeed 8 = .ok (.iadd, 1) := by decide +kernel
theorem dX8_nextSeed_9 : decode cX8_nextSeed 9 = .ok (.ireturn, 1) := by decide +kernel
theorem dX8_drawnOf_0 : decode cX8_drawnOf 0 = .ok (.iload_n 0, 1) := by decide +kernel
theorem dX8_drawnOf_1 : decode cX8_drawnOf 1 = .ok (.bipush 16, 2) := by decide +kernel
theorem dX8_drawnOf_3 : decode cX8_drawnOf 3 = .ok (.iushr, 1) := by decide +kernel
theorem dX8_drawnOf_4 : decode cX8_drawnOf 4 = .ok (.sipush 32767, 3) := by decide +kernel
theorem dX8_drawnOf_7 : decode cX8_drawnOf 7 = .ok (.iand, 1) := by decide +kernel
theorem dX8_drawnOf_8 : decode cX8_drawnOf 8 = .ok (.ireturn, 1) := by decide +kernel
theorem dX8_imagesThere_0 : decode cX8_imagesThere 0 = .ok (.iconst 0, 1) := by decide +kernel
theorem dX8_imagesThere_1 : decode cX8_imagesThere 1 = .ok (.istore_n 1, 1) := by decide +kernel
theorem dX8_imagesThere_2 : decode cX8_imagesThere 2 = .ok (.iconst 0, 1) := by decide +kernel
theorem dX8_imagesThere_3 : decode cX8_imagesThere 3 = .ok (.istore_n 2, 1) := by decide +kernel
theorem dX8_imagesThere_4 : decode cX8_imagesThere 4 = .ok (.iload_n 2, 1) := by decide +kernel
theorem dX8_imagesThere_5 : decode cX8_imagesThere 5 = .ok (.iconst 2, 1) := by decide +kernel
theorem dX8_imagesThere_6 : decode cX8_imagesThere 6 = .ok (.if_icmp .ge 29, 3) := by decide +kernel
theorem dX8_imagesThere_9 : decode cX8_imagesThere 9 = .ok (.iload_n 1, 1) := by decide +kernel
theorem dX8_imagesThere_10 : decode cX8_imagesThere 10 = .ok (.aload_n 0, 1) := by decide +kernel
theorem dX8_imagesThere_11 : decode cX8_imagesThere 11 = .ok (.getfield 60, 3) := by decide +kernel
theorem dX8_imagesThere_14 : decode cX8_imagesThere 14 = .ok (.iload_n 2, 1) := by decide +kernel
theorem dX8_imagesThere_15 : decode cX8_imagesThere 15 = .ok (.aaload, 1) := by decide +kernel
theorem dX8_imagesThere_16 : decode cX8_imagesThere 16 = .ok (.getfield 102, 3) := by decide +kernel
theorem dX8_imagesThere_19 : decode cX8_imagesThere 19 = .ok (.ifCond .eq 7, 3) := by decide +kernel
theorem dX8_imagesThere_22 : decode cX8_imagesThere 22 = .ok (.iconst 1, 1) := by decide +kernel
theorem dX8_imagesThere_23 : decode cX8_imagesThere 23 = .ok (.goto 4, 3) := by decide +kernel
theorem dX8_imagesThere_26 : decode cX8_imagesThere 26 = .ok (.iconst 0, 1) := by decide +kernel
theorem dX8_imagesThere_27 : decode cX8_imagesThere 27 = .ok (.iadd, 1) := by decide +kernel
theorem dX8_imagesThere_28 : decode cX8_imagesThere 28 = .ok (.istore_n 1, 1) := by decide +kernel
theorem dX8_imagesThere_29 : decode cX8_imagesThere 29 = .ok (.iinc 2 1, 3) := by decide +kernel
theorem dX8_imagesThere_32 : decode cX8_imagesThere 32 = .ok (.goto (-28), 3) := by decide +kernel
theorem dX8_imagesThere_35 : decode cX8_imagesThere 35 = .ok (.iload_n 1, 1) := by decide +kernel
theorem dX8_imagesThere_36 : decode cX8_imagesThere 36 = .ok (.ireturn, 1) := by decide +kernel
set_option maxRecDepth 20000 in
theorem ggX9_init_X9_firstDraft : GoodIn wsX9_init wsX9_firstDraft := goodIn_r _ [26, 9, 27, 28, 29, 30, 31, 38, 39, 40, 41, 42, 43, 44, 45, 46, 47, 48, 49, 50, 51, 52, 53, 54, 55, 56, 57, 58, 59, 60, 61, 62, 63, 64, 65, 66, 67, 68, 69, 70, 71, 72, 73, 74] (by decide +kernel) (by decide +kernel)
set_option maxRecDepth 20000 in
theorem gX9_init_X9_firstDraft : GoodIn wsX9_init (wsV RX9 59 RX9 yX9_firstDraft wsX9_firstDraft) := goodIn_app (goodIn_of _ (by decide +kernel)) ggX9_init_X9_firstDraft
set_option maxRecDepth 20000 in
theorem ggX9_init_X9_keepDraft : GoodIn wsX9_init wsX9_keepDraft := goodIn_r _ [35, 5, 9, 27, 36, 28, 37, 29, 8, 38, 39, 40, 41, 42, 43, 44, 45, 46, 47, 48, 49, 50, 51, 52, 53, 54, 55, 56, 57, 58, 59, 60, 61, 62, 63, 64, 65, 66, 67, 68, 69, 70, 71, 72, 73, 74] (by decide +kernel) (by decide +kernel)
set_option maxRecDepth 20000 in
theorem gX9_init_X9_keepDraft : GoodIn wsX9_init (wsV RX9 62 RX9 yX9_keepDraft wsX9_keepDraft) := goodIn_app (goodIn_of _ (by decide +kernel)) ggX9_init_X9_keepDraft
theorem dX9_init_0 : decode cX9_init 0 = .ok (.aload_n 0, 1) := by decide +kernel
theorem dX9_init_1 : decode cX9_init 1 = .ok (.invokespecial 1, 3) := by decide +kernel
theorem dX9_init_4 : decode cX9_init 4 = .ok (.aload_n 0, 1) := by decide +kernel
theorem dX9_init_5 : decode cX9_init 5 = .ok (.sipush 177, 3) := by decide +kernel
theorem dX9_init_8 : decode cX9_init 8 = .ok (.newarray .int, 2) := by decide +kernel
theorem dX9_init_10 : decode cX9_init 10 = .ok (.putfield 7, 3) := by decide +kernel
theorem dX9_init_13 : decode cX9_init 13 = .ok (.aload_n 0, 1) := by decide +kernel
theorem dX9_init_14 : decode cX9_init 14 = .ok (.bipush 59, 2) := by decide +kernel
theorem dX9_init_16 : decode cX9_init 16 = .ok (.newarray .int, 2) := by decide +kernel
theorem dX9_init_18 : decode cX9_init 18 = .ok (.putfield 13, 3) := by decide +kernel
theorem dX9_init_21 : decode cX9_init 21 = .ok (.aload_n 0, 1) := by decide +kernel
theorem dX9_init_22 : decode cX9_init 22 = .ok (.iconst 2, 1) := by decide +kernel
theorem dX9_init_23 : decode cX9_init 23 = .ok (.newarray .boolean, 2) := by decide +kernel
theorem dX9_init_25 : decode cX9_init 25 = .ok (.putfield 16, 3) := by decide +kernel
theorem dX9_init_28 : decode cX9_init 28 = .ok (.aload_n 0, 1) := by decide +kernel
theorem dX9_init_29 : decode cX9_init 29 = .ok (.bipush 59, 2) := by decide +kernel
theorem dX9_init_31 : decode cX9_init 31 = .ok (.newarray .int, 2) := by decide +kernel
theorem dX9_init_33 : decode cX9_init 33 = .ok (.putfield 20, 3) := by decide +kernel
theorem dX9_init_36 : decode cX9_init 36 = .ok (.aload_n 0, 1) := by decide +kernel
theorem dX9_init_37 : decode cX9_init 37 = .ok (.sipush 160, 3) := by decide +kernel
theorem dX9_init_40 : decode cX9_init 40 = .ok (.newarray .int, 2) := by decide +kernel
theorem dX9_init_42 : decode cX9_init 42 = .ok (.putfield 23, 3) := by decide +kernel
theorem dX9_init_45 : decode cX9_init 45 = .ok (.aload_n 0, 1) := by decide +kernel
theorem dX9_init_46 : decode cX9_init 46 = .ok (.iconst 4, 1) := by decide +kernel
theorem dX9_init_47 : decode cX9_init 47 = .ok (.newarray .int, 2) := by decide +kernel
theorem dX9_init_49 : decode cX9_init 49 = .ok (.putfield 26, 3) := by decide +kernel
theorem dX9_init_52 : decode cX9_init 52 = .ok (.aload_n 0, 1) := by decide +kernel
theorem dX9_init_53 : decode cX9_init 53 = .ok (.iconst 4, 1) := by decide +kernel

theorem dX4_isLeft_0 : decode cX4_isLeft 0 = .ok (.aload_n 1, 1) := by decide +kernel
theorem dX4_isLeft_1 : decode cX4_isLeft 1 = .ok (.getfield 25, 3) := by decide +kernel
theorem dX4_isLeft_4 : decode cX4_isLeft 4 = .ok (.iload_n 2, 1) := by decide +kernel
theorem dX4_isLeft_5 : decode cX4_isLeft 5 = .ok (.iaload, 1) := by decide +kernel
theorem dX4_isLeft_6 : decode cX4_isLeft 6 = .ok (.iload_n 3, 1) := by decide +kernel
theorem dX4_isLeft_7 : decode cX4_isLeft 7 = .ok (.if_icmp .ne 28, 3) := by decide +kernel
theorem dX4_isLeft_10 : decode cX4_isLeft 10 = .ok (.aload_n 1, 1) := by decide +kernel
theorem dX4_isLeft_11 : decode cX4_isLeft 11 = .ok (.getfield 29, 3) := by decide +kernel
theorem dX4_isLeft_14 : decode cX4_isLeft 14 = .ok (.iload_n 2, 1) := by decide +kernel
theorem dX4_isLeft_15 : decode cX4_isLeft 15 = .ok (.iaload, 1) := by decide +kernel
theorem dX4_isLeft_16 : decode cX4_isLeft 16 = .ok (.ifCond .ne 19, 3) := by decide +kernel
theorem dX4_isLeft_19 : decode cX4_isLeft 19 = .ok (.aload_n 1, 1) := by decide +kernel
theorem dX4_isLeft_20 : decode cX4_isLeft 20 = .ok (.iload_n 2, 1) := by decide +kernel
theorem dX4_isLeft_21 : decode cX4_isLeft 21 = .ok (.aload_n 1, 1) := by decide +kernel
theorem dX4_isLeft_22 : decode cX4_isLeft 22 = .ok (.getfield 32, 3) := by decide +kernel
theorem dX4_isLeft_25 : decode cX4_isLeft 25 = .ok (.invokevirtual 35, 3) := by decide +kernel
theorem dX4_isLeft_28 : decode cX4_isLeft 28 = .ok (.ifCond .eq 7, 3) := by decide +kernel
theorem dX4_isLeft_31 : decode cX4_isLeft 31 = .ok (.iconst 1, 1) := by decide +kernel
theorem dX4_isLeft_32 : decode cX4_isLeft 32 = .ok (.goto 4, 3) := by decide +kernel
theorem dX4_isLeft_35 : decode cX4_isLeft 35 = .ok (.iconst 0, 1) := by decide +kernel
theorem dX4_isLeft_36 : decode cX4_isLeft 36 = .ok (.ireturn, 1) := by decide +kernel
set_option maxRecDepth 20000 in
theorem ggX4_thinkOdds_X4_countWays : GoodIn wsX4_thinkOdds wsX4_countWays := goodIn_r _ [6, 1, 7, 8, 9, 10, 11, 12, 5, 13, 14, 15, 16, 17, 18, 19, 20, 21, 22, 23, 24, 25, 26, 27, 28, 29, 30, 31, 32, 33, 34, 35, 36, 37, 38, 39, 40, 41, 42, 43, 44, 45, 46, 47, 48, 49, 50, 51, 52, 53, 54, 55, 56, 57, 58, 59, 60, 61, 62, 63, 64, 65, 66, 67, 68, 69, 70, 71, 72, 73, 81, 82, 83, 84, 85, 86, 87, 88, 89, 90, 91, 92, 93, 94, 95, 96, 97, 98, 99, 100, 101, 102] (by decide +kernel) (by decide +kernel)
set_option maxRecDepth 20000 in
theorem gX4_thinkOdds_X4_countWays : GoodIn wsX4_thinkOdds (wsV RX4 39 RX4 yX4_countWays wsX4_countWays) := goodIn_app (goodIn_of _ (by decide +kernel)) ggX4_thinkOdds_X4_countWays
set_option maxRecDepth 20000 in
theorem ggX4_thinkOdds_X4_setFraction : GoodIn wsX4_thinkOdds wsX4_setFraction := goodIn_r _ [77, 78, 79, 80, 81, 82, 83] (by decide +kernel) (by decide +kernel)
set_option maxRecDepth 20000 in
theorem gX4_thinkOdds_X4_setFraction : GoodIn wsX4_thinkOdds (wsV RX4 43 RX4 yX4_setFraction wsX4_setFraction) := goodIn_app (goodIn_of _ (by decide +kernel)) ggX4_thinkOdds_X4_setFraction
theorem dX4_thinkOdds_0 : decode cX4_thinkOdds 0 = .ok (.aload_n 0, 1) := by decide +kernel
theorem dX4_thinkOdds_1 : decode cX4_thinkOdds 1 = .ok (.aload_n 1, 1) := by decide +kernel
theorem dX4_thinkOdds_2 : decode cX4_thinkOdds 2 = .ok (.iload_n 2, 1) := by decide +kernel
theorem dX4_thinkOdds_3 : decode cX4_thinkOdds 3 = .ok (.invokevirtual 39, 3) := by decide +kernel
theorem dX4_thinkOdds_6 : decode cX4_thinkOdds 6 = .ok (.lstore 4, 2) := by decide +kernel
theorem dX4_thinkOdds_8 : decode cX4_thinkOdds 8 = .ok (.aload_n 0, 1) := by decide +kernel
theorem dX4_thinkOdds_9 : decode cX4_thinkOdds 9 = .ok (.aload_n 0, 1) := by decide +kernel
theorem dX4_thinkOdds_10 : decode cX4_thinkOdds 10 = .ok (.getfield 9, 3) := by decide +kernel
theorem dX4_thinkOdds_13 : decode cX4_thinkOdds 13 = .ok (.iload_n 3, 1) := by decide +kernel
theorem dX4_thinkOdds_14 : decode cX4_thinkOdds 14 = .ok (.laload, 1) := by decide +kernel
theorem dX4_thinkOdds_15 : decode cX4_thinkOdds 15 = .ok (.lload 4, 2) := by decide +kernel
theorem dX4_thinkOdds_17 : decode cX4_thinkOdds 17 = .ok (.invokevirtual 43, 3) := by decide +kernel
theorem dX4_thinkOdds_20 : decode cX4_thinkOdds 20 = .ok (.return_, 1) := by decide +kernel
set_option maxRecDepth 20000 in
theorem ggX4_thinkOut_X4_countWays : GoodIn wsX4_thinkOut wsX4_countWays := goodIn_r _ [6, 1, 7, 8, 9, 10, 11, 12, 5, 13, 14, 15, 16, 17, 18, 19, 20, 21, 22, 23, 24, 25, 26, 27, 28, 29, 30, 31, 32, 33, 34, 35, 36, 37, 38, 39, 40, 41, 42, 43, 44, 45, 46, 47, 48, 49, 50, 51, 52, 53, 54, 55, 56, 57, 58, 59, 60, 61, 62, 63, 64, 65, 66, 67, 68, 69, 70, 71, 72, 73, 88, 89, 90, 91, 92, 93, 94, 95, 96, 97, 98, 99, 100, 101, 102, 103, 104, 105, 106, 107, 108, 109] (by decide +kernel) (by decide +kernel)
set_option maxRecDepth 20000 in
theorem gX4_thinkOut_X4_countWays : GoodIn wsX4_thinkOut (wsV RX4 39 RX4 yX4_countWays wsX4_countWays) := goodIn_app (goodIn_of _ (by decide +kernel)) ggX4_thinkOut_X4_countWays
set_option maxRecDepth 20000 in
theorem ggX4_thinkOut_X0_toComeOf : GoodIn wsX4_thinkOut wsX0_toComeOf := goodIn_r _ [77, 78, 79, 80, 72, 69, 73, 91, 92, 93, 94, 95, 96, 97, 98, 99, 100, 101, 102, 103, 104, 105, 106] (by decide +kernel) (by decide +kernel)
set_option maxRecDepth 20000 in
theorem gX4_thinkOut_X0_toComeOf : GoodIn wsX4_thinkOut (wsV RX4 47 RX0 yX0_toComeOf wsX0_toComeOf) := goodIn_app (goodIn_of _ (by decide +kernel)) ggX4_thinkOut_X0_toComeOf
set_option maxRecDepth 20000 in
theorem ggX4_thinkOut_X4_setFraction : GoodIn wsX4_thinkOut wsX4_setFraction := goodIn_r _ [84, 85, 86, 87, 88, 89, 90] (by decide +kernel) (by decide +kernel)
set_option maxRecDepth 20000 in
theorem gX4_thinkOut_X4_setFraction : GoodIn wsX4_thinkOut (wsV RX4 43 RX4 yX4_setFraction wsX4_setFraction) := goodIn_app (goodIn_of _ (by decide +kernel)) ggX4_thinkOut_X4_setFraction
theorem dX4_thinkOut_0 : decode cX4_thinkOut 0 = .ok (.aload_n 0, 1) := by decide +kernel
theorem dX4_thinkOut_1 : decode cX4_thinkOut 1 = .ok (.aload_n 1, 1) := by decide +kernel
theorem dX4_thinkOut_2 : decode cX4_thinkOut 2 = .ok (.iload_n 2, 1) := by decide +kernel
theorem dX4_thinkOut_3 : decode cX4_thinkOut 3 = .ok (.invokevirtual 39, 3) := by decide +kernel
theorem dX4_thinkOut_6 : decode cX4_thinkOut 6 = .ok (.lstore_n 3, 1) := by decide +kernel
theorem dX4_thinkOut_7 : decode cX4_thinkOut 7 = .ok (.lconst 0, 1) := by decide +kernel
theorem dX4_thinkOut_8 : decode cX4_thinkOut 8 = .ok (.lstore 5, 2) := by decide +kernel
theorem dX4_thinkOut_10 : decode cX4_thinkOut 10 = .ok (.aload_n 1, 1) := by decide +kernel
theorem dX4_thinkOut_11 : decode cX4_thinkOut 11 = .ok (.iload_n 2, 1) := by decide +kernel
theorem dX4_thinkOut_12 : decode cX4_thinkOut 12 = .ok (.invokevirtual 47, 3) := by decide +kernel
theorem dX4_thinkOut_15 : decode cX4_thinkOut 15 = .ok (.istore 7, 2) := by decide +kernel
theorem dX4_thinkOut_17 : decode cX4_thinkOut 17 = .ok (.iload 7, 2) := by decide +kernel
theorem dX4_thinkOut_19 : decode cX4_thinkOut 19 = .ok (.bipush 9, 2) := by decide +kernel
theorem dX4_thinkOut_21 : decode cX4_thinkOut 21 = .ok (.if_icmp .gt 21, 3) := by decide +kernel
theorem dX4_thinkOut_24 : decode cX4_thinkOut 24 = .ok (.lload 5, 2) := by decide +kernel
theorem dX4_thinkOut_26 : decode cX4_thinkOut 26 = .ok (.aload_n 0, 1) := by decide +kernel
theorem dX4_thinkOut_27 : decode cX4_thinkOut 27 = .ok (.getfield 9, 3) := by decide +kernel
theorem dX4_thinkOut_30 : decode cX4_thinkOut 30 = .ok (.iload 7, 2) := by decide +kernel
theorem dX4_thinkOut_32 : decode cX4_thinkOut 32 = .ok (.laload, 1) := by decide +kernel
theorem dX4_thinkOut_33 : decode cX4_thinkOut 33 = .ok (.ladd, 1) := by decide +kernel
theorem dX4_thinkOut_34 : decode cX4_thinkOut 34 = .ok (.lstore 5, 2) := by decide +kernel
theorem dX4_thinkOut_36 : decode cX4_thinkOut 36 = .ok (.iinc 7 1, 3) := by decide +kernel
theorem dX4_thinkOut_39 : decode cX4_thinkOut 39 = .ok (.goto (-22), 3) := by decide +kernel
theorem dX4_thinkOut_42 : decode cX4_thinkOut 42 = .ok (.aload_n 0, 1) := by decide +kernel
theorem dX4_thinkOut_43 : decode cX4_thinkOut 43 = .ok (.lload 5, 2) := by decide +kernel
theorem dX4_thinkOut_45 : decode cX4_thinkOut 45 = .ok (.lload_n 3, 1) := by decide +kernel
theorem dX4_thinkOut_46 : decode cX4_thinkOut 46 = .ok (.invokevirtual 43, 3) := by decide +kernel
theorem dX4_thinkOut_49 : decode cX4_thinkOut 49 = .ok (.return_, 1) := by decide +kernel
set_option maxRecDepth 20000 in
theorem ggX4_countWays_X4_isLeft : GoodIn wsX4_countWays wsX4_isLeft := goodIn_r _ [9, 10, 11, 12, 13, 14, 15, 16, 17, 18, 19, 20, 21, 22, 23, 24, 25, 26, 27, 28, 73, 74, 75, 76, 77, 78, 79, 80, 81, 82, 83, 84, 85, 86, 87, 88] (by decide +kernel) (by decide +kernel)
set_option maxRecDepth 20000 in
theorem gX4_countWays_X4_isLeft : GoodIn wsX4_countWays (wsV RX4 21 RX4 yX4_isLeft wsX4_isLeft) := goodIn_app (goodIn_of _ (by decide +kernel)) ggX4_countWays_X4_isLeft
set_option maxRecDepth 20000 in
theorem ggX4_countWays_X0_riskBy : GoodIn wsX4_countWays wsX0_riskBy := goodIn_r _ [32, 33, 34, 35, 36, 16, 37, 18, 19, 20, 21, 22, 23, 24, 25, 26, 27, 28, 38, 39, 40, 41, 42, 43, 44, 45, 46, 47, 48, 49, 50, 51, 52, 53, 54, 55, 56, 57, 58, 59, 60, 61, 62, 63, 64, 65, 66, 67, 68, 69, 73, 74, 75, 76, 77, 78, 79, 80, 81, 82, 83, 84, 85, 86, 87, 88, 89, 90, 91] (by decide +kernel) (by decide +kernel)
set_option maxRecDepth 20000 in
theorem gX4_countWays_X0_riskBy : GoodIn wsX4_countWays (wsV RX4 54 RX0 yX0_riskBy wsX0_riskBy) := goodIn_app (goodIn_of _ (by decide +kernel)) ggX4_countWays_X0_riskBy
theorem dX4_countWays_0 : decode cX4_countWays 0 = .ok (.lconst 1, 1) := by decide +kernel
theorem dX4_countWays_1 : decode cX4_countWays 1 = .ok (.lstore_n 3, 1) := by decide +kernel
theorem dX4_countWays_2 : decode cX4_countWays 2 = .ok (.iconst 1, 1) := by decide +kernel
theorem dX4_countWays_3 : decode cX4_countWays 3 = .ok (.istore 5, 2) := by decide +kernel
theorem dX4_countWays_5 : decode cX4_countWays 5 = .ok (.iload 5, 2) := by decide +kernel
theorem dX4_countWays_7 : decode cX4_countWays 7 = .ok (.bipush 9, 2) := by decide +kernel
theorem dX4_countWays_9 : decode cX4_countWays 9 = .ok (.if_icmp .gt 17, 3) := by decide +kernel
theorem dX4_countWays_12 : decode cX4_countWays 12 = .ok (.aload_n 0, 1) := by decide +kernel
theorem dX4_countWays_13 : decode cX4_countWays 13 = .ok (.getfield 9, 3) := by decide +kernel
theorem dX4_countWays_16 : decode cX4_countWays 16 = .ok (.iload 5, 2) := by decide +kernel
theorem dX4_countWays_18 : decode cX4_countWays 18 = .ok (.lconst 0, 1) := by decide +kernel
theorem dX4_countWays_19 : decode cX4_countWays 19 = .ok (.lastore, 1) := by decide +kernel
theorem dX4_countWays_20 : decode cX4_countWays 20 = .ok (.iinc 5 1, 3) := by decide +kernel
theorem dX4_countWays_23 : decode cX4_countWays 23 = .ok (.goto (-18), 3) := by decide +kernel
theorem dX4_countWays_26 : decode cX4_countWays 26 = .ok (.aload_n 0, 1) := by decide +kernel
theorem dX4_countWays_27 : decode cX4_countWays 27 = .ok (.getfield 9, 3) := by decide +kernel
theorem dX4_countWays_30 : decode cX4_countWays 30 = .ok (.iconst 0, 1) := by decide +kernel
theorem dX4_countWays_31 : decode cX4_countWays 31 = .ok (.lconst 1, 1) := by decide +kernel
theorem dX4_countWays_32 : decode cX4_countWays 32 = .ok (.lastore, 1) := by decide +kernel
theorem dX4_countWays_33 : decode cX4_countWays 33 = .ok (.iconst 0, 1) := by decide +kernel
theorem dX4_countWays_34 : decode cX4_countWays 34 = .ok (.istore 5, 2) := by decide +kernel
theorem dX4_countWays_36 : decode cX4_countWays 36 = .ok (.iload 5, 2) := by decide +kernel
theorem dX4_countWays_38 : decode cX4_countWays 38 = .ok (.aload_n 1, 1) := by decide +kernel
theorem dX4_countWays_39 : decode cX4_countWays 39 = .ok (.getfield 15, 3) := by decide +kernel
theorem dX4_countWays_42 : decode cX4_countWays 42 = .ok (.if_icmp .ge 109, 3) := by decide +kernel
theorem dX4_countWays_45 : decode cX4_countWays 45 = .ok (.aload_n 0, 1) := by decide +kernel
theorem dX4_countWays_46 : decode cX4_countWays 46 = .ok (.aload_n 1, 1) := by decide +kernel
theorem dX4_countWays_47 : decode cX4_countWays 47 = .ok (.iload 5, 2) := by decide +kernel
theorem dX4_countWays_49 : decode cX4_countWays 49 = .ok (.iload_n 2, 1) := by decide +kernel
theorem dX4_countWays_50 : decode cX4_countWays 50 = .ok (.invokevirtual 21, 3) := by decide +kernel
theorem dX4_countWays_53 : decode cX4_countWays 53 = .ok (.ifCond .eq 92, 3) := by decide +kernel
theorem dX4_countWays_56 : decode cX4_countWays 56 = .ok (.aload_n 1, 1) := by decide +kernel
theorem dX4_countWays_57 : decode cX4_countWays 57 = .ok (.iload 5, 2) := by decide +kernel
theorem dX4_countWays_59 : decode cX4_countWays 59 = .ok (.aload_n 1, 1) := by decide +kernel
theorem dX4_countWays_60 : decode cX4_countWays 60 = .ok (.getfield 51, 3) := by decide +kernel
theorem dX4_countWays_63 : decode cX4_countWays 63 = .ok (.iload_n 2, 1) := by decide +kernel
theorem dX4_countWays_64 : decode cX4_countWays 64 = .ok (.iaload, 1) := by decide +kernel
theorem dX4_countWays_65 : decode cX4_countWays 65 = .ok (.invokevirtual 54, 3) := by decide +kernel
theorem dX4_countWays_68 : decode cX4_countWays 68 = .ok (.istore 6, 2) := by decide +kernel
theorem dX4_countWays_70 : decode cX4_countWays 70 = .ok (.bipush 9, 2) := by decide +kernel
theorem dX4_countWays_72 : decode cX4_countWays 72 = .ok (.istore 7, 2) := by decide +kernel
theorem dX4_countWays_74 : decode cX4_countWays 74 = .ok (.iload 7, 2) := by decide +kernel
theorem dX4_countWays_76 : decode cX4_countWays 76 = .ok (.ifCond .le 44, 3) := by decide +kernel
theorem dX4_countWays_79 : decode cX4_countWays 79 = .ok (.aload_n 0, 1) := by decide +kernel
theorem dX4_countWays_80 : decode cX4_countWays 80 = .ok (.getfield 9, 3) := by decide +kernel
theorem dX4_countWays_83 : decode cX4_countWays 83 = .ok (.iload 7, 2) := by decide +kernel
theorem dX4_countWays_85 : decode cX4_countWays 85 = .ok (.aload_n 0, 1) := by decide +kernel
theorem dX4_countWays_86 : decode cX4_countWays 86 = .ok (.getfield 9, 3) := by decide +kernel
theorem dX4_countWays_89 : decode cX4_countWays 89 = .ok (.iload 7, 2) := by decide +kernel
theorem dX4_countWays_91 : decode cX4_countWays 91 = .ok (.laload, 1) := by decide +kernel
theorem dX4_countWays_92 : decode cX4_countWays 92 = .ok (.bipush 16, 2) := by decide +kernel
theorem dX4_countWays_94 : decode cX4_countWays 94 = .ok (.iload 6, 2) := by decide +kernel
theorem dX4_countWays_96 : decode cX4_countWays 96 = .ok (.isub, 1) := by decide +kernel
theorem dX4_countWays_97 : decode cX4_countWays 97 = .ok (.i2l, 1) := by decide +kernel
theorem dX4_countWays_98 : decode cX4_countWays 98 = .ok (.lmul, 1) := by decide +kernel
theorem dX4_countWays_99 : decode cX4_countWays 99 = .ok (.aload_n 0, 1) := by decide +kernel
theorem dX4_countWays_100 : decode cX4_countWays 100 = .ok (.getfield 9, 3) := by decide +kernel
theorem dX4_countWays_103 : decode cX4_countWays 103 = .ok (.iload 7, 2) := by decide +kernel
theorem dX4_countWays_105 : decode cX4_countWays 105 = .ok (.iconst 1, 1) := by decide +kernel
theorem dX4_countWays_106 : decode cX4_countWays 106 = .ok (.isub, 1) := by decide +kernel
theorem dX4_countWays_107 : decode cX4_countWays 107 = .ok (.laload, 1) := by decide +kernel
theorem dX4_countWays_108 : decode cX4_countWays 108 = .ok (.iload 6, 2) := by decide +kernel
theorem dX4_countWays_110 : decode cX4_countWays 110 = .ok (.i2l, 1) := by decide +kernel
theorem dX4_countWays_111 : decode cX4_countWays 111 = .ok (.lmul, 1) := by decide +kernel
theorem dX4_countWays_112 : decode cX4_countWays 112 = .ok (.ladd, 1) := by decide +kernel
theorem dX4_countWays_113 : decode cX4_countWays 113 = .ok (.lastore, 1) := by decide +kernel
theorem dX4_countWays_114 : decode cX4_countWays 114 = .ok (.iinc 7 (-1), 3) := by decide +kernel
theorem dX4_countWays_117 : decode cX4_countWays 117 = .ok (.goto (-43), 3) := by decide +kernel
theorem dX4_countWays_120 : decode cX4_countWays 120 = .ok (.aload_n 0, 1) := by decide +kernel
theorem dX4_countWays_121 : decode cX4_countWays 121 = .ok (.getfield 9, 3) := by decide +kernel
theorem dX4_countWays_124 : decode cX4_countWays 124 = .ok (.iconst 0, 1) := by decide +kernel
theorem dX4_countWays_125 : decode cX4_countWays 125 = .ok (.aload_n 0, 1) := by decide +kernel
theorem dX4_countWays_126 : decode cX4_countWays 126 = .ok (.getfield 9, 3) := by decide +kernel
theorem dX4_countWays_129 : decode cX4_countWays 129 = .ok (.iconst 0, 1) := by decide +kernel
theorem dX4_countWays_130 : decode cX4_countWays 130 = .ok (.laload, 1) := by decide +kernel
theorem dX4_countWays_131 : decode cX4_countWays 131 = .ok (.bipush 16, 2) := by decide +kernel
theorem dX4_countWays_133 : decode cX4_countWays 133 = .ok (.iload 6, 2) := by decide +kernel
theorem dX4_countWays_135 : decode cX4_countWays 135 = .ok (.isub, 1) := by decide +kernel
theorem dX4_countWays_136 : decode cX4_countWays 136 = .ok (.i2l, 1) := by decide +kernel
theorem dX4_countWays_137 : decode cX4_countWays 137 = .ok (.lmul, 1) := by decide +kernel
theorem dX4_countWays_138 : decode cX4_countWays 138 = .ok (.lastore, 1) := by decide +kernel
theorem dX4_countWays_139 : decode cX4_countWays 139 = .ok (.lload_n 3, 1) := by decide +kernel
theorem dX4_countWays_140 : decode cX4_countWays 140 = .ok (.ldc2_w 58, 3) := by decide +kernel
theorem dX4_countWays_143 : decode cX4_countWays 143 = .ok (.lmul, 1) := by decide +kernel
theorem dX4_countWays_144 : decode cX4_countWays 144 = .ok (.lstore_n 3, 1) := by decide +kernel
theorem dX4_countWays_145 : decode cX4_countWays 145 = .ok (.iinc 5 1, 3) := by decide +kernel
theorem dX4_countWays_148 : decode cX4_countWays 148 = .ok (.goto (-112), 3) := by decide +kernel
theorem dX4_countWays_151 : decode cX4_countWays 151 = .ok (.lload_n 3, 1) := by decide +kernel
theorem dX4_countWays_152 : decode cX4_countWays 152 = .ok (.lreturn, 1) := by decide +kernel
theorem dX4_setFraction_0 : decode cX4_setFraction 0 = .ok (.aload_n 0, 1) := by decide +kernel
theorem dX4_setFraction_1 : decode cX4_setFraction 1 = .ok (.lload_n 1, 1) := by decide +kernel
theorem dX4_setFraction_2 : decode cX4_setFraction 2 = .ok (.putfield 60, 3) := by decide +kernel
theorem dX4_setFraction_5 : decode cX4_setFraction 5 = .ok (.aload_n 0, 1) := by decide +kernel
theorem dX4_setFraction_6 : decode cX4_setFraction 6 = .ok (.lload_n 3, 1) := by decide +kernel
theorem dX4_setFraction_7 : decode cX4_setFraction 7 = .ok (.putfield 64, 3) := by decide +kernel
theorem dX4_setFraction_10 : decode cX4_setFraction 10 = .ok (.iconst 0, 1) := by decide +kernel
theorem dX4_setFraction_11 : decode cX4_setFraction 11 = .ok (.istore 5, 2) := by decide +kernel
theorem dX4_setFraction_13 : decode cX4_setFraction 13 = .ok (.iload 5, 2) := by decide +kernel
theorem dX4_setFraction_15 : decode cX4_setFraction 15 = .ok (.bipush 36, 2) := by decide +kernel
theorem dX4_setFraction_17 : decode cX4_setFraction 17 = .ok (.if_icmp .ge 55, 3) := by decide +kernel
theorem dX4_setFraction_20 : decode cX4_setFraction 20 = .ok (.aload_n 0, 1) := by decide +kernel
theorem dX4_setFraction_21 : decode cX4_setFraction 21 = .ok (.getfield 64, 3) := by decide +kernel
theorem dX4_setFraction_24 : decode cX4_setFraction 24 = .ok (.lconst 1, 1) := by decide +kernel
theorem dX4_setFraction_25 : decode cX4_setFraction 25 = .ok (.lcmp, 1) := by decide +kernel
theorem dX4_setFraction_26 : decode cX4_setFraction 26 = .ok (.ifCond .le 46, 3) := by decide +kernel
theorem dX4_setFraction_29 : decode cX4_setFraction 29 = .ok (.aload_n 0, 1) := by decide +kernel
theorem dX4_setFraction_30 : decode cX4_setFraction 30 = .ok (.getfield 60, 3) := by decide +kernel
theorem dX4_setFraction_33 : decode cX4_setFraction 33 = .ok (.ldc2_w 67, 3) := by decide +kernel
theorem dX4_setFraction_36 : decode cX4_setFraction 36 = .ok (.lrem, 1) := by decide +kernel
theorem dX4_setFraction_37 : decode cX4_setFraction 37 = .ok (.lconst 0, 1) := by decide +kernel
theorem dX4_setFraction_38 : decode cX4_setFraction 38 = .ok (.lcmp, 1) := by decide +kernel
theorem dX4_setFraction_39 : decode cX4_setFraction 39 = .ok (.ifCond .ne 33, 3) := by decide +kernel
theorem dX4_setFraction_42 : decode cX4_setFraction 42 = .ok (.aload_n 0, 1) := by decide +kernel
theorem dX4_setFraction_43 : decode cX4_setFraction 43 = .ok (.dup, 1) := by decide +kernel
theorem dX4_setFraction_44 : decode cX4_setFraction 44 = .ok (.getfield 60, 3) := by decide +kernel
theorem dX4_setFraction_47 : decode cX4_setFraction 47 = .ok (.ldc2_w 67, 3) := by decide +kernel
theorem dX4_setFraction_50 : decode cX4_setFraction 50 = .ok (.ldiv, 1) := by decide +kernel
theorem dX4_setFraction_51 : decode cX4_setFraction 51 = .ok (.putfield 60, 3) := by decide +kernel
theorem dX4_setFraction_54 : decode cX4_setFraction 54 = .ok (.aload_n 0, 1) := by decide +kernel
theorem dX4_setFraction_55 : decode cX4_setFraction 55 = .ok (.dup, 1) := by decide +kernel
theorem dX4_setFraction_56 : decode cX4_setFraction 56 = .ok (.getfield 64, 3) := by decide +kernel
theorem dX4_setFraction_59 : decode cX4_setFraction 59 = .ok (.ldc2_w 67, 3) := by decide +kernel
theorem dX4_setFraction_62 : decode cX4_setFraction 62 = .ok (.ldiv, 1) := by decide +kernel
theorem dX4_setFraction_63 : decode cX4_setFraction 63 = .ok (.putfield 64, 3) := by decide +kernel
theorem dX4_setFraction_66 : decode cX4_setFraction 66 = .ok (.iinc 5 1, 3) := by decide +kernel
theorem dX4_setFraction_69 : decode cX4_setFraction 69 = .ok (.goto (-56), 3) := by decide +kernel
theorem dX4_setFraction_72 : decode cX4_setFraction 72 = .ok (.return_, 1) := by decide +kernel
set_option maxRecDepth 20000 in
theorem ggX4_safestFor_X0_riskBy : GoodIn wsX4_safestFor wsX0_riskBy := goodIn_r _ [7, 8, 9, 10, 11, 6, 12, 13, 14, 15, 16, 17, 18, 19, 20, 21, 22, 23, 24, 25, 26, 27, 28, 29, 30, 31, 32, 33, 34, 35, 36, 37, 38, 39, 40, 41, 42, 43, 44, 45, 46, 47, 48, 49, 50, 51, 52, 53, 54, 55, 56, 57, 58, 59, 60, 61, 62, 63, 64, 65, 66, 67, 68, 69, 70, 71, 72, 73, 74] (by decide +kernel) (by decide +kernel)
set_option maxRecDepth 20000 in
theorem gX4_safestFor_X0_riskBy : GoodIn wsX4_safestFor (wsV RX4 54 RX0 yX0_riskBy wsX0_riskBy) := goodIn_app (goodIn_of _ (by decide +kernel)) ggX4_safestFor_X0_riskBy
theorem dX4_safestFor_0 : decode cX4_safestFor 0 = .ok (.iconst 0, 1) := by decide +kernel
theorem dX4_safestFor_1 : decode cX4_safestFor 1 = .ok (.istore_n 3, 1) := by decide +kernel
theorem dX4_safestFor_2 : decode cX4_safestFor 2 = .ok (.aload_n 1, 1) := by decide +kernel
theorem dX4_safestFor_3 : decode cX4_safestFor 3 = .ok (.iload_n 2, 1) := by decide +kernel
theorem dX4_safestFor_4 : decode cX4_safestFor 4 = .ok (.aload_n 1, 1) := by decide +kernel
theorem dX4_safestFor_5 : decode cX4_safestFor 5 = .ok (.getfield 51, 3) := by decide +kernel
theorem dX4_safestFor_8 : decode cX4_safestFor 8 = .ok (.iconst 0, 1) := by decide +kernel
theorem dX4_safestFor_9 : decode cX4_safestFor 9 = .ok (.iaload, 1) := by decide +kernel
theorem dX4_safestFor_10 : decode cX4_safestFor 10 = .ok (.invokevirtual 54, 3) := by decide +kernel
theorem dX4_safestFor_13 : decode cX4_safestFor 13 = .ok (.istore 4, 2) := by decide +kernel
theorem dX4_safestFor_15 : decode cX4_safestFor 15 = .ok (.iconst 1, 1) := by decide +kernel
theorem dX4_safestFor_16 : decode cX4_safestFor 16 = .ok (.istore 5, 2) := by decide +kernel
theorem dX4_safestFor_18 : decode cX4_safestFor 18 = .ok (.iload 5, 2) := by decide +kernel
theorem dX4_safestFor_20 : decode cX4_safestFor 20 = .ok (.aload_n 1, 1) := by decide +kernel
theorem dX4_safestFor_21 : decode cX4_safestFor 21 = .ok (.getfield 69, 3) := by decide +kernel
theorem dX4_safestFor_24 : decode cX4_safestFor 24 = .ok (.if_icmp .ge 37, 3) := by decide +kernel
theorem dX4_safestFor_27 : decode cX4_safestFor 27 = .ok (.aload_n 1, 1) := by decide +kernel
theorem dX4_safestFor_28 : decode cX4_safestFor 28 = .ok (.iload_n 2, 1) := by decide +kernel
theorem dX4_safestFor_29 : decode cX4_safestFor 29 = .ok (.aload_n 1, 1) := by decide +kernel
theorem dX4_safestFor_30 : decode cX4_safestFor 30 = .ok (.getfield 51, 3) := by decide +kernel
theorem dX4_safestFor_33 : decode cX4_safestFor 33 = .ok (.iload 5, 2) := by decide +kernel
theorem dX4_safestFor_35 : decode cX4_safestFor 35 = .ok (.iaload, 1) := by decide +kernel
theorem dX4_safestFor_36 : decode cX4_safestFor 36 = .ok (.invokevirtual 54, 3) := by decide +kernel
theorem dX4_safestFor_39 : decode cX4_safestFor 39 = .ok (.istore 6, 2) := by decide +kernel
theorem dX4_safestFor_41 : decode cX4_safestFor 41 = .ok (.iload 6, 2) := by decide +kernel
theorem dX4_safestFor_43 : decode cX4_safestFor 43 = .ok (.iload 4, 2) := by decide +kernel
theorem dX4_safestFor_45 : decode cX4_safestFor 45 = .ok (.if_icmp .ge 10, 3) := by decide +kernel
theorem dX4_safestFor_48 : decode cX4_safestFor 48 = .ok (.iload 5, 2) := by decide +kernel
theorem dX4_safestFor_50 : decode cX4_safestFor 50 = .ok (.istore_n 3, 1) := by decide +kernel
theorem dX4_safestFor_51 : decode cX4_safestFor 51 = .ok (.iload 6, 2) := by decide +kernel
theorem dX4_safestFor_53 : decode cX4_safestFor 53 = .ok (.istore 4, 2) := by decide +kernel
theorem dX4_safestFor_55 : decode cX4_safestFor 55 = .ok (.iinc 5 1, 3) := by decide +kernel
theorem dX4_safestFor_58 : decode cX4_safestFor 58 = .ok (.goto (-40), 3) := by decide +kernel
theorem dX4_safestFor_61 : decode cX4_safestFor 61 = .ok (.iload_n 3, 1) := by decide +kernel
theorem dX4_safestFor_62 : decode cX4_safestFor 62 = .ok (.ireturn, 1) := by decide +kernel
set_option maxRecDepth 20000 in
theorem ggX4_savesOf_X4_leftOf : GoodIn wsX4_savesOf wsX4_leftOf := goodIn_r _ [5, 6, 7, 8, 9, 4, 10, 11, 12, 13, 14, 15, 16, 17, 18, 19, 20, 21, 22, 23, 24, 25, 26, 27, 28, 29, 49, 50, 51, 52, 53, 54, 55, 56, 57, 58, 59, 60, 61, 62, 63, 64] (by decide +kernel) (by decide +kernel)
set_option maxRecDepth 20000 in
theorem gX4_savesOf_X4_leftOf : GoodIn wsX4_savesOf (wsV RX4 72 RX4 yX4_leftOf wsX4_leftOf) := goodIn_app (goodIn_of _ (by decide +kernel)) ggX4_savesOf_X4_leftOf
set_option maxRecDepth 20000 in
theorem ggX4_savesOf_X6_bitsIn : GoodIn wsX4_savesOf wsX6_bitsIn := goodIn_r _ [31, 32, 33, 34, 35, 36, 37, 38] (by decide +kernel) (by decide +kernel)
set_option maxRecDepth 20000 in
theorem gX4_savesOf_X6_bitsIn_n76 : GoodIn wsX4_savesOf (wsX6_bitsIn) := ggX4_savesOf_X6_bitsIn
set_option maxRecDepth 20000 in
theorem ggX4_savesOf_X0_toComeOf : GoodIn wsX4_savesOf wsX0_toComeOf := goodIn_r _ [42, 43, 44, 45, 46, 47, 48, 49, 50, 51, 52, 53, 54, 55, 56, 57, 58, 59, 60, 61, 62, 63, 64] (by decide +kernel) (by decide +kernel)
set_option maxRecDepth 20000 in
theorem gX4_savesOf_X0_toComeOf : GoodIn wsX4_savesOf (wsV RX4 47 RX0 yX0_toComeOf wsX0_toComeOf) := goodIn_app (goodIn_of _ (by decide +kernel)) ggX4_savesOf_X0_toComeOf
theorem dX4_savesOf_0 : decode cX4_savesOf 0 = .ok (.aload_n 0, 1) := by decide +kernel
theorem dX4_savesOf_1 : decode cX4_savesOf 1 = .ok (.aload_n 1, 1) := by decide +kernel
theorem dX4_savesOf_2 : decode cX4_savesOf 2 = .ok (.iload_n 2, 1) := by decide +kernel
theorem dX4_savesOf_3 : decode cX4_savesOf 3 = .ok (.invokevirtual 72, 3) := by decide +kernel
theorem dX4_savesOf_6 : decode cX4_savesOf 6 = .ok (.istore_n 3, 1) := by decide +kernel
theorem dX4_savesOf_7 : decode cX4_savesOf 7 = .ok (.iload_n 3, 1) := by decide +kernel
theorem dX4_savesOf_8 : decode cX4_savesOf 8 = .ok (.invokestatic 76, 3) := by decide +kernel
theorem dX4_savesOf_11 : decode cX4_savesOf 11 = .ok (.aload_n 1, 1) := by decide +kernel
theorem dX4_savesOf_12 : decode cX4_savesOf 12 = .ok (.iload_n 2, 1) := by decide +kernel
theorem dX4_savesOf_13 : decode cX4_savesOf 13 = .ok (.invokevirtual 47, 3) := by decide +kernel
theorem dX4_savesOf_16 : decode cX4_savesOf 16 = .ok (.iconst 1, 1) := by decide +kernel
theorem dX4_savesOf_17 : decode cX4_savesOf 17 = .ok (.isub, 1) := by decide +kernel
theorem dX4_savesOf_18 : decode cX4_savesOf 18 = .ok (.isub, 1) := by decide +kernel
theorem dX4_savesOf_19 : decode cX4_savesOf 19 = .ok (.istore 4, 2) := by decide +kernel
theorem dX4_savesOf_21 : decode cX4_savesOf 21 = .ok (.iconst 0, 1) := by decide +kernel
theorem dX4_savesOf_22 : decode cX4_savesOf 22 = .ok (.istore 5, 2) := by decide +kernel
theorem dX4_savesOf_24 : decode cX4_savesOf 24 = .ok (.iconst 0, 1) := by decide +kernel
theorem dX4_savesOf_25 : decode cX4_savesOf 25 = .ok (.istore 6, 2) := by decide +kernel
theorem dX4_savesOf_27 : decode cX4_savesOf 27 = .ok (.iload 6, 2) := by decide +kernel
theorem dX4_savesOf_29 : decode cX4_savesOf 29 = .ok (.bipush 9, 2) := by decide +kernel
theorem dX4_savesOf_31 : decode cX4_savesOf 31 = .ok (.if_icmp .ge 36, 3) := by decide +kernel
theorem dX4_savesOf_34 : decode cX4_savesOf 34 = .ok (.iload 4, 2) := by decide +kernel
theorem dX4_savesOf_36 : decode cX4_savesOf 36 = .ok (.ifCond .le 31, 3) := by decide +kernel
theorem dX4_savesOf_39 : decode cX4_savesOf 39 = .ok (.iload_n 3, 1) := by decide +kernel
theorem dX4_savesOf_40 : decode cX4_savesOf 40 = .ok (.iload 6, 2) := by decide +kernel
theorem dX4_savesOf_42 : decode cX4_savesOf 42 = .ok (.ishr, 1) := by decide +kernel
theorem dX4_savesOf_43 : decode cX4_savesOf 43 = .ok (.iconst 1, 1) := by decide +kernel
theorem dX4_savesOf_44 : decode cX4_savesOf 44 = .ok (.iand, 1) := by decide +kernel
theorem dX4_savesOf_45 : decode cX4_savesOf 45 = .ok (.iconst 1, 1) := by decide +kernel
theorem dX4_savesOf_46 : decode cX4_savesOf 46 = .ok (.if_icmp .ne 15, 3) := by decide +kernel
theorem dX4_savesOf_49 : decode cX4_savesOf 49 = .ok (.iload 5, 2) := by decide +kernel
theorem dX4_savesOf_51 : decode cX4_savesOf 51 = .ok (.iconst 1, 1) := by decide +kernel
theorem dX4_savesOf_52 : decode cX4_savesOf 52 = .ok (.iload 6, 2) := by decide +kernel
theorem dX4_savesOf_54 : decode cX4_savesOf 54 = .ok (.ishl, 1) := by decide +kernel
theorem dX4_savesOf_55 : decode cX4_savesOf 55 = .ok (.ior, 1) := by decide +kernel
theorem dX4_savesOf_56 : decode cX4_savesOf 56 = .ok (.istore 5, 2) := by decide +kernel
theorem dX4_savesOf_58 : decode cX4_savesOf 58 = .ok (.iinc 4 (-1), 3) := by decide +kernel
theorem dX4_savesOf_61 : decode cX4_savesOf 61 = .ok (.iinc 6 1, 3) := by decide +kernel
theorem dX4_savesOf_64 : decode cX4_savesOf 64 = .ok (.goto (-37), 3) := by decide +kernel
theorem dX4_savesOf_67 : decode cX4_savesOf 67 = .ok (.iload 5, 2) := by decide +kernel
theorem dX4_savesOf_69 : decode cX4_savesOf 69 = .ok (.ireturn, 1) := by decide +kernel
set_option maxRecDepth 20000 in
theorem ggX4_firstOf_X0_countsOn : GoodIn wsX4_firstOf wsX0_countsOn := goodIn_r _ [6, 7, 8, 9, 10, 11, 5, 12, 13, 14, 15, 16, 17, 18, 19, 20, 21, 22, 23, 24, 25, 26, 27, 28, 29, 30, 31, 32, 33] (by decide +kernel) (by decide +kernel)
set_option maxRecDepth 20000 in
theorem gX4_firstOf_X0_countsOn : GoodIn wsX4_firstOf (wsV RX4 35 RX0 yX0_countsOn wsX0_countsOn) := goodIn_app (goodIn_of _ (by decide +kernel)) ggX4_firstOf_X0_countsOn
theorem dX4_firstOf_0 : decode cX4_firstOf 0 = .ok (.iconst 0, 1) := by decide +kernel
theorem dX4_firstOf_1 : decode cX4_firstOf 1 = .ok (.istore_n 3, 1) := by decide +kernel
theorem dX4_firstOf_2 : decode cX4_firstOf 2 = .ok (.iload_n 3, 1) := by decide +kernel
theorem dX4_firstOf_3 : decode cX4_firstOf 3 = .ok (.bipush 60, 2) := by decide +kernel
theorem dX4_firstOf_5 : decode cX4_firstOf 5 = .ok (.if_icmp .gt 25, 3) := by decide +kernel
theorem dX4_firstOf_8 : decode cX4_firstOf 8 = .ok (.aload_n 1, 1) := by decide +kernel
theorem dX4_firstOf_9 : decode cX4_firstOf 9 = .ok (.iload_n 2, 1) := by decide +kernel
theorem dX4_firstOf_10 : decode cX4_firstOf 10 = .ok (.aload_n 1, 1) := by decide +kernel
theorem dX4_firstOf_11 : decode cX4_firstOf 11 = .ok (.getfield 32, 3) := by decide +kernel
theorem dX4_firstOf_14 : decode cX4_firstOf 14 = .ok (.iload_n 3, 1) := by decide +kernel
theorem dX4_firstOf_15 : decode cX4_firstOf 15 = .ok (.iadd, 1) := by decide +kernel
theorem dX4_firstOf_16 : decode cX4_firstOf 16 = .ok (.invokevirtual 35, 3) := by decide +kernel
theorem dX4_firstOf_19 : decode cX4_firstOf 19 = .ok (.ifCond .eq 5, 3) := by decide +kernel
theorem dX4_firstOf_22 : decode cX4_firstOf 22 = .ok (.iload_n 3, 1) := by decide +kernel
theorem dX4_firstOf_23 : decode cX4_firstOf 23 = .ok (.ireturn, 1) := by decide +kernel
theorem dX4_firstOf_24 : decode cX4_firstOf 24 = .ok (.iinc 3 1, 3) := by decide +kernel
theorem dX4_firstOf_27 : decode cX4_firstOf 27 = .ok (.goto (-25), 3) := by decide +kernel
theorem dX4_firstOf_30 : decode cX4_firstOf 30 = .ok (.iconst (-1), 1) := by decide +kernel
theorem dX4_firstOf_31 : decode cX4_firstOf 31 = .ok (.ireturn, 1) := by decide +kernel
set_option maxRecDepth 20000 in
theorem ggX4_fitsBy_X4_tellsRisks : GoodIn wsX4_fitsBy wsX4_tellsRisks := goodIn_r _ [5, 6, 7, 8, 9, 10, 11, 12, 13, 14, 15, 16, 17, 18, 19, 20, 21, 22, 23, 24, 25, 26, 27, 28, 29, 30, 31, 32, 33, 34, 35, 36, 37, 38, 39, 40, 41, 42, 43, 44, 45, 46, 47, 48, 49, 50, 51, 52, 53, 54, 55, 56, 57, 58, 59, 60, 61, 62, 63, 64, 65, 66, 67, 68, 69, 70, 71, 72, 73, 74, 75, 76, 77, 78, 79, 80, 81, 82, 83] (by decide +kernel) (by decide +kernel)
set_option maxRecDepth 20000 in
theorem gX4_fitsBy_X4_tellsRisks : GoodIn wsX4_fitsBy (wsV RX4 79 RX4 yX4_tellsRisks wsX4_tellsRisks) := goodIn_app (goodIn_of _ (by decide +kernel)) ggX4_fitsBy_X4_tellsRisks
theorem dX4_fitsBy_0 : decode cX4_fitsBy 0 = .ok (.iconst 0, 1) := by decide +kernel
theorem dX4_fitsBy_1 : decode cX4_fitsBy 1 = .ok (.istore_n 3, 1) := by decide +kernel
theorem dX4_fitsBy_2 : decode cX4_fitsBy 2 = .ok (.iconst 0, 1) := by decide +kernel
theorem dX4_fitsBy_3 : decode cX4_fitsBy 3 = .ok (.istore 4, 2) := by decide +kernel
theorem dX4_fitsBy_5 : decode cX4_fitsBy 5 = .ok (.iload 4, 2) := by decide +kernel
theorem dX4_fitsBy_7 : decode cX4_fitsBy 7 = .ok (.bipush 9, 2) := by decide +kernel
theorem dX4_fitsBy_9 : decode cX4_fitsBy 9 = .ok (.if_icmp .gt 27, 3) := by decide +kernel
theorem dX4_fitsBy_12 : decode cX4_fitsBy 12 = .ok (.aload_n 0, 1) := by decide +kernel
theorem dX4_fitsBy_13 : decode cX4_fitsBy 13 = .ok (.aload_n 1, 1) := by decide +kernel
theorem dX4_fitsBy_14 : decode cX4_fitsBy 14 = .ok (.aload_n 2, 1) := by decide +kernel
theorem dX4_fitsBy_15 : decode cX4_fitsBy 15 = .ok (.iload 4, 2) := by decide +kernel
theorem dX4_fitsBy_17 : decode cX4_fitsBy 17 = .ok (.invokevirtual 79, 3) := by decide +kernel
theorem dX4_fitsBy_20 : decode cX4_fitsBy 20 = .ok (.ifCond .eq 10, 3) := by decide +kernel
theorem dX4_fitsBy_23 : decode cX4_fitsBy 23 = .ok (.iload_n 3, 1) := by decide +kernel
theorem dX4_fitsBy_24 : decode cX4_fitsBy 24 = .ok (.iconst 1, 1) := by decide +kernel
theorem dX4_fitsBy_25 : decode cX4_fitsBy 25 = .ok (.iload 4, 2) := by decide +kernel
theorem dX4_fitsBy_27 : decode cX4_fitsBy 27 = .ok (.ishl, 1) := by decide +kernel
theorem dX4_fitsBy_28 : decode cX4_fitsBy 28 = .ok (.ior, 1) := by decide +kernel
theorem dX4_fitsBy_29 : decode cX4_fitsBy 29 = .ok (.istore_n 3, 1) := by decide +kernel
theorem dX4_fitsBy_30 : decode cX4_fitsBy 30 = .ok (.iinc 4 1, 3) := by decide +kernel
theorem dX4_fitsBy_33 : decode cX4_fitsBy 33 = .ok (.goto (-28), 3) := by decide +kernel
theorem dX4_fitsBy_36 : decode cX4_fitsBy 36 = .ok (.iload_n 3, 1) := by decide +kernel
theorem dX4_fitsBy_37 : decode cX4_fitsBy 37 = .ok (.ireturn, 1) := by decide +kernel
set_option maxRecDepth 20000 in
theorem ggX4_tellsRisks_X0_riskBy : GoodIn wsX4_tellsRisks wsX0_riskBy := goodIn_r _ [8, 9, 10, 11, 12, 7, 13, 14, 15, 16, 17, 18, 19, 20, 21, 22, 23, 24, 25, 26, 27, 28, 29, 30, 31, 32, 33, 34, 35, 36, 37, 38, 39, 40, 41, 42, 43, 44, 45, 46, 47, 48, 49, 50, 51, 52, 53, 54, 55, 56, 60, 61, 62, 63, 64, 65, 66, 67, 68, 69, 70, 71, 72, 73, 74, 75, 76, 77, 78] (by decide +kernel) (by decide +kernel)
set_option maxRecDepth 20000 in
theorem gX4_tellsRisks_X0_riskBy : GoodIn wsX4_tellsRisks (wsV RX4 54 RX0 yX0_riskBy wsX0_riskBy) := goodIn_app (goodIn_of _ (by decide +kernel)) ggX4_tellsRisks_X0_riskBy
theorem dX4_tellsRisks_0 : decode cX4_tellsRisks 0 = .ok (.iconst 0, 1) := by decide +kernel
theorem dX4_tellsRisks_1 : decode cX4_tellsRisks 1 = .ok (.istore 4, 2) := by decide +kernel
theorem dX4_tellsRisks_3 : decode cX4_tellsRisks 3 = .ok (.iload 4, 2) := by decide +kernel
theorem dX4_tellsRisks_5 : decode cX4_tellsRisks 5 = .ok (.aload_n 2, 1) := by decide +kernel
theorem dX4_tellsRisks_6 : decode cX4_tellsRisks 6 = .ok (.getfield 83, 3) := by decide +kernel
theorem dX4_tellsRisks_9 : decode cX4_tellsRisks 9 = .ok (.if_icmp .ge 37, 3) := by decide +kernel
theorem dX4_tellsRisks_12 : decode cX4_tellsRisks 12 = .ok (.iload 4, 2) := by decide +kernel
theorem dX4_tellsRisks_14 : decode cX4_tellsRisks 14 = .ok (.aload_n 1, 1) := by decide +kernel
theorem dX4_tellsRisks_15 : decode cX4_tellsRisks 15 = .ok (.getfield 15, 3) := by decide +kernel
theorem dX4_tellsRisks_18 : decode cX4_tellsRisks 18 = .ok (.if_icmp .ge 20, 3) := by decide +kernel
theorem dX4_tellsRisks_21 : decode cX4_tellsRisks 21 = .ok (.aload_n 2, 1) := by decide +kernel
theorem dX4_tellsRisks_22 : decode cX4_tellsRisks 22 = .ok (.getfield 88, 3) := by decide +kernel
theorem dX4_tellsRisks_25 : decode cX4_tellsRisks 25 = .ok (.iload 4, 2) := by decide +kernel
theorem dX4_tellsRisks_27 : decode cX4_tellsRisks 27 = .ok (.iaload, 1) := by decide +kernel
theorem dX4_tellsRisks_28 : decode cX4_tellsRisks 28 = .ok (.aload_n 1, 1) := by decide +kernel
theorem dX4_tellsRisks_29 : decode cX4_tellsRisks 29 = .ok (.iload 4, 2) := by decide +kernel
theorem dX4_tellsRisks_31 : decode cX4_tellsRisks 31 = .ok (.iload_n 3, 1) := by decide +kernel
theorem dX4_tellsRisks_32 : decode cX4_tellsRisks 32 = .ok (.invokevirtual 54, 3) := by decide +kernel
theorem dX4_tellsRisks_35 : decode cX4_tellsRisks 35 = .ok (.if_icmp .eq 5, 3) := by decide +kernel
theorem dX4_tellsRisks_38 : decode cX4_tellsRisks 38 = .ok (.iconst 0, 1) := by decide +kernel
theorem dX4_tellsRisks_39 : decode cX4_tellsRisks 39 = .ok (.ireturn, 1) := by decide +kernel
theorem dX4_tellsRisks_40 : decode cX4_tellsRisks 40 = .ok (.iinc 4 1, 3) := by decide +kernel
theorem dX4_tellsRisks_43 : decode cX4_tellsRisks 43 = .ok (.goto (-40), 3) := by decide +kernel
theorem dX4_tellsRisks_46 : decode cX4_tellsRisks 46 = .ok (.iconst 1, 1) := by decide +kernel
theorem dX4_tellsRisks_47 : decode cX4_tellsRisks 47 = .ok (.ireturn, 1) := by decide +kernel
theorem dX5_init_0 : decode cX5_init 0 = .ok (.aload_n 0, 1) := by decide +kernel
theorem dX5_init_1 : decode cX5_init 1 = .ok (.invokespecial 3, 3) := by decide +kernel
theorem dX5_init_4 : decode cX5_init 4 = .ok (.aload_n 0, 1) := by decide +kernel
theorem dX5_init_5 : decode cX5_init 5 = .ok (.bipush 30, 2) := by decide +kernel
theorem dX5_init_7 : decode cX5_init 7 = .ok (.newarray .int, 2) := by decide +kernel
theorem dX5_init_9 : decode cX5_init 9 = .ok (.putfield 9, 3) := by decide +kernel
theorem dX5_init_12 : decode cX5_init 12 = .ok (.return_, 1) := by decide +kernel
theorem dX5_turnTo_0 : decode cX5_turnTo 0 = .ok (.aload_n 0, 1) := by decide +kernel
theorem dX5_turnTo_1 : decode cX5_turnTo 1 = .ok (.iload_n 1, 1) := by decide +kernel
theorem dX5_turnTo_2 : decode cX5_turnTo 2 = .ok (.putfield 15, 3) := by decide +kernel
theorem dX5_turnTo_5 : decode cX5_turnTo 5 = .ok (.aload_n 0, 1) := by decide +kernel
theorem dX5_turnTo_6 : decode cX5_turnTo 6 = .ok (.iload_n 2, 1) := by decide +kernel
theorem dX5_turnTo_7 : decode cX5_turnTo 7 = .ok (.putfield 19, 3) := by decide +kernel
theorem dX5_turnTo_10 : decode cX5_turnTo 10 = .ok (.aload_n 0, 1) := by decide +kernel
theorem dX5_turnTo_11 : decode cX5_turnTo 11 = .ok (.iload_n 3, 1) := by decide +kernel
theorem dX5_turnTo_12 : decode cX5_turnTo 12 = .ok (.putfield 22, 3) := by decide +kernel
theorem dX5_turnTo_15 : decode cX5_turnTo 15 = .ok (.aload_n 0, 1) := by decide +kernel
theorem dX5_turnTo_16 : decode cX5_turnTo 16 = .ok (.iconst 0, 1) := by decide +kernel
theorem dX5_turnTo_17 : decode cX5_turnTo 17 = .ok (.putfield 25, 3) := by decide +kernel
theorem dX5_turnTo_20 : decode cX5_turnTo 20 = .ok (.aload_n 0, 1) := by decide +kernel
theorem dX5_turnTo_21 : decode cX5_turnTo 21 = .ok (.iconst 0, 1) := by decide +kernel
theorem dX5_turnTo_22 : decode cX5_turnTo 22 = .ok (.putfield 28, 3) := by decide +kernel
theorem dX5_turnTo_25 : decode cX5_turnTo 25 = .ok (.return_, 1) := by decide +kernel
set_option maxRecDepth 20000 in
theorem ggX5_say_X5_rings : GoodIn wsX5_say wsX5_rings := goodIn_r _ [6, 7, 8, 9, 10, 5, 11, 12, 13, 2, 3, 4, 28, 29, 30, 31, 32, 33] (by decide +kernel) (by decide +kernel)
set_option maxRecDepth 20000 in
theorem gX5_say_X5_rings : GoodIn wsX5_say (wsV RX5 32 RX5 yX5_rings wsX5_rings) := goodIn_app (goodIn_of _ (by decide +kernel)) ggX5_say_X5_rings
set_option maxRecDepth 20000 in
theorem ggX5_say_X5_slips : GoodIn wsX5_say wsX5_slips := goodIn_r _ [17, 18, 1, 8, 9, 10, 5, 11, 12, 13, 14, 15, 16, 2, 3, 4, 6, 7, 28, 29, 30, 31, 32, 33] (by decide +kernel) (by decide +kernel)
set_option maxRecDepth 20000 in
theorem gX5_say_X5_slips : GoodIn wsX5_say (wsV RX5 36 RX5 yX5_slips wsX5_slips) := goodIn_app (goodIn_of _ (by decide +kernel)) ggX5_say_X5_slips
set_option maxRecDepth 20000 in
theorem ggX5_say_X5_cracks : GoodIn wsX5_say wsX5_cracks := goodIn_r _ [22, 7, 1, 18, 8, 9, 10, 5, 11, 12, 13, 19, 20, 21, 14, 15, 16, 17, 2, 3, 4, 6, 28, 29, 30, 31, 32, 33] (by decide +kernel) (by decide +kernel)
set_option maxRecDepth 20000 in
theorem gX5_say_X5_cracks : GoodIn wsX5_say (wsV RX5 39 RX5 yX5_cracks wsX5_cracks) := goodIn_app (goodIn_of _ (by decide +kernel)) ggX5_say_X5_cracks
set_option maxRecDepth 20000 in
theorem ggX5_say_X5_parts : GoodIn wsX5_say wsX5_parts := goodIn_r _ [26, 27, 1, 18, 7, 8, 9, 10, 5, 11, 12, 13, 23, 24, 25, 14, 15, 16, 17, 2, 3, 4, 6, 28, 29, 30, 31, 32, 33] (by decide +kernel) (by decide +kernel)
set_option maxRecDepth 20000 in
theorem gX5_say_X5_parts : GoodIn wsX5_say (wsV RX5 42 RX5 yX5_parts wsX5_parts) := goodIn_app (goodIn_of _ (by decide +kernel)) ggX5_say_X5_parts
theorem dX5_say_0 : decode cX5_say 0 = .ok (.iload_n 1, 1) := by decide +kernel
theorem dX5_say_1 : decode cX5_say 1 = .ok (.tableswitch 57 0 2 #[27, 37, 47], 27) := by decide +kernel
theorem dX5_say_28 : decode cX5_say 28 = .ok (.aload_n 0, 1) := by decide +kernel
theorem dX5_say_29 : decode cX5_say 29 = .ok (.aload_n 0, 1) := by decide +kernel
theorem dX5_say_30 : decode cX5_say 30 = .ok (.getfield 15, 3) := by decide +kernel
theorem dX5_say_33 : decode cX5_say 33 = .ok (.iload_n 2, 1) := by decide +kernel
theorem dX5_say_34 : decode cX5_say 34 = .ok (.invokevirtual 32, 3) := by decide +kernel
theorem dX5_say_37 : decode cX5_say 37 = .ok (.ireturn, 1) := by decide +kernel
theorem dX5_say_38 : decode cX5_say 38 = .ok (.aload_n 0, 1) := by decide +kernel
theorem dX5_say_39 : decode cX5_say 39 = .ok (.aload_n 0, 1) := by decide +kernel
theorem dX5_say_40 : decode cX5_say 40 = .ok (.getfield 15, 3) := by decide +kernel
theorem dX5_say_43 : decode cX5_say 43 = .ok (.iload_n 2, 1) := by decide +kernel
theorem dX5_say_44 : decode cX5_say 44 = .ok (.invokevirtual 36, 3) := by decide +kernel
theorem dX5_say_47 : decode cX5_say 47 = .ok (.ireturn, 1) := by decide +kernel
theorem dX5_say_48 : decode cX5_say 48 = .ok (.aload_n 0, 1) := by decide +kernel
theorem dX5_say_49 : decode cX5_say 49 = .ok (.aload_n 0, 1) := by decide +kernel
theorem dX5_say_50 : decode cX5_say 50 = .ok (.getfield 15, 3) := by decide +kernel
theorem dX5_say_53 : decode cX5_say 53 = .ok (.iload_n 2, 1) := by decide +kernel
theorem dX5_say_54 : decode cX5_say 54 = .ok (.invokevirtual 39, 3) := by decide +kernel
theorem dX5_say_57 : decode cX5_say 57 = .ok (.ireturn, 1) := by decide +kernel
theorem dX5_say_58 : decode cX5_say 58 = .ok (.aload_n 0, 1) := by decide +kernel
theorem dX5_say_59 : decode cX5_say 59 = .ok (.aload_n 0, 1) := by decide +kernel
theorem dX5_say_60 : decode cX5_say 60 = .ok (.getfield 15, 3) := by decide +kernel
theorem dX5_say_63 : decode cX5_say 63 = .ok (.iload_n 2, 1) := by decide +kernel
theorem dX5_say_64 : decode cX5_say 64 = .ok (.invokevirtual 42, 3) := by decide +kernel
theorem dX5_say_67 : decode cX5_say 67 = .ok (.ireturn, 1) := by decide +kernel
theorem dX5_begins_0 : decode cX5_begins 0 = .ok (.aload_n 0, 1) := by decide +kernel
theorem dX5_begins_1 : decode cX5_begins 1 = .ok (.getfield 25, 3) := by decide +kernel
theorem dX5_begins_4 : decode cX5_begins 4 = .ok (.bipush 30, 2) := by decide +kernel
theorem dX5_begins_6 : decode cX5_begins 6 = .ok (.if_icmp .ge 23, 3) := by decide +kernel
theorem dX5_begins_9 : decode cX5_begins 9 = .ok (.aload_n 0, 1) := by decide +kernel
theorem dX5_begins_10 : decode cX5_begins 10 = .ok (.getfield 9, 3) := by decide +kernel
theorem dX5_begins_13 : decode cX5_begins 13 = .ok (.aload_n 0, 1) := by decide +kernel
theorem dX5_begins_14 : decode cX5_begins 14 = .ok (.getfield 25, 3) := by decide +kernel
theorem dX5_begins_17 : decode cX5_begins 17 = .ok (.iload_n 1, 1) := by decide +kernel
theorem dX5_begins_18 : decode cX5_begins 18 = .ok (.iastore, 1) := by decide +kernel
theorem dX5_begins_19 : decode cX5_begins 19 = .ok (.aload_n 0, 1) := by decide +kernel
theorem dX5_begins_20 : decode cX5_begins 20 = .ok (.dup, 1) := by decide +kernel
theorem dX5_begins_21 : decode cX5_begins 21 = .ok (.getfield 25, 3) := by decide +kernel
theorem dX5_begins_24 : decode cX5_begins 24 = .ok (.iconst 1, 1) := by decide +kernel
theorem dX5_begins_25 : decode cX5_begins 25 = .ok (.iadd, 1) := by decide +kernel
theorem dX5_begins_26 : decode cX5_begins 26 = .ok (.putfield 25, 3) := by decide +kernel
theorem dX5_begins_29 : decode cX5_begins 29 = .ok (.return_, 1) := by decide +kernel
set_option maxRecDepth 20000 in
theorem ggX5_rings_X5_begins : GoodIn wsX5_rings wsX5_begins := goodIn_r _ [6, 7, 8, 12, 13, 14, 15, 16, 17] (by decide +kernel) (by decide +kernel)
set_option maxRecDepth 20000 in
theorem gX5_rings_X5_begins : GoodIn wsX5_rings (wsV RX5 45 RX5 yX5_begins wsX5_begins) := goodIn_app (goodIn_of _ (by decide +kernel)) ggX5_rings_X5_begins
set_option maxRecDepth 20000 in
theorem ggX5_rings_X5_rings : GoodIn wsX5_rings wsX5_rings := goodIn_r _ [0, 1, 2, 3, 4, 5, 6, 7, 8, 9, 10, 11, 12, 13, 14, 15, 16, 17] (by decide +kernel) (by decide +kernel)
set_option maxRecDepth 20000 in
theorem gX5_rings_X5_rings : GoodIn wsX5_rings (wsV RX5 32 RX5 yX5_rings wsX5_rings) := goodIn_app (goodIn_of _ (by decide +kernel)) ggX5_rings_X5_rings
theorem dX5_rings_0 : decode cX5_rings 0 = .ok (.iload_n 1, 1) := by decide +kernel
theorem dX5_rings_1 : decode cX5_rings 1 = .ok (.lookupswitch 74 #[(1, 35), (4, 50), (6, 65)], 35) := by decide +kernel
theorem dX5_rings_36 : decode cX5_rings 36 = .ok (.aload_n 0, 1) := by decide +kernel
theorem dX5_rings_37 : decode cX5_rings 37 = .ok (.bipush 20, 2) := by decide +kernel
theorem dX5_rings_39 : decode cX5_rings 39 = .ok (.invokevirtual 45, 3) := by decide +kernel
theorem dX5_rings_42 : decode cX5_rings 42 = .ok (.aload_n 0, 1) := by decide +kernel
theorem dX5_rings_43 : decode cX5_rings 43 = .ok (.iconst 0, 1) := by decide +kernel
theorem dX5_rings_44 : decode cX5_rings 44 = .ok (.iload_n 2, 1) := by decide +kernel
theorem dX5_rings_45 : decode cX5_rings 45 = .ok (.invokevirtual 32, 3) := by decide +kernel
theorem dX5_rings_48 : decode cX5_rings 48 = .ok (.iconst 4, 1) := by decide +kernel
theorem dX5_rings_49 : decode cX5_rings 49 = .ok (.isub, 1) := by decide +kernel
theorem dX5_rings_50 : decode cX5_rings 50 = .ok (.ireturn, 1) := by decide +kernel
theorem dX5_rings_51 : decode cX5_rings 51 = .ok (.aload_n 0, 1) := by decide +kernel
theorem dX5_rings_52 : decode cX5_rings 52 = .ok (.bipush 50, 2) := by decide +kernel
theorem dX5_rings_54 : decode cX5_rings 54 = .ok (.invokevirtual 45, 3) := by decide +kernel
theorem dX5_rings_57 : decode cX5_rings 57 = .ok (.aload_n 0, 1) := by decide +kernel
theorem dX5_rings_58 : decode cX5_rings 58 = .ok (.iconst 1, 1) := by decide +kernel
theorem dX5_rings_59 : decode cX5_rings 59 = .ok (.iload_n 2, 1) := by decide +kernel
theorem dX5_rings_60 : decode cX5_rings 60 = .ok (.invokevirtual 32, 3) := by decide +kernel
theorem dX5_rings_63 : decode cX5_rings 63 = .ok (.iconst 3, 1) := by decide +kernel
theorem dX5_rings_64 : decode cX5_rings 64 = .ok (.imul, 1) := by decide +kernel
theorem dX5_rings_65 : decode cX5_rings 65 = .ok (.ireturn, 1) := by decide +kernel
theorem dX5_rings_66 : decode cX5_rings 66 = .ok (.aload_n 0, 1) := by decide +kernel
theorem dX5_rings_67 : decode cX5_rings 67 = .ok (.bipush 70, 2) := by decide +kernel
theorem dX5_rings_69 : decode cX5_rings 69 = .ok (.invokevirtual 45, 3) := by decide +kernel
theorem dX5_rings_72 : decode cX5_rings 72 = .ok (.bipush 9, 2) := by decide +kernel
theorem dX5_rings_74 : decode cX5_rings 74 = .ok (.ireturn, 1) := by decide +kernel
theorem dX5_rings_75 : decode cX5_rings 75 = .ok (.aload_n 0, 1) := by decide +kernel
theorem dX5_rings_76 : decode cX5_rings 76 = .ok (.bipush 10, 2) := by decide +kernel
theorem dX5_rings_78 : decode cX5_rings 78 = .ok (.invokevirtual 45, 3) := by decide +kernel
theorem dX5_rings_81 : decode cX5_rings 81 = .ok (.iload_n 2, 1) := by decide +kernel
theorem dX5_rings_82 : decode cX5_rings 82 = .ok (.aload_n 0, 1) := by decide +kernel
theorem dX5_rings_83 : decode cX5_rings 83 = .ok (.getfield 19, 3) := by decide +kernel
theorem dX5_rings_86 : decode cX5_rings 86 = .ok (.iadd, 1) := by decide +kernel
theorem dX5_rings_87 : decode cX5_rings 87 = .ok (.ireturn, 1) := by decide +kernel
set_option maxRecDepth 20000 in
theorem ggX5_slips_X5_begins : GoodIn wsX5_slips wsX5_begins := goodIn_r _ [7, 8, 9, 18, 19, 20, 21, 22, 23] (by decide +kernel) (by decide +kernel)
set_option maxRecDepth 20000 in
theorem gX5_slips_X5_begins : GoodIn wsX5_slips (wsV RX5 45 RX5 yX5_begins wsX5_begins) := goodIn_app (goodIn_of _ (by decide +kernel)) ggX5_slips_X5_begins
set_option maxRecDepth 20000 in
theorem ggX5_slips_X5_slips : GoodIn wsX5_slips wsX5_slips := goodIn_r _ [0, 1, 2, 3, 4, 5, 6, 7, 8, 9, 10, 11, 12, 13, 14, 15, 16, 17, 18, 19, 20, 21, 22, 23] (by decide +kernel) (by decide +kernel)
set_option maxRecDepth 20000 in
theorem gX5_slips_X5_slips : GoodIn wsX5_slips (wsV RX5 36 RX5 yX5_slips wsX5_slips) := goodIn_app (goodIn_of _ (by decide +kernel)) ggX5_slips_X5_slips
set_option maxRecDepth 20000 in
theorem ggX5_slips_X5_rings : GoodIn wsX5_slips wsX5_rings := goodIn_r _ [16, 17, 3, 4, 5, 6, 7, 8, 9, 13, 14, 15, 18, 19, 20, 21, 22, 23] (by decide +kernel) (by decide +kernel)
set_option maxRecDepth 20000 in
theorem gX5_slips_X5_rings : GoodIn wsX5_slips (wsV RX5 32 RX5 yX5_rings wsX5_rings) := goodIn_app (goodIn_of _ (by decide +kernel)) ggX5_slips_X5_rings
theorem dX5_slips_0 : decode cX5_slips 0 = .ok (.iload_n 1, 1) := by decide +kernel
theorem dX5_slips_1 : decode cX5_slips 1 = .ok (.tableswitch 83 2 6 #[35, 83, 83, 50, 65], 35) := by decide +kernel
theorem dX5_slips_36 : decode cX5_slips 36 = .ok (.aload_n 0, 1) := by decide +kernel
theorem dX5_slips_37 : decode cX5_slips 37 = .ok (.bipush 30, 2) := by decide +kernel
theorem dX5_slips_39 : decode cX5_slips 39 = .ok (.invokevirtual 45, 3) := by decide +kernel
theorem dX5_slips_42 : decode cX5_slips 42 = .ok (.iconst 0, 1) := by decide +kernel
theorem dX5_slips_43 : decode cX5_slips 43 = .ok (.aload_n 0, 1) := by decide +kernel
theorem dX5_slips_44 : decode cX5_slips 44 = .ok (.iconst 0, 1) := by decide +kernel
theorem dX5_slips_45 : decode cX5_slips 45 = .ok (.iload_n 2, 1) := by decide +kernel
theorem dX5_slips_46 : decode cX5_slips 46 = .ok (.invokevirtual 36, 3) := by decide +kernel
theorem dX5_slips_49 : decode cX5_slips 49 = .ok (.isub, 1) := by decide +kernel
theorem dX5_slips_50 : decode cX5_slips 50 = .ok (.ireturn, 1) := by decide +kernel
theorem dX5_slips_51 : decode cX5_slips 51 = .ok (.aload_n 0, 1) := by decide +kernel
theorem dX5_slips_52 : decode cX5_slips 52 = .ok (.bipush 60, 2) := by decide +kernel
theorem dX5_slips_54 : decode cX5_slips 54 = .ok (.invokevirtual 45, 3) := by decide +kernel
theorem dX5_slips_57 : decode cX5_slips 57 = .ok (.aload_n 0, 1) := by decide +kernel
theorem dX5_slips_58 : decode cX5_slips 58 = .ok (.iconst 2, 1) := by decide +kernel
theorem dX5_slips_59 : decode cX5_slips 59 = .ok (.iload_n 2, 1) := by decide +kernel
theorem dX5_slips_60 : decode cX5_slips 60 = .ok (.iconst 1, 1) := by decide +kernel
theorem dX5_slips_61 : decode cX5_slips 61 = .ok (.iadd, 1) := by decide +kernel
theorem dX5_slips_62 : decode cX5_slips 62 = .ok (.invokevirtual 36, 3) := by decide +kernel
theorem dX5_slips_65 : decode cX5_slips 65 = .ok (.ireturn, 1) := by decide +kernel
theorem dX5_slips_66 : decode cX5_slips 66 = .ok (.aload_n 0, 1) := by decide +kernel
theorem dX5_slips_67 : decode cX5_slips 67 = .ok (.bipush 71, 2) := by decide +kernel
theorem dX5_slips_69 : decode cX5_slips 69 = .ok (.invokevirtual 45, 3) := by decide +kernel
theorem dX5_slips_72 : decode cX5_slips 72 = .ok (.aload_n 0, 1) := by decide +kernel
theorem dX5_slips_73 : decode cX5_slips 73 = .ok (.iconst 0, 1) := by decide +kernel
theorem dX5_slips_74 : decode cX5_slips 74 = .ok (.iload_n 2, 1) := by decide +kernel
theorem dX5_slips_75 : decode cX5_slips 75 = .ok (.invokevirtual 36, 3) := by decide +kernel
theorem dX5_slips_78 : decode cX5_slips 78 = .ok (.aload_n 0, 1) := by decide +kernel
theorem dX5_slips_79 : decode cX5_slips 79 = .ok (.getfield 22, 3) := by decide +kernel
theorem dX5_slips_82 : decode cX5_slips 82 = .ok (.iadd, 1) := by decide +kernel
theorem dX5_slips_83 : decode cX5_slips 83 = .ok (.ireturn, 1) := by decide +kernel
theorem dX5_slips_84 : decode cX5_slips 84 = .ok (.aload_n 0, 1) := by decide +kernel
theorem dX5_slips_85 : decode cX5_slips 85 = .ok (.bipush 11, 2) := by decide +kernel
theorem dX5_slips_87 : decode cX5_slips 87 = .ok (.invokevirtual 45, 3) := by decide +kernel
theorem dX5_slips_90 : decode cX5_slips 90 = .ok (.aload_n 0, 1) := by decide +kernel
theorem dX5_slips_91 : decode cX5_slips 91 = .ok (.aload_n 0, 1) := by decide +kernel
theorem dX5_slips_92 : decode cX5_slips 92 = .ok (.getfield 15, 3) := by decide +kernel
theorem dX5_slips_95 : decode cX5_slips 95 = .ok (.iload_n 2, 1) := by decide +kernel
theorem dX5_slips_96 : decode cX5_slips 96 = .ok (.invokevirtual 32, 3) := by decide +kernel
theorem dX5_slips_99 : decode cX5_slips 99 = .ok (.iconst 2, 1) := by decide +kernel
theorem dX5_slips_100 : decode cX5_slips 100 = .ok (.imul, 1) := by decide +kernel
theorem dX5_slips_101 : decode cX5_slips 101 = .ok (.ireturn, 1) := by decide +kernel
set_option maxRecDepth 20000 in
theorem ggX5_cracks_X5_begins : GoodIn wsX5_cracks wsX5_begins := goodIn_r _ [8, 9, 10, 22, 23, 24, 25, 26, 27] (by decide +kernel) (by decide +kernel)
set_option maxRecDepth 20000 in
theorem gX5_cracks_X5_begins : GoodIn wsX5_cracks (wsV RX5 45 RX5 yX5_begins wsX5_begins) := goodIn_app (goodIn_of _ (by decide +kernel)) ggX5_cracks_X5_begins
set_option maxRecDepth 20000 in
theorem ggX5_cracks_X5_cracks : GoodIn wsX5_cracks wsX5_cracks := goodIn_r _ [0, 1, 2, 3, 4, 5, 6, 7, 8, 9, 10, 11, 12, 13, 14, 15, 16, 17, 18, 19, 20, 21, 22, 23, 24, 25, 26, 27] (by decide +kernel) (by decide +kernel)
set_option maxRecDepth 20000 in
theorem gX5_cracks_X5_cracks : GoodIn wsX5_cracks (wsV RX5 39 RX5 yX5_cracks wsX5_cracks) := goodIn_app (goodIn_of _ (by decide +kernel)) ggX5_cracks_X5_cracks
set_option maxRecDepth 20000 in
theorem ggX5_cracks_X5_slips : GoodIn wsX5_cracks wsX5_slips := goodIn_r _ [17, 3, 2, 4, 5, 6, 7, 8, 9, 10, 14, 15, 16, 18, 19, 20, 21, 1, 22, 23, 24, 25, 26, 27] (by decide +kernel) (by decide +kernel)
set_option maxRecDepth 20000 in
theorem gX5_cracks_X5_slips : GoodIn wsX5_cracks (wsV RX5 36 RX5 yX5_slips wsX5_slips) := goodIn_app (goodIn_of _ (by decide +kernel)) ggX5_cracks_X5_slips
theorem dX5_cracks_0 : decode cX5_cracks 0 = .ok (.iload_n 1, 1) := by decide +kernel
theorem dX5_cracks_1 : decode cX5_cracks 1 = .ok (.lookupswitch 60 #[(3, 27), (4, 42)], 27) := by decide +kernel
theorem dX5_cracks_28 : decode cX5_cracks 28 = .ok (.aload_n 0, 1) := by decide +kernel
theorem dX5_cracks_29 : decode cX5_cracks 29 = .ok (.bipush 40, 2) := by decide +kernel
theorem dX5_cracks_31 : decode cX5_cracks 31 = .ok (.invokevirtual 45, 3) := by decide +kernel
theorem dX5_cracks_34 : decode cX5_cracks 34 = .ok (.aload_n 0, 1) := by decide +kernel
theorem dX5_cracks_35 : decode cX5_cracks 35 = .ok (.iconst 0, 1) := by decide +kernel
theorem dX5_cracks_36 : decode cX5_cracks 36 = .ok (.iload_n 2, 1) := by decide +kernel
theorem dX5_cracks_37 : decode cX5_cracks 37 = .ok (.iconst 2, 1) := by decide +kernel
theorem dX5_cracks_38 : decode cX5_cracks 38 = .ok (.idiv, 1) := by decide +kernel
theorem dX5_cracks_39 : decode cX5_cracks 39 = .ok (.invokevirtual 39, 3) := by decide +kernel
theorem dX5_cracks_42 : decode cX5_cracks 42 = .ok (.ireturn, 1) := by decide +kernel
theorem dX5_cracks_43 : decode cX5_cracks 43 = .ok (.aload_n 0, 1) := by decide +kernel
theorem dX5_cracks_44 : decode cX5_cracks 44 = .ok (.bipush 51, 2) := by decide +kernel
theorem dX5_cracks_46 : decode cX5_cracks 46 = .ok (.invokevirtual 45, 3) := by decide +kernel
theorem dX5_cracks_49 : decode cX5_cracks 49 = .ok (.aload_n 0, 1) := by decide +kernel
theorem dX5_cracks_50 : decode cX5_cracks 50 = .ok (.iconst 1, 1) := by decide +kernel
theorem dX5_cracks_51 : decode cX5_cracks 51 = .ok (.iload_n 2, 1) := by decide +kernel
theorem dX5_cracks_52 : decode cX5_cracks 52 = .ok (.invokevirtual 39, 3) := by decide +kernel
theorem dX5_cracks_55 : decode cX5_cracks 55 = .ok (.aload_n 0, 1) := by decide +kernel
theorem dX5_cracks_56 : decode cX5_cracks 56 = .ok (.getfield 19, 3) := by decide +kernel
theorem dX5_cracks_59 : decode cX5_cracks 59 = .ok (.ixor, 1) := by decide +kernel
theorem dX5_cracks_60 : decode cX5_cracks 60 = .ok (.ireturn, 1) := by decide +kernel
theorem dX5_cracks_61 : decode cX5_cracks 61 = .ok (.aload_n 0, 1) := by decide +kernel
theorem dX5_cracks_62 : decode cX5_cracks 62 = .ok (.bipush 12, 2) := by decide +kernel
theorem dX5_cracks_64 : decode cX5_cracks 64 = .ok (.invokevirtual 45, 3) := by decide +kernel
theorem dX5_cracks_67 : decode cX5_cracks 67 = .ok (.aload_n 0, 1) := by decide +kernel
theorem dX5_cracks_68 : decode cX5_cracks 68 = .ok (.aload_n 0, 1) := by decide +kernel
theorem dX5_cracks_69 : decode cX5_cracks 69 = .ok (.getfield 15, 3) := by decide +kernel
theorem dX5_cracks_72 : decode cX5_cracks 72 = .ok (.iload_n 2, 1) := by decide +kernel
theorem dX5_cracks_73 : decode cX5_cracks 73 = .ok (.invokevirtual 36, 3) := by decide +kernel
theorem dX5_cracks_76 : decode cX5_cracks 76 = .ok (.aload_n 0, 1) := by decide +kernel
theorem dX5_cracks_77 : decode cX5_cracks 77 = .ok (.getfield 22, 3) := by decide +kernel
theorem dX5_cracks_80 : decode cX5_cracks 80 = .ok (.isub, 1) := by decide +kernel
theorem dX5_cracks_81 : decode cX5_cracks 81 = .ok (.ireturn, 1) := by decide +kernel
set_option maxRecDepth 20000 in
theorem ggX5_parts_X5_begins : GoodIn wsX5_parts wsX5_begins := goodIn_r _ [9, 10, 11, 23, 24, 25, 26, 27, 28] (by decide +kernel) (by decide +kernel)
set_option maxRecDepth 20000 in
theorem gX5_parts_X5_begins : GoodIn wsX5_parts (wsV RX5 45 RX5 yX5_begins wsX5_begins) := goodIn_app (goodIn_of _ (by decide +kernel)) ggX5_parts_X5_begins
set_option maxRecDepth 20000 in
theorem ggX5_parts_X5_parts : GoodIn wsX5_parts wsX5_parts := goodIn_r _ [0, 1, 2, 3, 4, 5, 6, 7, 8, 9, 10, 11, 12, 13, 14, 15, 16, 17, 18, 19, 20, 21, 22, 23, 24, 25, 26, 27, 28] (by decide +kernel) (by decide +kernel)
set_option maxRecDepth 20000 in
theorem gX5_parts_X5_parts : GoodIn wsX5_parts (wsV RX5 42 RX5 yX5_parts wsX5_parts) := goodIn_app (goodIn_of _ (by decide +kernel)) ggX5_parts_X5_parts
set_option maxRecDepth 20000 in
theorem ggX5_parts_X5_slips : GoodIn wsX5_parts wsX5_slips := goodIn_r _ [18, 3, 2, 5, 6, 7, 8, 9, 10, 11, 15, 16, 17, 19, 20, 21, 22, 4, 23, 24, 25, 26, 27, 28] (by decide +kernel) (by decide +kernel)
set_option maxRecDepth 20000 in
theorem gX5_parts_X5_slips : GoodIn wsX5_parts (wsV RX5 36 RX5 yX5_slips wsX5_slips) := goodIn_app (goodIn_of _ (by decide +kernel)) ggX5_parts_X5_slips
theorem dX5_parts_0 : decode cX5_parts 0 = .ok (.iload_n 1, 1) := by decide +kernel
theorem dX5_parts_1 : decode cX5_parts 1 = .ok (.iconst 1, 1) := by decide +kernel
theorem dX5_parts_2 : decode cX5_parts 2 = .ok (.if_icmp .eq 8, 3) := by decide +kernel
theorem dX5_parts_5 : decode cX5_parts 5 = .ok (.iload_n 1, 1) := by decide +kernel
theorem dX5_parts_6 : decode cX5_parts 6 = .ok (.iconst 4, 1) := by decide +kernel
theorem dX5_parts_7 : decode cX5_parts 7 = .ok (.if_icmp .ne 39, 3) := by decide +kernel
theorem dX5_parts_10 : decode cX5_parts 10 = .ok (.aload_n 0, 1) := by decide +kernel
theorem dX5_parts_11 : decode cX5_parts 11 = .ok (.bipush 21, 2) := by decide +kernel
theorem dX5_parts_13 : decode cX5_parts 13 = .ok (.invokevirtual 45, 3) := by decide +kernel
theorem dX5_parts_16 : decode cX5_parts 16 = .ok (.aload_n 0, 1) := by decide +kernel
theorem dX5_parts_17 : decode cX5_parts 17 = .ok (.iconst 0, 1) := by decide +kernel
theorem dX5_parts_18 : decode cX5_parts 18 = .ok (.iload_n 2, 1) := by decide +kernel
theorem dX5_parts_19 : decode cX5_parts 19 = .ok (.invokevirtual 42, 3) := by decide +kernel
theorem dX5_parts_22 : decode cX5_parts 22 = .ok (.istore_n 3, 1) := by decide +kernel
theorem dX5_parts_23 : decode cX5_parts 23 = .ok (.aload_n 0, 1) := by decide +kernel
theorem dX5_parts_24 : decode cX5_parts 24 = .ok (.getfield 28, 3) := by decide +kernel
theorem dX5_parts_27 : decode cX5_parts 27 = .ok (.ifCond .eq 7, 3) := by decide +kernel
theorem dX5_parts_30 : decode cX5_parts 30 = .ok (.iconst 0, 1) := by decide +kernel
theorem dX5_parts_31 : decode cX5_parts 31 = .ok (.goto 14, 3) := by decide +kernel
theorem dX5_parts_34 : decode cX5_parts 34 = .ok (.iload_n 3, 1) := by decide +kernel
theorem dX5_parts_35 : decode cX5_parts 35 = .ok (.aload_n 0, 1) := by decide +kernel
theorem dX5_parts_36 : decode cX5_parts 36 = .ok (.aload_n 0, 1) := by decide +kernel
theorem dX5_parts_37 : decode cX5_parts 37 = .ok (.getfield 15, 3) := by decide +kernel
theorem dX5_parts_40 : decode cX5_parts 40 = .ok (.iconst 1, 1) := by decide +kernel
theorem dX5_parts_41 : decode cX5_parts 41 = .ok (.invokevirtual 36, 3) := by decide +kernel
theorem dX5_parts_44 : decode cX5_parts 44 = .ok (.iadd, 1) := by decide +kernel
theorem dX5_parts_45 : decode cX5_parts 45 = .ok (.ireturn, 1) := by decide +kernel
theorem dX5_parts_46 : decode cX5_parts 46 = .ok (.aload_n 0, 1) := by decide +kernel
theorem dX5_parts_47 : decode cX5_parts 47 = .ok (.bipush 13, 2) := by decide +kernel
theorem dX5_parts_49 : decode cX5_parts 49 = .ok (.invokevirtual 45, 3) := by decide +kernel
theorem dX5_parts_52 : decode cX5_parts 52 = .ok (.aload_n 0, 1) := by decide +kernel
theorem dX5_parts_53 : decode cX5_parts 53 = .ok (.getfield 22, 3) := by decide +kernel
theorem dX5_parts_56 : decode cX5_parts 56 = .ok (.aload_n 0, 1) := by decide +kernel
theorem dX5_parts_57 : decode cX5_parts 57 = .ok (.getfield 19, 3) := by decide +kernel
theorem dX5_parts_60 : decode cX5_parts 60 = .ok (.isub, 1) := by decide +kernel
theorem dX5_parts_61 : decode cX5_parts 61 = .ok (.istore_n 3, 1) := by decide +kernel
theorem dX5_parts_62 : decode cX5_parts 62 = .ok (.aload_n 0, 1) := by decide +kernel
theorem dX5_parts_63 : decode cX5_parts 63 = .ok (.iload_n 3, 1) := by decide +kernel
theorem dX5_parts_64 : decode cX5_parts 64 = .ok (.ifCond .ne 7, 3) := by decide +kernel
theorem dX5_parts_67 : decode cX5_parts 67 = .ok (.iconst 1, 1) := by decide +kernel
theorem dX5_parts_68 : decode cX5_parts 68 = .ok (.goto 4, 3) := by decide +kernel
theorem dX5_parts_71 : decode cX5_parts 71 = .ok (.iconst 0, 1) := by decide +kernel
theorem dX5_parts_72 : decode cX5_parts 72 = .ok (.putfield 28, 3) := by decide +kernel
theorem dX5_parts_75 : decode cX5_parts 75 = .ok (.aload_n 0, 1) := by decide +kernel
theorem dX5_parts_76 : decode cX5_parts 76 = .ok (.getfield 28, 3) := by decide +kernel
theorem dX5_parts_79 : decode cX5_parts 79 = .ok (.ifCond .eq 7, 3) := by decide +kernel
theorem dX5_parts_82 : decode cX5_parts 82 = .ok (.iconst 0, 1) := by decide +kernel
theorem dX5_parts_83 : decode cX5_parts 83 = .ok (.goto 6, 3) := by decide +kernel
theorem dX5_parts_86 : decode cX5_parts 86 = .ok (.iload_n 2, 1) := by decide +kernel
theorem dX5_parts_87 : decode cX5_parts 87 = .ok (.iload_n 3, 1) := by decide +kernel
theorem dX5_parts_88 : decode cX5_parts 88 = .ok (.idiv, 1) := by decide +kernel
theorem dX5_parts_89 : decode cX5_parts 89 = .ok (.ireturn, 1) := by decide +kernel
set_option maxRecDepth 20000 in
theorem ggX6_init_X0_init : GoodIn wsX6_init wsX0_init := goodIn_r _ [29, 30, 2, 3, 31, 21, 32, 33, 34, 35, 36, 37, 38, 39, 40, 41, 42, 43, 44, 45, 46, 47, 48, 49, 50, 73, 74, 75, 76, 77, 78, 79, 80, 81, 82, 83, 84, 85, 86, 87, 88, 115, 116, 117] (by decide +kernel) (by decide +kernel)
set_option maxRecDepth 20000 in
theorem gX6_init_X0_init : GoodIn wsX6_init (wsX0_init) := ggX6_init_X0_init
set_option maxRecDepth 20000 in
theorem ggX6_init_X1_init : GoodIn wsX6_init wsX1_init := goodIn_r _ [53, 54, 2, 3, 21, 55, 56, 97, 98, 99, 100, 101, 102] (by decide +kernel) (by decide +kernel)
set_option maxRecDepth 20000 in
theorem gX6_init_X1_init : GoodIn wsX6_init (wsX1_init) := ggX6_init_X1_init
set_option maxRecDepth 20000 in
theorem ggX6_init_X4_init : GoodIn wsX6_init wsX4_init := goodIn_r _ [59, 60, 2, 3, 61, 62, 103, 104, 105] (by decide +kernel) (by decide +kernel)
set_option maxRecDepth 20000 in
theorem gX6_init_X4_init : GoodIn wsX6_init (wsX4_init) := ggX6_init_X4_init
set_option maxRecDepth 20000 in
theorem ggX6_init_X5_init : GoodIn wsX6_init wsX5_init := goodIn_r _ [65, 66, 2, 3, 21, 67, 106, 107, 108, 109, 110, 111] (by decide +kernel) (by decide +kernel)
set_option maxRecDepth 20000 in
theorem gX6_init_X5_init : GoodIn wsX6_init (wsX5_init) := ggX6_init_X5_init
set_option maxRecDepth 20000 in
theorem ggX6_init_X2_init : GoodIn wsX6_init wsX2_init := goodIn_r _ [70, 71, 2, 3, 21, 72, 112, 113, 114] (by decide +kernel) (by decide +kernel)
set_option maxRecDepth 20000 in
theorem gX6_init_X2_init : GoodIn wsX6_init (wsX2_init) := ggX6_init_X2_init
theorem dX6_init_0 : decode cX6_init 0 = .ok (.aload_n 0, 1) := by decide +kernel
theorem dX6_init_1 : decode cX6_init 1 = .ok (.invokespecial 3, 3) := by decide +kernel
theorem dX6_init_4 : decode cX6_init 4 = .ok (.aload_n 0, 1) := by decide +kernel
theorem dX6_init_5 : decode cX6_init 5 = .ok (.new 9, 3) := by decide +kernel
theorem dX6_init_8 : decode cX6_init 8 = .ok (.dup, 1) := by decide +kernel
theorem dX6_init_9 : decode cX6_init 9 = .ok (.invokespecial 11, 3) := by decide +kernel
theorem dX6_init_12 : decode cX6_init 12 = .ok (.putfield 12, 3) := by decide +kernel
theorem dX6_init_15 : decode cX6_init 15 = .ok (.aload_n 0, 1) := by decide +kernel
theorem dX6_init_16 : decode cX6_init 16 = .ok (.new 9, 3) := by decide +kernel
theorem dX6_init_19 : decode cX6_init 19 = .ok (.dup, 1) := by decide +kernel
theorem dX6_init_20 : decode cX6_init 20 = .ok (.invokespecial 11, 3) := by decide +kernel
theorem dX6_init_23 : decode cX6_init 23 = .ok (.putfield 16, 3) := by decide +kernel
theorem dX6_init_26 : decode cX6_init 26 = .ok (.aload_n 0, 1) := by decide +kernel
theorem dX6_init_27 : decode cX6_init 27 = .ok (.new 19, 3) := by decide +kernel
theorem dX6_init_30 : decode cX6_init 30 = .ok (.dup, 1) := by decide +kernel
theorem dX6_init_31 : decode cX6_init 31 = .ok (.invokespecial 21, 3) := by decide +kernel
theorem dX6_init_34 : decode cX6_init 34 = .ok (.putfield 22, 3) := by decide +kernel
theorem dX6_init_37 : decode cX6_init 37 = .ok (.aload_n 0, 1) := by decide +kernel
theorem dX6_init_38 : decode cX6_init 38 = .ok (.new 26, 3) := by decide +kernel
theorem dX6_init_41 : decode cX6_init 41 = .ok (.dup, 1) := by decide +kernel
theorem dX6_init_42 : decode cX6_init 42 = .ok (.invokespecial 28, 3) := by decide +kernel
theorem dX6_init_45 : decode cX6_init 45 = .ok (.putfield 29, 3) := by decide +kernel
theorem dX6_init_48 : decode cX6_init 48 = .ok (.aload_n 0, 1) := by decide +kernel
theorem dX6_init_49 : decode cX6_init 49 = .ok (.new 33, 3) := by decide +kernel
theorem dX6_init_52 : decode cX6_init 52 = .ok (.dup, 1) := by decide +kernel
theorem dX6_init_53 : decode cX6_init 53 = .ok (.invokespecial 35, 3) := by decide +kernel
theorem dX6_init_56 : decode cX6_init 56 = .ok (.putfield 36, 3) := by decide +kernel
theorem dX6_init_59 : decode cX6_init 59 = .ok (.aload_n 0, 1) := by decide +kernel
theorem dX6_init_60 : decode cX6_init 60 = .ok (.bipush 7, 2) := by decide +kernel
theorem dX6_init_62 : decode cX6_init 62 = .ok (.newarray .int, 2) := by decide +kernel
theorem dX6_init_64 : decode cX6_init 64 = .ok (.putfield 40, 3) := by decide +kernel
theorem dX6_init_67 : decode cX6_init 67 = .ok (.aload_n 0, 1) := by decide +kernel
theorem dX6_init_68 : decode cX6_init 68 = .ok (.iconst 4, 1) := by decide +kernel
theorem dX6_init_69 : decode cX6_init 69 = .ok (.anewarray 44, 3) := by decide +kernel
theorem dX6_init_72 : decode cX6_init 72 = .ok (.putfield 46, 3) := by decide +kernel
theorem dX6_init_75 : decode cX6_init 75 = .ok (.iconst 0, 1) := by decide +kernel
theorem dX6_init_76 : decode cX6_init 76 = .ok (.istore_n 1, 1) := by decide +kernel
theorem dX6_init_77 : decode cX6_init 77 = .ok (.iload_n 1, 1) := by decide +kernel
theorem dX6_init_78 : decode cX6_init 78 = .ok (.iconst 4, 1) := by decide +kernel
theorem dX6_init_79 : decode cX6_init 79 = .ok (.if_icmp .ge 22, 3) := by decide +kernel
theorem dX6_init_82 : decode cX6_init 82 = .ok (.aload_n 0, 1) := by decide +kernel
theorem dX6_init_83 : decode cX6_init 83 = .ok (.getfield 46, 3) := by decide +kernel
theorem dX6_init_86 : decode cX6_init 86 = .ok (.iload_n 1, 1) := by decide +kernel
theorem dX6_init_87 : decode cX6_init 87 = .ok (.new 44, 3) := by decide +kernel
theorem dX6_init_90 : decode cX6_init 90 = .ok (.dup, 1) := by decide +kernel
theorem dX6_init_91 : decode cX6_init 91 = .ok (.invokespecial 50, 3) := by decide +kernel
theorem dX6_init_94 : decode cX6_init 94 = .ok (.aastore, 1) := by decide +kernel
theorem dX6_init_95 : decode cX6_init 95 = .ok (.iinc 1 1, 3) := by decide +kernel
theorem dX6_init_98 : decode cX6_init 98 = .ok (.goto (-21), 3) := by decide +kernel
theorem dX6_init_101 : decode cX6_init 101 = .ok (.return_, 1) := by decide +kernel
set_option maxRecDepth 20000 in
theorem ggX6_person_X6_within : GoodIn wsX6_person wsX6_within := goodIn_r _ [6] (by decide +kernel) (by decide +kernel)
set_option maxRecDepth 20000 in
theorem gX6_person_X6_within : GoodIn wsX6_person (va_wsS RX6 51 yX6_within wsX6_within) := goodIn_app (goodIn_of _ (by decide +kernel)) ggX6_person_X6_within
set_option maxRecDepth 20000 in
theorem ggX6_person_X6_fail : GoodIn wsX6_person wsX6_fail := goodIn_r _ [10, 11, 12, 22, 23, 24, 25, 26, 27, 28, 29] (by decide +kernel) (by decide +kernel)
set_option maxRecDepth 20000 in
theorem gX6_person_X6_fail : GoodIn wsX6_person (wsV RX6 55 RX6 yX6_fail wsX6_fail) := goodIn_app (goodIn_of _ (by decide +kernel)) ggX6_person_X6_fail
set_option maxRecDepth 20000 in
theorem ggX6_person_X0_addPerson : GoodIn wsX6_person wsX0_addPerson := goodIn_r _ [17, 18, 19, 20, 21, 30, 31, 32, 33, 34, 35, 36, 37, 38, 39, 40, 41, 42, 43, 44, 45] (by decide +kernel) (by decide +kernel)
set_option maxRecDepth 20000 in
theorem gX6_person_X0_addPerson : GoodIn wsX6_person (wsV RX6 63 RX0 yX0_addPerson wsX0_addPerson) := goodIn_app (goodIn_of _ (by decide +kernel)) ggX6_person_X0_addPerson
theorem dX6_person_0 : decode cX6_person 0 = .ok (.iload_n 1, 1) := by decide +kernel
theorem dX6_person_1 : decode cX6_person 1 = .ok (.bipush 9, 2) := by decide +kernel
theorem dX6_person_3 : decode cX6_person 3 = .ok (.invokestatic 51, 3) := by decide +kernel
theorem dX6_person_6 : decode cX6_person 6 = .ok (.ifCond .eq 12, 3) := by decide +kernel
theorem dX6_person_9 : decode cX6_person 9 = .ok (.iload_n 2, 1) := by decide +kernel
theorem dX6_person_10 : decode cX6_person 10 = .ok (.bipush 9, 2) := by decide +kernel
theorem dX6_person_12 : decode cX6_person 12 = .ok (.invokestatic 51, 3) := by decide +kernel
theorem dX6_person_15 : decode cX6_person 15 = .ok (.ifCond .ne 9, 3) := by decide +kernel
theorem dX6_person_18 : decode cX6_person 18 = .ok (.aload_n 0, 1) := by decide +kernel
theorem dX6_person_19 : decode cX6_person 19 = .ok (.iconst 1, 1) := by decide +kernel
theorem dX6_person_20 : decode cX6_person 20 = .ok (.invokevirtual 55, 3) := by decide +kernel
theorem dX6_person_23 : decode cX6_person 23 = .ok (.ireturn, 1) := by decide +kernel
theorem dX6_person_24 : decode cX6_person 24 = .ok (.aload_n 0, 1) := by decide +kernel
theorem dX6_person_25 : decode cX6_person 25 = .ok (.getfield 12, 3) := by decide +kernel
theorem dX6_person_28 : decode cX6_person 28 = .ok (.getfield 59, 3) := by decide +kernel
theorem dX6_person_31 : decode cX6_person 31 = .ok (.iconst 5, 1) := by decide +kernel
theorem dX6_person_32 : decode cX6_person 32 = .ok (.if_icmp .lt 9, 3) := by decide +kernel
theorem dX6_person_35 : decode cX6_person 35 = .ok (.aload_n 0, 1) := by decide +kernel
theorem dX6_person_36 : decode cX6_person 36 = .ok (.iconst 4, 1) := by decide +kernel
theorem dX6_person_37 : decode cX6_person 37 = .ok (.invokevirtual 55, 3) := by decide +kernel
theorem dX6_person_40 : decode cX6_person 40 = .ok (.ireturn, 1) := by decide +kernel
theorem dX6_person_41 : decode cX6_person 41 = .ok (.aload_n 0, 1) := by decide +kernel
theorem dX6_person_42 : decode cX6_person 42 = .ok (.getfield 12, 3) := by decide +kernel
theorem dX6_person_45 : decode cX6_person 45 = .ok (.iload_n 1, 1) := by decide +kernel
theorem dX6_person_46 : decode cX6_person 46 = .ok (.iload_n 2, 1) := by decide +kernel
theorem dX6_person_47 : decode cX6_person 47 = .ok (.invokevirtual 63, 3) := by decide +kernel
theorem dX6_person_50 : decode cX6_person 50 = .ok (.ireturn, 1) := by decide +kernel
set_option maxRecDepth 20000 in
theorem ggX6_personIs_X0_isPerson : GoodIn wsX6_personIs wsX0_isPerson := goodIn_r _ [9, 10, 82, 83, 84, 85, 86, 87, 88, 89, 90, 91, 92, 93, 94, 95, 96, 97] (by decide +kernel) (by decide +kernel)
set_option maxRecDepth 20000 in
theorem gX6_personIs_X0_isPerson : GoodIn wsX6_personIs (wsV RX6 67 RX0 yX0_isPerson wsX0_isPerson) := goodIn_app (goodIn_of _ (by decide +kernel)) ggX6_personIs_X0_isPerson
set_option maxRecDepth 20000 in
theorem ggX6_personIs_X6_fail : GoodIn wsX6_personIs wsX6_fail := goodIn_r _ [15, 16, 17, 74, 75, 76, 77, 78, 79, 80, 81] (by decide +kernel) (by decide +kernel)
set_option maxRecDepth 20000 in
theorem gX6_personIs_X6_fail : GoodIn wsX6_personIs (wsV RX6 55 RX6 yX6_fail wsX6_fail) := goodIn_app (goodIn_of _ (by decide +kernel)) ggX6_personIs_X6_fail
set_option maxRecDepth 20000 in
theorem ggX6_personIs_X0_isThrough : GoodIn wsX6_personIs wsX0_isThrough := goodIn_r _ [21, 22, 23, 82, 83, 84, 85, 86, 87, 88, 89, 90, 91, 92, 93, 94, 95, 96, 97] (by decide +kernel) (by decide +kernel)
set_option maxRecDepth 20000 in
theorem gX6_personIs_X0_isThrough : GoodIn wsX6_personIs (wsV RX6 80 RX0 yX0_isThrough wsX0_isThrough) := goodIn_app (goodIn_of _ (by decide +kernel)) ggX6_personIs_X0_isThrough
set_option maxRecDepth 20000 in
theorem ggX6_personIs_X6_bit : GoodIn wsX6_personIs wsX6_bit := goodIn_r _ [26] (by decide +kernel) (by decide +kernel)
set_option maxRecDepth 20000 in
theorem gX6_personIs_X6_bit : GoodIn wsX6_personIs (va_wsS RX6 83 yX6_bit wsX6_bit) := goodIn_app (goodIn_of _ (by decide +kernel)) ggX6_personIs_X6_bit
set_option maxRecDepth 20000 in
theorem ggX6_personIs_X0_yearsOf : GoodIn wsX6_personIs wsX0_yearsOf := goodIn_r _ [30, 31, 32, 33, 8, 34, 23, 22, 35, 36, 37, 38, 39, 40, 41, 42, 43, 44, 25, 14, 26, 45, 46, 47, 48, 49, 50, 51, 52, 53, 54, 55, 56, 57, 58, 59, 60, 61, 62, 63, 64, 65, 66, 67, 68, 69, 70, 71, 72, 73, 82, 83, 84, 85, 86, 87, 88, 89, 90, 91, 92, 93, 94, 95, 96, 97, 98, 99, 100] (by decide +kernel) (by decide +kernel)
set_option maxRecDepth 20000 in
theorem gX6_personIs_X0_yearsOf : GoodIn wsX6_personIs (wsV RX6 87 RX0 yX0_yearsOf wsX0_yearsOf) := goodIn_app (goodIn_of _ (by decide +kernel)) ggX6_personIs_X0_yearsOf
theorem dX6_personIs_0 : decode cX6_personIs 0 = .ok (.aload_n 0, 1) := by decide +kernel
theorem dX6_personIs_1 : decode cX6_personIs 1 = .ok (.getfield 12, 3) := by decide +kernel
theorem dX6_personIs_4 : decode cX6_personIs 4 = .ok (.iload_n 1, 1) := by decide +kernel
theorem dX6_personIs_5 : decode cX6_personIs 5 = .ok (.invokevirtual 67, 3) := by decide +kernel
theorem dX6_personIs_8 : decode cX6_personIs 8 = .ok (.ifCond .ne 9, 3) := by decide +kernel
theorem dX6_personIs_11 : decode cX6_personIs 11 = .ok (.aload_n 0, 1) := by decide +kernel
theorem dX6_personIs_12 : decode cX6_personIs 12 = .ok (.iconst 1, 1) := by decide +kernel
theorem dX6_personIs_13 : decode cX6_personIs 13 = .ok (.invokevirtual 55, 3) := by decide +kernel
theorem dX6_personIs_16 : decode cX6_personIs 16 = .ok (.ireturn, 1) := by decide +kernel
theorem dX6_personIs_17 : decode cX6_personIs 17 = .ok (.iload_n 2, 1) := by decide +kernel
theorem dX6_personIs_18 : decode cX6_personIs 18 = .ok (.tableswitch 85 0 4 #[34, 44, 54, 64, 76], 34) := by decide +kernel
theorem dX6_personIs_52 : decode cX6_personIs 52 = .ok (.aload_n 0, 1) := by decide +kernel
theorem dX6_personIs_53 : decode cX6_personIs 53 = .ok (.getfield 12, 3) := by decide +kernel
theorem dX6_personIs_56 : decode cX6_personIs 56 = .ok (.getfield 71, 3) := by decide +kernel
theorem dX6_personIs_59 : decode cX6_personIs 59 = .ok (.iload_n 1, 1) := by decide +kernel
theorem dX6_personIs_60 : decode cX6_personIs 60 = .ok (.iaload, 1) := by decide +kernel
theorem dX6_personIs_61 : decode cX6_personIs 61 = .ok (.ireturn, 1) := by decide +kernel
theorem dX6_personIs_62 : decode cX6_personIs 62 = .ok (.aload_n 0, 1) := by decide +kernel
theorem dX6_personIs_63 : decode cX6_personIs 63 = .ok (.getfield 12, 3) := by decide +kernel
theorem dX6_personIs_66 : decode cX6_personIs 66 = .ok (.getfield 74, 3) := by decide +kernel
theorem dX6_personIs_69 : decode cX6_personIs 69 = .ok (.iload_n 1, 1) := by decide +kernel
theorem dX6_personIs_70 : decode cX6_personIs 70 = .ok (.iaload, 1) := by decide +kernel
theorem dX6_personIs_71 : decode cX6_personIs 71 = .ok (.ireturn, 1) := by decide +kernel
theorem dX6_personIs_72 : decode cX6_personIs 72 = .ok (.aload_n 0, 1) := by decide +kernel
theorem dX6_personIs_73 : decode cX6_personIs 73 = .ok (.getfield 12, 3) := by decide +kernel
theorem dX6_personIs_76 : decode cX6_personIs 76 = .ok (.getfield 77, 3) := by decide +kernel
theorem dX6_personIs_79 : decode cX6_personIs 79 = .ok (.iload_n 1, 1) := by decide +kernel
theorem dX6_personIs_80 : decode cX6_personIs 80 = .ok (.iaload, 1) := by decide +kernel
theorem dX6_personIs_81 : decode cX6_personIs 81 = .ok (.ireturn, 1) := by decide +kernel
theorem dX6_personIs_82 : decode cX6_personIs 82 = .ok (.aload_n 0, 1) := by decide +kernel
theorem dX6_personIs_83 : decode cX6_personIs 83 = .ok (.getfield 12, 3) := by decide +kernel
theorem dX6_personIs_86 : decode cX6_personIs 86 = .ok (.iload_n 1, 1) := by decide +kernel
theorem dX6_personIs_87 : decode cX6_personIs 87 = .ok (.invokevirtual 80, 3) := by decide +kernel
theorem dX6_personIs_90 : decode cX6_personIs 90 = .ok (.invokestatic 83, 3) := by decide +kernel
theorem dX6_personIs_93 : decode cX6_personIs 93 = .ok (.ireturn, 1) := by decide +kernel
theorem dX6_personIs_94 : decode cX6_personIs 94 = .ok (.aload_n 0, 1) := by decide +kernel
theorem dX6_personIs_95 : decode cX6_personIs 95 = .ok (.getfield 12, 3) := by decide +kernel
theorem dX6_personIs_98 : decode cX6_personIs 98 = .ok (.iload_n 1, 1) := by decide +kernel
theorem dX6_personIs_99 : decode cX6_personIs 99 = .ok (.invokevirtual 87, 3) := by decide +kernel
theorem dX6_personIs_102 : decode cX6_personIs 102 = .ok (.ireturn, 1) := by decide +kernel
theorem dX6_personIs_103 : decode cX6_personIs 103 = .ok (.aload_n 0, 1) := by decide +kernel
theorem dX6_personIs_104 : decode cX6_personIs 104 = .ok (.iconst 1, 1) := by decide +kernel
theorem dX6_personIs_105 : decode cX6_personIs 105 = .ok (.invokevirtual 55, 3) := by decide +kernel
theorem dX6_personIs_108 : decode cX6_personIs 108 = .ok (.ireturn, 1) := by decide +kernel
set_option maxRecDepth 20000 in
theorem ggX6_piece_X6_within : GoodIn wsX6_piece wsX6_within := goodIn_r _ [6] (by decide +kernel) (by decide +kernel)
set_option maxRecDepth 20000 in
theorem gX6_piece_X6_within : GoodIn wsX6_piece (va_wsS RX6 51 yX6_within wsX6_within) := goodIn_app (goodIn_of _ (by decide +kernel)) ggX6_piece_X6_within
set_option maxRecDepth 20000 in
theorem ggX6_piece_X0_isPerson : GoodIn wsX6_piece wsX0_isPerson := goodIn_r _ [11, 12, 40, 41, 42, 43, 44, 45, 46, 47, 48, 49, 50, 51, 52, 53, 54, 55] (by decide +kernel) (by decide +kernel)
set_option maxRecDepth 20000 in
theorem gX6_piece_X0_isPerson : GoodIn wsX6_piece (wsV RX6 67 RX0 yX0_isPerson wsX0_isPerson) := goodIn_app (goodIn_of _ (by decide +kernel)) ggX6_piece_X0_isPerson
set_option maxRecDepth 20000 in
theorem ggX6_piece_X6_fail : GoodIn wsX6_piece wsX6_fail := goodIn_r _ [16, 17, 18, 32, 33, 34, 35, 36, 37, 38, 39] (by decide +kernel) (by decide +kernel)
set_option maxRecDepth 20000 in
theorem gX6_piece_X6_fail : GoodIn wsX6_piece (wsV RX6 55 RX6 yX6_fail wsX6_fail) := goodIn_app (goodIn_of _ (by decide +kernel)) ggX6_piece_X6_fail
set_option maxRecDepth 20000 in
theorem ggX6_piece_X0_addPiece : GoodIn wsX6_piece wsX0_addPiece := goodIn_r _ [22, 23, 24, 25, 26, 27, 28, 10, 29, 30, 31, 40, 41, 42, 43, 44, 45, 46, 47, 48, 49, 50, 51, 52, 53, 54, 55] (by decide +kernel) (by decide +kernel)
set_option maxRecDepth 20000 in
theorem gX6_piece_X0_addPiece : GoodIn wsX6_piece (wsV RX6 93 RX0 yX0_addPiece wsX0_addPiece) := goodIn_app (goodIn_of _ (by decide +kernel)) ggX6_piece_X0_addPiece
theorem dX6_piece_0 : decode cX6_piece 0 = .ok (.iload_n 1, 1) := by decide +kernel
theorem dX6_piece_1 : decode cX6_piece 1 = .ok (.bipush 69, 2) := by decide +kernel
theorem dX6_piece_3 : decode cX6_piece 3 = .ok (.invokestatic 51, 3) := by decide +kernel
theorem dX6_piece_6 : decode cX6_piece 6 = .ok (.ifCond .eq 14, 3) := by decide +kernel
theorem dX6_piece_9 : decode cX6_piece 9 = .ok (.aload_n 0, 1) := by decide +kernel
theorem dX6_piece_10 : decode cX6_piece 10 = .ok (.getfield 12, 3) := by decide +kernel
theorem dX6_piece_13 : decode cX6_piece 13 = .ok (.iload_n 2, 1) := by decide +kernel
theorem dX6_piece_14 : decode cX6_piece 14 = .ok (.invokevirtual 67, 3) := by decide +kernel
theorem dX6_piece_17 : decode cX6_piece 17 = .ok (.ifCond .ne 9, 3) := by decide +kernel
theorem dX6_piece_20 : decode cX6_piece 20 = .ok (.aload_n 0, 1) := by decide +kernel
theorem dX6_piece_21 : decode cX6_piece 21 = .ok (.iconst 1, 1) := by decide +kernel
theorem dX6_piece_22 : decode cX6_piece 22 = .ok (.invokevirtual 55, 3) := by decide +kernel
theorem dX6_piece_25 : decode cX6_piece 25 = .ok (.ireturn, 1) := by decide +kernel
theorem dX6_piece_26 : decode cX6_piece 26 = .ok (.aload_n 0, 1) := by decide +kernel
theorem dX6_piece_27 : decode cX6_piece 27 = .ok (.getfield 12, 3) := by decide +kernel
theorem dX6_piece_30 : decode cX6_piece 30 = .ok (.getfield 90, 3) := by decide +kernel
theorem dX6_piece_33 : decode cX6_piece 33 = .ok (.bipush 9, 2) := by decide +kernel
theorem dX6_piece_35 : decode cX6_piece 35 = .ok (.if_icmp .lt 9, 3) := by decide +kernel
theorem dX6_piece_38 : decode cX6_piece 38 = .ok (.aload_n 0, 1) := by decide +kernel
theorem dX6_piece_39 : decode cX6_piece 39 = .ok (.iconst 4, 1) := by decide +kernel
theorem dX6_piece_40 : decode cX6_piece 40 = .ok (.invokevirtual 55, 3) := by decide +kernel
theorem dX6_piece_43 : decode cX6_piece 43 = .ok (.ireturn, 1) := by decide +kernel
theorem dX6_piece_44 : decode cX6_piece 44 = .ok (.aload_n 0, 1) := by decide +kernel
theorem dX6_piece_45 : decode cX6_piece 45 = .ok (.getfield 12, 3) := by decide +kernel
theorem dX6_piece_48 : decode cX6_piece 48 = .ok (.iload_n 1, 1) := by decide +kernel
theorem dX6_piece_49 : decode cX6_piece 49 = .ok (.iload_n 2, 1) := by decide +kernel
theorem dX6_piece_50 : decode cX6_piece 50 = .ok (.invokevirtual 93, 3) := by decide +kernel
theorem dX6_piece_53 : decode cX6_piece 53 = .ok (.ireturn, 1) := by decide +kernel
set_option maxRecDepth 20000 in
theorem ggX6_pieceIs_X0_isPiece : GoodIn wsX6_pieceIs wsX0_isPiece := goodIn_r _ [11, 12, 88, 89, 90, 91, 92, 93, 94, 95, 96, 97, 98, 99, 100, 101, 102, 103] (by decide +kernel) (by decide +kernel)
set_option maxRecDepth 20000 in
theorem gX6_pieceIs_X0_isPiece : GoodIn wsX6_pieceIs (wsV RX6 96 RX0 yX0_isPiece wsX0_isPiece) := goodIn_app (goodIn_of _ (by decide +kernel)) ggX6_pieceIs_X0_isPiece
set_option maxRecDepth 20000 in
theorem ggX6_pieceIs_X6_fail : GoodIn wsX6_pieceIs wsX6_fail := goodIn_r _ [17, 18, 19, 80, 81, 82, 83, 84, 85, 86, 87] (by decide +kernel) (by decide +kernel)
set_option maxRecDepth 20000 in
theorem gX6_pieceIs_X6_fail : GoodIn wsX6_pieceIs (wsV RX6 55 RX6 yX6_fail wsX6_fail) := goodIn_app (goodIn_of _ (by decide +kernel)) ggX6_pieceIs_X6_fail
set_option maxRecDepth 20000 in
theorem ggX6_pieceIs_X0_countsOn : GoodIn wsX6_pieceIs wsX0_countsOn := goodIn_r _ [23, 24, 25, 26, 27, 28, 10, 29, 12, 30, 31, 16, 32, 88, 89, 90, 91, 92, 93, 94, 95, 96, 97, 98, 99, 100, 101, 102, 103] (by decide +kernel) (by decide +kernel)
set_option maxRecDepth 20000 in
theorem gX6_pieceIs_X0_countsOn : GoodIn wsX6_pieceIs (wsV RX6 114 RX0 yX0_countsOn wsX0_countsOn) := goodIn_app (goodIn_of _ (by decide +kernel)) ggX6_pieceIs_X0_countsOn
set_option maxRecDepth 20000 in
theorem ggX6_pieceIs_X6_bit : GoodIn wsX6_pieceIs wsX6_bit := goodIn_r _ [32] (by decide +kernel) (by decide +kernel)
set_option maxRecDepth 20000 in
theorem gX6_pieceIs_X6_bit : GoodIn wsX6_pieceIs (va_wsS RX6 83 yX6_bit wsX6_bit) := goodIn_app (goodIn_of _ (by decide +kernel)) ggX6_pieceIs_X6_bit
set_option maxRecDepth 20000 in
theorem ggX6_pieceIs_X0_riskIn : GoodIn wsX6_pieceIs wsX0_riskIn := goodIn_r _ [37, 38, 39, 40, 41, 10, 42, 43, 44, 45, 46, 47, 24, 25, 26, 27, 28, 29, 12, 30, 31, 16, 32, 48, 49, 50, 51, 52, 53, 54, 55, 56, 57, 58, 59, 60, 61, 62, 63, 64, 65, 66, 67, 68, 69, 70, 71, 72, 73, 74, 75, 76, 77, 78, 79, 88, 89, 90, 91, 92, 93, 94, 95, 96, 97, 98, 99, 100, 101, 102, 103, 104, 105, 106] (by decide +kernel) (by decide +kernel)
set_option maxRecDepth 20000 in
theorem gX6_pieceIs_X0_riskIn : GoodIn wsX6_pieceIs (wsV RX6 117 RX0 yX0_riskIn wsX0_riskIn) := goodIn_app (goodIn_of _ (by decide +kernel)) ggX6_pieceIs_X0_riskIn
theorem dX6_pieceIs_0 : decode cX6_pieceIs 0 = .ok (.aload_n 0, 1) := by decide +kernel
theorem dX6_pieceIs_1 : decode cX6_pieceIs 1 = .ok (.getfield 12, 3) := by decide +kernel
theorem dX6_pieceIs_4 : decode cX6_pieceIs 4 = .ok (.iload_n 1, 1) := by decide +kernel
theorem dX6_pieceIs_5 : decode cX6_pieceIs 5 = .ok (.invokevirtual 96, 3) := by decide +kernel
theorem dX6_pieceIs_8 : decode cX6_pieceIs 8 = .ok (.ifCond .ne 9, 3) := by decide +kernel
theorem dX6_pieceIs_11 : decode cX6_pieceIs 11 = .ok (.aload_n 0, 1) := by decide +kernel
theorem dX6_pieceIs_12 : decode cX6_pieceIs 12 = .ok (.iconst 1, 1) := by decide +kernel
theorem dX6_pieceIs_13 : decode cX6_pieceIs 13 = .ok (.invokevirtual 55, 3) := by decide +kernel
theorem dX6_pieceIs_16 : decode cX6_pieceIs 16 = .ok (.ireturn, 1) := by decide +kernel
theorem dX6_pieceIs_17 : decode cX6_pieceIs 17 = .ok (.iload_n 2, 1) := by decide +kernel
theorem dX6_pieceIs_18 : decode cX6_pieceIs 18 = .ok (.tableswitch 115 0 5 #[38, 48, 58, 68, 78, 97], 38) := by decide +kernel
theorem dX6_pieceIs_56 : decode cX6_pieceIs 56 = .ok (.aload_n 0, 1) := by decide +kernel
theorem dX6_pieceIs_57 : decode cX6_pieceIs 57 = .ok (.getfield 12, 3) := by decide +kernel
theorem dX6_pieceIs_60 : decode cX6_pieceIs 60 = .ok (.getfield 99, 3) := by decide +kernel
theorem dX6_pieceIs_63 : decode cX6_pieceIs 63 = .ok (.iload_n 1, 1) := by decide +kernel
theorem dX6_pieceIs_64 : decode cX6_pieceIs 64 = .ok (.iaload, 1) := by decide +kernel
theorem dX6_pieceIs_65 : decode cX6_pieceIs 65 = .ok (.ireturn, 1) := by decide +kernel
theorem dX6_pieceIs_66 : decode cX6_pieceIs 66 = .ok (.aload_n 0, 1) := by decide +kernel
theorem dX6_pieceIs_67 : decode cX6_pieceIs 67 = .ok (.getfield 12, 3) := by decide +kernel
theorem dX6_pieceIs_70 : decode cX6_pieceIs 70 = .ok (.getfield 102, 3) := by decide +kernel
theorem dX6_pieceIs_73 : decode cX6_pieceIs 73 = .ok (.iload_n 1, 1) := by decide +kernel
theorem dX6_pieceIs_74 : decode cX6_pieceIs 74 = .ok (.iaload, 1) := by decide +kernel
theorem dX6_pieceIs_75 : decode cX6_pieceIs 75 = .ok (.ireturn, 1) := by decide +kernel
theorem dX6_pieceIs_76 : decode cX6_pieceIs 76 = .ok (.aload_n 0, 1) := by decide +kernel
theorem dX6_pieceIs_77 : decode cX6_pieceIs 77 = .ok (.getfield 12, 3) := by decide +kernel
theorem dX6_pieceIs_80 : decode cX6_pieceIs 80 = .ok (.getfield 105, 3) := by decide +kernel
theorem dX6_pieceIs_83 : decode cX6_pieceIs 83 = .ok (.iload_n 1, 1) := by decide +kernel
theorem dX6_pieceIs_84 : decode cX6_pieceIs 84 = .ok (.iaload, 1) := by decide +kernel
theorem dX6_pieceIs_85 : decode cX6_pieceIs 85 = .ok (.ireturn, 1) := by decide +kernel
theorem dX6_pieceIs_86 : decode cX6_pieceIs 86 = .ok (.aload_n 0, 1) := by decide +kernel
theorem dX6_pieceIs_87 : decode cX6_pieceIs 87 = .ok (.getfield 12, 3) := by decide +kernel
theorem dX6_pieceIs_90 : decode cX6_pieceIs 90 = .ok (.getfield 108, 3) := by decide +kernel
theorem dX6_pieceIs_93 : decode cX6_pieceIs 93 = .ok (.iload_n 1, 1) := by decide +kernel
theorem dX6_pieceIs_94 : decode cX6_pieceIs 94 = .ok (.iaload, 1) := by decide +kernel
theorem dX6_pieceIs_95 : decode cX6_pieceIs 95 = .ok (.ireturn, 1) := by decide +kernel
theorem dX6_pieceIs_96 : decode cX6_pieceIs 96 = .ok (.aload_n 0, 1) := by decide +kernel
theorem dX6_pieceIs_97 : decode cX6_pieceIs 97 = .ok (.getfield 12, 3) := by decide +kernel
theorem dX6_pieceIs_100 : decode cX6_pieceIs 100 = .ok (.iload_n 1, 1) := by decide +kernel
theorem dX6_pieceIs_101 : decode cX6_pieceIs 101 = .ok (.aload_n 0, 1) := by decide +kernel
theorem dX6_pieceIs_102 : decode cX6_pieceIs 102 = .ok (.getfield 12, 3) := by decide +kernel
theorem dX6_pieceIs_105 : decode cX6_pieceIs 105 = .ok (.getfield 111, 3) := by decide +kernel
theorem dX6_pieceIs_108 : decode cX6_pieceIs 108 = .ok (.invokevirtual 114, 3) := by decide +kernel
theorem dX6_pieceIs_111 : decode cX6_pieceIs 111 = .ok (.invokestatic 83, 3) := by decide +kernel
theorem dX6_pieceIs_114 : decode cX6_pieceIs 114 = .ok (.ireturn, 1) := by decide +kernel
theorem dX6_pieceIs_115 : decode cX6_pieceIs 115 = .ok (.aload_n 0, 1) := by decide +kernel
theorem dX6_pieceIs_116 : decode cX6_pieceIs 116 = .ok (.getfield 12, 3) := by decide +kernel
theorem dX6_pieceIs_119 : decode cX6_pieceIs 119 = .ok (.iload_n 1, 1) := by decide +kernel
theorem dX6_pieceIs_120 : decode cX6_pieceIs 120 = .ok (.aload_n 0, 1) := by decide +kernel
theorem dX6_pieceIs_121 : decode cX6_pieceIs 121 = .ok (.getfield 12, 3) := by decide +kernel
theorem dX6_pieceIs_124 : decode cX6_pieceIs 124 = .ok (.getfield 105, 3) := by decide +kernel
theorem dX6_pieceIs_127 : decode cX6_pieceIs 127 = .ok (.iload_n 1, 1) := by decide +kernel
theorem dX6_pieceIs_128 : decode cX6_pieceIs 128 = .ok (.iaload, 1) := by decide +kernel
theorem dX6_pieceIs_129 : decode cX6_pieceIs 129 = .ok (.invokevirtual 117, 3) := by decide +kernel
theorem dX6_pieceIs_132 : decode cX6_pieceIs 132 = .ok (.ireturn, 1) := by decide +kernel
theorem dX6_pieceIs_133 : decode cX6_pieceIs 133 = .ok (.aload_n 0, 1) := by decide +kernel
theorem dX6_pieceIs_134 : decode cX6_pieceIs 134 = .ok (.iconst 1, 1) := by decide +kernel
theorem dX6_pieceIs_135 : decode cX6_pieceIs 135 = .ok (.invokevirtual 55, 3) := by decide +kernel
theorem dX6_pieceIs_138 : decode cX6_pieceIs 138 = .ok (.ireturn, 1) := by decide +kernel
set_option maxRecDepth 20000 in
theorem ggX6_become_X0_isPiece : GoodIn wsX6_become wsX0_isPiece := goodIn_r _ [7, 8, 33, 34, 35, 36, 37, 38, 39, 40, 41, 42, 43, 44, 45, 46, 47, 48] (by decide +kernel) (by decide +kernel)
set_option maxRecDepth 20000 in
theorem gX6_become_X0_isPiece : GoodIn wsX6_become (wsV RX6 96 RX0 yX0_isPiece wsX0_isPiece) := goodIn_app (goodIn_of _ (by decide +kernel)) ggX6_become_X0_isPiece
set_option maxRecDepth 20000 in
theorem ggX6_become_X6_within : GoodIn wsX6_become wsX6_within := goodIn_r _ [12] (by decide +kernel) (by decide +kernel)
set_option maxRecDepth 20000 in
theorem gX6_become_X6_within : GoodIn wsX6_become (va_wsS RX6 51 yX6_within wsX6_within) := goodIn_app (goodIn_of _ (by decide +kernel)) ggX6_become_X6_within
set_option maxRecDepth 20000 in
theorem ggX6_become_X6_fail : GoodIn wsX6_become wsX6_fail := goodIn_r _ [16, 17, 18, 25, 26, 27, 28, 29, 30, 31, 32] (by decide +kernel) (by decide +kernel)
set_option maxRecDepth 20000 in
theorem gX6_become_X6_fail : GoodIn wsX6_become (wsV RX6 55 RX6 yX6_fail wsX6_fail) := goodIn_app (goodIn_of _ (by decide +kernel)) ggX6_become_X6_fail
set_option maxRecDepth 20000 in
theorem ggX6_become_X0_shape : GoodIn wsX6_become wsX0_shape := goodIn_r _ [22, 23, 24, 33, 34, 35, 36, 37, 38, 39, 40, 41, 42, 43, 44, 45, 46, 47, 48] (by decide +kernel) (by decide +kernel)
set_option maxRecDepth 20000 in
theorem gX6_become_X0_shape : GoodIn wsX6_become (wsV RX6 120 RX0 yX0_shape wsX0_shape) := goodIn_app (goodIn_of _ (by decide +kernel)) ggX6_become_X0_shape
theorem dX6_become_0 : decode cX6_become 0 = .ok (.aload_n 0, 1) := by decide +kernel
theorem dX6_become_1 : decode cX6_become 1 = .ok (.getfield 12, 3) := by decide +kernel
theorem dX6_become_4 : decode cX6_become 4 = .ok (.iload_n 1, 1) := by decide +kernel
theorem dX6_become_5 : decode cX6_become 5 = .ok (.invokevirtual 96, 3) := by decide +kernel
theorem dX6_become_8 : decode cX6_become 8 = .ok (.ifCond .eq 12, 3) := by decide +kernel
theorem dX6_become_11 : decode cX6_become 11 = .ok (.iload_n 2, 1) := by decide +kernel
theorem dX6_become_12 : decode cX6_become 12 = .ok (.bipush 69, 2) := by decide +kernel
theorem dX6_become_14 : decode cX6_become 14 = .ok (.invokestatic 51, 3) := by decide +kernel
theorem dX6_become_17 : decode cX6_become 17 = .ok (.ifCond .ne 9, 3) := by decide +kernel
theorem dX6_become_20 : decode cX6_become 20 = .ok (.aload_n 0, 1) := by decide +kernel
theorem dX6_become_21 : decode cX6_become 21 = .ok (.iconst 1, 1) := by decide +kernel
theorem dX6_become_22 : decode cX6_become 22 = .ok (.invokevirtual 55, 3) := by decide +kernel
theorem dX6_become_25 : decode cX6_become 25 = .ok (.ireturn, 1) := by decide +kernel
theorem dX6_become_26 : decode cX6_become 26 = .ok (.aload_n 0, 1) := by decide +kernel
theorem dX6_become_27 : decode cX6_become 27 = .ok (.getfield 12, 3) := by decide +kernel
theorem dX6_become_30 : decode cX6_become 30 = .ok (.getfield 99, 3) := by decide +kernel
theorem dX6_become_33 : decode cX6_become 33 = .ok (.iload_n 1, 1) := by decide +kernel
theorem dX6_become_34 : decode cX6_become 34 = .ok (.iaload, 1) := by decide +kernel
theorem dX6_become_35 : decode cX6_become 35 = .ok (.istore_n 3, 1) := by decide +kernel
theorem dX6_become_36 : decode cX6_become 36 = .ok (.aload_n 0, 1) := by decide +kernel
theorem dX6_become_37 : decode cX6_become 37 = .ok (.getfield 12, 3) := by decide +kernel
theorem dX6_become_40 : decode cX6_become 40 = .ok (.iload_n 1, 1) := by decide +kernel
theorem dX6_become_41 : decode cX6_become 41 = .ok (.iload_n 2, 1) := by decide +kernel
theorem dX6_become_42 : decode cX6_become 42 = .ok (.invokevirtual 120, 3) := by decide +kernel
theorem dX6_become_45 : decode cX6_become 45 = .ok (.iload_n 3, 1) := by decide +kernel
theorem dX6_become_46 : decode cX6_become 46 = .ok (.ireturn, 1) := by decide +kernel
set_option maxRecDepth 20000 in
theorem ggX6_as_X0_isPiece : GoodIn wsX6_as wsX0_isPiece := goodIn_r _ [8, 9, 32, 33, 34, 35, 36, 37, 38, 39, 40, 41, 42, 43, 44, 45, 46, 47] (by decide +kernel) (by decide +kernel)
set_option maxRecDepth 20000 in
theorem gX6_as_X0_isPiece : GoodIn wsX6_as (wsV RX6 96 RX0 yX0_isPiece wsX0_isPiece) := goodIn_app (goodIn_of _ (by decide +kernel)) ggX6_as_X0_isPiece
set_option maxRecDepth 20000 in
theorem ggX6_as_X6_within : GoodIn wsX6_as wsX6_within := goodIn_r _ [13] (by decide +kernel) (by decide +kernel)
set_option maxRecDepth 20000 in
theorem gX6_as_X6_within : GoodIn wsX6_as (va_wsS RX6 51 yX6_within wsX6_within) := goodIn_app (goodIn_of _ (by decide +kernel)) ggX6_as_X6_within
set_option maxRecDepth 20000 in
theorem ggX6_as_X6_fail : GoodIn wsX6_as wsX6_fail := goodIn_r _ [17, 18, 19, 24, 25, 26, 27, 28, 29, 30, 31] (by decide +kernel) (by decide +kernel)
set_option maxRecDepth 20000 in
theorem gX6_as_X6_fail : GoodIn wsX6_as (wsV RX6 55 RX6 yX6_fail wsX6_fail) := goodIn_app (goodIn_of _ (by decide +kernel)) ggX6_as_X6_fail
set_option maxRecDepth 20000 in
theorem ggX6_as_X6_isUnder : GoodIn wsX6_as wsX6_isUnder := goodIn_r _ [22, 23] (by decide +kernel) (by decide +kernel)
set_option maxRecDepth 20000 in
theorem gX6_as_X6_isUnder : GoodIn wsX6_as (va_wsS RX6 124 yX6_isUnder wsX6_isUnder) := goodIn_app (goodIn_of _ (by decide +kernel)) ggX6_as_X6_isUnder
theorem dX6_as_0 : decode cX6_as 0 = .ok (.aload_n 0, 1) := by decide +kernel
theorem dX6_as_1 : decode cX6_as 1 = .ok (.getfield 12, 3) := by decide +kernel
theorem dX6_as_4 : decode cX6_as 4 = .ok (.iload_n 1, 1) := by decide +kernel
theorem dX6_as_5 : decode cX6_as 5 = .ok (.invokevirtual 96, 3) := by decide +kernel
theorem dX6_as_8 : decode cX6_as 8 = .ok (.ifCond .eq 12, 3) := by decide +kernel
theorem dX6_as_11 : decode cX6_as 11 = .ok (.iload_n 2, 1) := by decide +kernel
theorem dX6_as_12 : decode cX6_as 12 = .ok (.bipush 6, 2) := by decide +kernel
theorem dX6_as_14 : decode cX6_as 14 = .ok (.invokestatic 51, 3) := by decide +kernel
theorem dX6_as_17 : decode cX6_as 17 = .ok (.ifCond .ne 9, 3) := by decide +kernel
theorem dX6_as_20 : decode cX6_as 20 = .ok (.aload_n 0, 1) := by decide +kernel
theorem dX6_as_21 : decode cX6_as 21 = .ok (.iconst 1, 1) := by decide +kernel
theorem dX6_as_22 : decode cX6_as 22 = .ok (.invokevirtual 55, 3) := by decide +kernel
theorem dX6_as_25 : decode cX6_as 25 = .ok (.ireturn, 1) := by decide +kernel
theorem dX6_as_26 : decode cX6_as 26 = .ok (.aload_n 0, 1) := by decide +kernel
theorem dX6_as_27 : decode cX6_as 27 = .ok (.getfield 12, 3) := by decide +kernel
theorem dX6_as_30 : decode cX6_as 30 = .ok (.getfield 99, 3) := by decide +kernel
theorem dX6_as_33 : decode cX6_as 33 = .ok (.iload_n 1, 1) := by decide +kernel
theorem dX6_as_34 : decode cX6_as 34 = .ok (.iaload, 1) := by decide +kernel
theorem dX6_as_35 : decode cX6_as 35 = .ok (.iload_n 2, 1) := by decide +kernel
theorem dX6_as_36 : decode cX6_as 36 = .ok (.invokestatic 124, 3) := by decide +kernel
theorem dX6_as_39 : decode cX6_as 39 = .ok (.ifCond .eq 15, 3) := by decide +kernel
theorem dX6_as_42 : decode cX6_as 42 = .ok (.aload_n 0, 1) := by decide +kernel
theorem dX6_as_43 : decode cX6_as 43 = .ok (.getfield 12, 3) := by decide +kernel
theorem dX6_as_46 : decode cX6_as 46 = .ok (.getfield 102, 3) := by decide +kernel
theorem dX6_as_49 : decode cX6_as 49 = .ok (.iload_n 1, 1) := by decide +kernel
theorem dX6_as_50 : decode cX6_as 50 = .ok (.iaload, 1) := by decide +kernel
theorem dX6_as_51 : decode cX6_as 51 = .ok (.goto 8, 3) := by decide +kernel
theorem dX6_as_54 : decode cX6_as 54 = .ok (.aload_n 0, 1) := by decide +kernel
theorem dX6_as_55 : decode cX6_as 55 = .ok (.iconst 5, 1) := by decide +kernel
theorem dX6_as_56 : decode cX6_as 56 = .ok (.invokevirtual 55, 3) := by decide +kernel
theorem dX6_as_59 : decode cX6_as 59 = .ok (.ireturn, 1) := by decide +kernel
set_option maxRecDepth 20000 in
theorem ggX6_minds_X0_isPerson : GoodIn wsX6_minds wsX0_isPerson := goodIn_r _ [7, 8, 27, 28, 29, 30, 31, 32, 33, 34, 35, 36, 37, 38, 39, 40, 41, 42] (by decide +kernel) (by decide +kernel)
set_option maxRecDepth 20000 in
theorem gX6_minds_X0_isPerson : GoodIn wsX6_minds (wsV RX6 67 RX0 yX0_isPerson wsX0_isPerson) := goodIn_app (goodIn_of _ (by decide +kernel)) ggX6_minds_X0_isPerson
set_option maxRecDepth 20000 in
theorem ggX6_minds_X6_within : GoodIn wsX6_minds wsX6_within := goodIn_r _ [12] (by decide +kernel) (by decide +kernel)
set_option maxRecDepth 20000 in
theorem gX6_minds_X6_within : GoodIn wsX6_minds (va_wsS RX6 51 yX6_within wsX6_within) := goodIn_app (goodIn_of _ (by decide +kernel)) ggX6_minds_X6_within
set_option maxRecDepth 20000 in
theorem ggX6_minds_X6_fail : GoodIn wsX6_minds wsX6_fail := goodIn_r _ [16, 17, 18, 19, 20, 21, 22, 23, 24, 25, 26] (by decide +kernel) (by decide +kernel)
set_option maxRecDepth 20000 in
theorem gX6_minds_X6_fail : GoodIn wsX6_minds (wsV RX6 55 RX6 yX6_fail wsX6_fail) := goodIn_app (goodIn_of _ (by decide +kernel)) ggX6_minds_X6_fail
theorem dX6_minds_0 : decode cX6_minds 0 = .ok (.aload_n 0, 1) := by decide +kernel
theorem dX6_minds_1 : decode cX6_minds 1 = .ok (.getfield 12, 3) := by decide +kernel
theorem dX6_minds_4 : decode cX6_minds 4 = .ok (.iload_n 1, 1) := by decide +kernel
theorem dX6_minds_5 : decode cX6_minds 5 = .ok (.invokevirtual 67, 3) := by decide +kernel
theorem dX6_minds_8 : decode cX6_minds 8 = .ok (.ifCond .eq 12, 3) := by decide +kernel
theorem dX6_minds_11 : decode cX6_minds 11 = .ok (.iload_n 2, 1) := by decide +kernel
theorem dX6_minds_12 : decode cX6_minds 12 = .ok (.bipush 9, 2) := by decide +kernel
theorem dX6_minds_14 : decode cX6_minds 14 = .ok (.invokestatic 51, 3) := by decide +kernel
theorem dX6_minds_17 : decode cX6_minds 17 = .ok (.ifCond .ne 9, 3) := by decide +kernel
theorem dX6_minds_20 : decode cX6_minds 20 = .ok (.aload_n 0, 1) := by decide +kernel
theorem dX6_minds_21 : decode cX6_minds 21 = .ok (.iconst 1, 1) := by decide +kernel
theorem dX6_minds_22 : decode cX6_minds 22 = .ok (.invokevirtual 55, 3) := by decide +kernel
theorem dX6_minds_25 : decode cX6_minds 25 = .ok (.ireturn, 1) := by decide +kernel
theorem dX6_minds_26 : decode cX6_minds 26 = .ok (.aload_n 0, 1) := by decide +kernel
theorem dX6_minds_27 : decode cX6_minds 27 = .ok (.getfield 12, 3) := by decide +kernel
theorem dX6_minds_30 : decode cX6_minds 30 = .ok (.getfield 71, 3) := by decide +kernel
theorem dX6_minds_33 : decode cX6_minds 33 = .ok (.iload_n 1, 1) := by decide +kernel
theorem dX6_minds_34 : decode cX6_minds 34 = .ok (.iaload, 1) := by decide +kernel
theorem dX6_minds_35 : decode cX6_minds 35 = .ok (.istore_n 3, 1) := by decide +kernel
theorem dX6_minds_36 : decode cX6_minds 36 = .ok (.aload_n 0, 1) := by decide +kernel
theorem dX6_minds_37 : decode cX6_minds 37 = .ok (.getfield 12, 3) := by decide +kernel
theorem dX6_minds_40 : decode cX6_minds 40 = .ok (.getfield 71, 3) := by decide +kernel
theorem dX6_minds_43 : decode cX6_minds 43 = .ok (.iload_n 1, 1) := by decide +kernel
theorem dX6_minds_44 : decode cX6_minds 44 = .ok (.iload_n 2, 1) := by decide +kernel
theorem dX6_minds_45 : decode cX6_minds 45 = .ok (.iastore, 1) := by decide +kernel
theorem dX6_minds_46 : decode cX6_minds 46 = .ok (.iload_n 3, 1) := by decide +kernel
theorem dX6_minds_47 : decode cX6_minds 47 = .ok (.ireturn, 1) := by decide +kernel
set_option maxRecDepth 20000 in
theorem ggX6_lend_X0_isPiece : GoodIn wsX6_lend wsX0_isPiece := goodIn_r _ [7, 8, 29, 30, 31, 32, 33, 34, 35, 36, 37, 38, 39, 40, 41, 42, 43, 44] (by decide +kernel) (by decide +kernel)
set_option maxRecDepth 20000 in
theorem gX6_lend_X0_isPiece : GoodIn wsX6_lend (wsV RX6 96 RX0 yX0_isPiece wsX0_isPiece) := goodIn_app (goodIn_of _ (by decide +kernel)) ggX6_lend_X0_isPiece
set_option maxRecDepth 20000 in
theorem ggX6_lend_X0_isPerson : GoodIn wsX6_lend wsX0_isPerson := goodIn_r _ [12, 13, 29, 30, 31, 32, 33, 34, 35, 36, 37, 38, 39, 40, 41, 42, 43, 44] (by decide +kernel) (by decide +kernel)
set_option maxRecDepth 20000 in
theorem gX6_lend_X0_isPerson : GoodIn wsX6_lend (wsV RX6 67 RX0 yX0_isPerson wsX0_isPerson) := goodIn_app (goodIn_of _ (by decide +kernel)) ggX6_lend_X0_isPerson
set_option maxRecDepth 20000 in
theorem ggX6_lend_X6_fail : GoodIn wsX6_lend wsX6_fail := goodIn_r _ [18, 19, 20, 21, 22, 23, 24, 25, 26, 27, 28] (by decide +kernel) (by decide +kernel)
set_option maxRecDepth 20000 in
theorem gX6_lend_X6_fail : GoodIn wsX6_lend (wsV RX6 55 RX6 yX6_fail wsX6_fail) := goodIn_app (goodIn_of _ (by decide +kernel)) ggX6_lend_X6_fail
theorem dX6_lend_0 : decode cX6_lend 0 = .ok (.aload_n 0, 1) := by decide +kernel
theorem dX6_lend_1 : decode cX6_lend 1 = .ok (.getfield 12, 3) := by decide +kernel
theorem dX6_lend_4 : decode cX6_lend 4 = .ok (.iload_n 1, 1) := by decide +kernel
theorem dX6_lend_5 : decode cX6_lend 5 = .ok (.invokevirtual 96, 3) := by decide +kernel
theorem dX6_lend_8 : decode cX6_lend 8 = .ok (.ifCond .eq 14, 3) := by decide +kernel
theorem dX6_lend_11 : decode cX6_lend 11 = .ok (.aload_n 0, 1) := by decide +kernel
theorem dX6_lend_12 : decode cX6_lend 12 = .ok (.getfield 12, 3) := by decide +kernel
theorem dX6_lend_15 : decode cX6_lend 15 = .ok (.iload_n 2, 1) := by decide +kernel
theorem dX6_lend_16 : decode cX6_lend 16 = .ok (.invokevirtual 67, 3) := by decide +kernel
theorem dX6_lend_19 : decode cX6_lend 19 = .ok (.ifCond .ne 9, 3) := by decide +kernel
theorem dX6_lend_22 : decode cX6_lend 22 = .ok (.aload_n 0, 1) := by decide +kernel
theorem dX6_lend_23 : decode cX6_lend 23 = .ok (.iconst 1, 1) := by decide +kernel
theorem dX6_lend_24 : decode cX6_lend 24 = .ok (.invokevirtual 55, 3) := by decide +kernel
theorem dX6_lend_27 : decode cX6_lend 27 = .ok (.ireturn, 1) := by decide +kernel
theorem dX6_lend_28 : decode cX6_lend 28 = .ok (.aload_n 0, 1) := by decide +kernel
theorem dX6_lend_29 : decode cX6_lend 29 = .ok (.getfield 12, 3) := by decide +kernel
theorem dX6_lend_32 : decode cX6_lend 32 = .ok (.getfield 105, 3) := by decide +kernel
theorem dX6_lend_35 : decode cX6_lend 35 = .ok (.iload_n 1, 1) := by decide +kernel
theorem dX6_lend_36 : decode cX6_lend 36 = .ok (.iaload, 1) := by decide +kernel
theorem dX6_lend_37 : decode cX6_lend 37 = .ok (.istore_n 3, 1) := by decide +kernel
theorem dX6_lend_38 : decode cX6_lend 38 = .ok (.aload_n 0, 1) := by decide +kernel
theorem dX6_lend_39 : decode cX6_lend 39 = .ok (.getfield 12, 3) := by decide +kernel
theorem dX6_lend_42 : decode cX6_lend 42 = .ok (.getfield 105, 3) := by decide +kernel
theorem dX6_lend_45 : decode cX6_lend 45 = .ok (.iload_n 1, 1) := by decide +kernel
theorem dX6_lend_46 : decode cX6_lend 46 = .ok (.iload_n 2, 1) := by decide +kernel
theorem dX6_lend_47 : decode cX6_lend 47 = .ok (.iastore, 1) := by decide +kernel
theorem dX6_lend_48 : decode cX6_lend 48 = .ok (.iload_n 3, 1) := by decide +kernel
theorem dX6_lend_49 : decode cX6_lend 49 = .ok (.ireturn, 1) := by decide +kernel
set_option maxRecDepth 20000 in
theorem ggX6_wall_X0_isPiece : GoodIn wsX6_wall wsX0_isPiece := goodIn_r _ [7, 8, 30, 31, 32, 33, 34, 35, 36, 37, 38, 39, 40, 41, 42, 43, 44, 45] (by decide +kernel) (by decide +kernel)
set_option maxRecDepth 20000 in
theorem gX6_wall_X0_isPiece : GoodIn wsX6_wall (wsV RX6 96 RX0 yX0_isPiece wsX0_isPiece) := goodIn_app (goodIn_of _ (by decide +kernel)) ggX6_wall_X0_isPiece
set_option maxRecDepth 20000 in
theorem ggX6_wall_X6_within : GoodIn wsX6_wall wsX6_within := goodIn_r _ [12] (by decide +kernel) (by decide +kernel)
set_option maxRecDepth 20000 in
theorem gX6_wall_X6_within : GoodIn wsX6_wall (va_wsS RX6 51 yX6_within wsX6_within) := goodIn_app (goodIn_of _ (by decide +kernel)) ggX6_wall_X6_within
set_option maxRecDepth 20000 in
theorem ggX6_wall_X6_fail : GoodIn wsX6_wall wsX6_fail := goodIn_r _ [16, 17, 18, 22, 23, 24, 25, 26, 27, 28, 29] (by decide +kernel) (by decide +kernel)
set_option maxRecDepth 20000 in
theorem gX6_wall_X6_fail : GoodIn wsX6_wall (wsV RX6 55 RX6 yX6_fail wsX6_fail) := goodIn_app (goodIn_of _ (by decide +kernel)) ggX6_wall_X6_fail
set_option maxRecDepth 20000 in
theorem ggX6_wall_X6_bit : GoodIn wsX6_wall wsX6_bit := goodIn_r _ [21] (by decide +kernel) (by decide +kernel)
set_option maxRecDepth 20000 in
theorem gX6_wall_X6_bit : GoodIn wsX6_wall (va_wsS RX6 83 yX6_bit wsX6_bit) := goodIn_app (goodIn_of _ (by decide +kernel)) ggX6_wall_X6_bit
theorem dX6_wall_0 : decode cX6_wall 0 = .ok (.aload_n 0, 1) := by decide +kernel
theorem dX6_wall_1 : decode cX6_wall 1 = .ok (.getfield 12, 3) := by decide +kernel
theorem dX6_wall_4 : decode cX6_wall 4 = .ok (.iload_n 1, 1) := by decide +kernel
theorem dX6_wall_5 : decode cX6_wall 5 = .ok (.invokevirtual 96, 3) := by decide +kernel
theorem dX6_wall_8 : decode cX6_wall 8 = .ok (.ifCond .eq 11, 3) := by decide +kernel
theorem dX6_wall_11 : decode cX6_wall 11 = .ok (.iload_n 2, 1) := by decide +kernel
theorem dX6_wall_12 : decode cX6_wall 12 = .ok (.iconst 1, 1) := by decide +kernel
theorem dX6_wall_13 : decode cX6_wall 13 = .ok (.invokestatic 51, 3) := by decide +kernel
theorem dX6_wall_16 : decode cX6_wall 16 = .ok (.ifCond .ne 9, 3) := by decide +kernel
theorem dX6_wall_19 : decode cX6_wall 19 = .ok (.aload_n 0, 1) := by decide +kernel
theorem dX6_wall_20 : decode cX6_wall 20 = .ok (.iconst 1, 1) := by decide +kernel
theorem dX6_wall_21 : decode cX6_wall 21 = .ok (.invokevirtual 55, 3) := by decide +kernel
theorem dX6_wall_24 : decode cX6_wall 24 = .ok (.ireturn, 1) := by decide +kernel
theorem dX6_wall_25 : decode cX6_wall 25 = .ok (.aload_n 0, 1) := by decide +kernel
theorem dX6_wall_26 : decode cX6_wall 26 = .ok (.getfield 12, 3) := by decide +kernel
theorem dX6_wall_29 : decode cX6_wall 29 = .ok (.getfield 108, 3) := by decide +kernel
theorem dX6_wall_32 : decode cX6_wall 32 = .ok (.iload_n 1, 1) := by decide +kernel
theorem dX6_wall_33 : decode cX6_wall 33 = .ok (.iaload, 1) := by decide +kernel
theorem dX6_wall_34 : decode cX6_wall 34 = .ok (.istore_n 3, 1) := by decide +kernel
theorem dX6_wall_35 : decode cX6_wall 35 = .ok (.iload_n 3, 1) := by decide +kernel
theorem dX6_wall_36 : decode cX6_wall 36 = .ok (.iconst 1, 1) := by decide +kernel
theorem dX6_wall_37 : decode cX6_wall 37 = .ok (.if_icmp .ne 9, 3) := by decide +kernel
theorem dX6_wall_40 : decode cX6_wall 40 = .ok (.aload_n 0, 1) := by decide +kernel
theorem dX6_wall_41 : decode cX6_wall 41 = .ok (.iconst 3, 1) := by decide +kernel
theorem dX6_wall_42 : decode cX6_wall 42 = .ok (.invokevirtual 55, 3) := by decide +kernel
theorem dX6_wall_45 : decode cX6_wall 45 = .ok (.ireturn, 1) := by decide +kernel
theorem dX6_wall_46 : decode cX6_wall 46 = .ok (.aload_n 0, 1) := by decide +kernel
theorem dX6_wall_47 : decode cX6_wall 47 = .ok (.getfield 12, 3) := by decide +kernel
theorem dX6_wall_50 : decode cX6_wall 50 = .ok (.getfield 108, 3) := by decide +kernel
theorem dX6_wall_53 : decode cX6_wall 53 = .ok (.iload_n 1, 1) := by decide +kernel
theorem dX6_wall_54 : decode cX6_wall 54 = .ok (.iload_n 2, 1) := by decide +kernel
theorem dX6_wall_55 : decode cX6_wall 55 = .ok (.iconst 1, 1) := by decide +kernel
theorem dX6_wall_56 : decode cX6_wall 56 = .ok (.if_icmp .ne 7, 3) := by decide +kernel
theorem dX6_wall_59 : decode cX6_wall 59 = .ok (.iconst 2, 1) := by decide +kernel
theorem dX6_wall_60 : decode cX6_wall 60 = .ok (.goto 4, 3) := by decide +kernel
theorem dX6_wall_63 : decode cX6_wall 63 = .ok (.iconst 0, 1) := by decide +kernel
theorem dX6_wall_64 : decode cX6_wall 64 = .ok (.iastore, 1) := by decide +kernel
theorem dX6_wall_65 : decode cX6_wall 65 = .ok (.iload_n 3, 1) := by decide +kernel
theorem dX6_wall_66 : decode cX6_wall 66 = .ok (.iconst 2, 1) := by decide +kernel
theorem dX6_wall_67 : decode cX6_wall 67 = .ok (.if_icmp .ne 7, 3) := by decide +kernel
theorem dX6_wall_70 : decode cX6_wall 70 = .ok (.iconst 1, 1) := by decide +kernel
theorem dX6_wall_71 : decode cX6_wall 71 = .ok (.goto 4, 3) := by decide +kernel
theorem dX6_wall_74 : decode cX6_wall 74 = .ok (.iconst 0, 1) := by decide +kernel
theorem dX6_wall_75 : decode cX6_wall 75 = .ok (.invokestatic 83, 3) := by decide +kernel
theorem dX6_wall_78 : decode cX6_wall 78 = .ok (.ireturn, 1) := by decide +kernel
set_option maxRecDepth 20000 in
theorem ggX6_risk_X0_isPiece : GoodIn wsX6_risk wsX0_isPiece := goodIn_r _ [6, 7, 83, 84, 85, 86, 87, 88, 89, 90, 91, 92, 93, 94, 95, 96, 97, 98] (by decide +kernel) (by decide +kernel)
set_option maxRecDepth 20000 in
theorem gX6_risk_X0_isPiece : GoodIn wsX6_risk (wsV RX6 96 RX0 yX0_isPiece wsX0_isPiece) := goodIn_app (goodIn_of _ (by decide +kernel)) ggX6_risk_X0_isPiece
set_option maxRecDepth 20000 in
theorem ggX6_risk_X0_isPerson : GoodIn wsX6_risk wsX0_isPerson := goodIn_r _ [11, 12, 83, 84, 85, 86, 87, 88, 89, 90, 91, 92, 93, 94, 95, 96, 97, 98] (by decide +kernel) (by decide +kernel)
set_option maxRecDepth 20000 in
theorem gX6_risk_X0_isPerson : GoodIn wsX6_risk (wsV RX6 67 RX0 yX0_isPerson wsX0_isPerson) := goodIn_app (goodIn_of _ (by decide +kernel)) ggX6_risk_X0_isPerson
set_option maxRecDepth 20000 in
theorem ggX6_risk_X6_fail : GoodIn wsX6_risk wsX6_fail := goodIn_r _ [17, 18, 19, 75, 76, 77, 78, 79, 80, 81, 82] (by decide +kernel) (by decide +kernel)
set_option maxRecDepth 20000 in
theorem gX6_risk_X6_fail : GoodIn wsX6_risk (wsV RX6 55 RX6 yX6_fail wsX6_fail) := goodIn_app (goodIn_of _ (by decide +kernel)) ggX6_risk_X6_fail
set_option maxRecDepth 20000 in
theorem ggX6_risk_X0_riskIn : GoodIn wsX6_risk wsX0_riskIn := goodIn_r _ [23, 24, 25, 26, 27, 5, 28, 29, 30, 31, 32, 33, 34, 35, 36, 37, 38, 39, 7, 40, 41, 16, 42, 43, 44, 45, 46, 47, 48, 49, 50, 51, 52, 53, 54, 55, 56, 57, 58, 59, 60, 61, 62, 63, 64, 65, 66, 67, 68, 69, 70, 71, 72, 73, 74, 83, 84, 85, 86, 87, 88, 89, 90, 91, 92, 93, 94, 95, 96, 97, 98, 99, 100, 101] (by decide +kernel) (by decide +kernel)
set_option maxRecDepth 20000 in
theorem gX6_risk_X0_riskIn : GoodIn wsX6_risk (wsV RX6 117 RX0 yX0_riskIn wsX0_riskIn) := goodIn_app (goodIn_of _ (by decide +kernel)) ggX6_risk_X0_riskIn
theorem dX6_risk_0 : decode cX6_risk 0 = .ok (.aload_n 0, 1) := by decide +kernel
theorem dX6_risk_1 : decode cX6_risk 1 = .ok (.getfield 12, 3) := by decide +kernel
theorem dX6_risk_4 : decode cX6_risk 4 = .ok (.iload_n 1, 1) := by decide +kernel
theorem dX6_risk_5 : decode cX6_risk 5 = .ok (.invokevirtual 96, 3) := by decide +kernel
theorem dX6_risk_8 : decode cX6_risk 8 = .ok (.ifCond .eq 14, 3) := by decide +kernel
theorem dX6_risk_11 : decode cX6_risk 11 = .ok (.aload_n 0, 1) := by decide +kernel
theorem dX6_risk_12 : decode cX6_risk 12 = .ok (.getfield 12, 3) := by decide +kernel
theorem dX6_risk_15 : decode cX6_risk 15 = .ok (.iload_n 2, 1) := by decide +kernel
theorem dX6_risk_16 : decode cX6_risk 16 = .ok (.invokevirtual 67, 3) := by decide +kernel
theorem dX6_risk_19 : decode cX6_risk 19 = .ok (.ifCond .ne 9, 3) := by decide +kernel
theorem dX6_risk_22 : decode cX6_risk 22 = .ok (.aload_n 0, 1) := by decide +kernel
theorem dX6_risk_23 : decode cX6_risk 23 = .ok (.iconst 1, 1) := by decide +kernel
theorem dX6_risk_24 : decode cX6_risk 24 = .ok (.invokevirtual 55, 3) := by decide +kernel
theorem dX6_risk_27 : decode cX6_risk 27 = .ok (.ireturn, 1) := by decide +kernel
theorem dX6_risk_28 : decode cX6_risk 28 = .ok (.aload_n 0, 1) := by decide +kernel
theorem dX6_risk_29 : decode cX6_risk 29 = .ok (.getfield 12, 3) := by decide +kernel
theorem dX6_risk_32 : decode cX6_risk 32 = .ok (.iload_n 1, 1) := by decide +kernel
theorem dX6_risk_33 : decode cX6_risk 33 = .ok (.iload_n 2, 1) := by decide +kernel
theorem dX6_risk_34 : decode cX6_risk 34 = .ok (.invokevirtual 117, 3) := by decide +kernel
theorem dX6_risk_37 : decode cX6_risk 37 = .ok (.ireturn, 1) := by decide +kernel
set_option maxRecDepth 20000 in
theorem ggX6_drop_X0_isPiece : GoodIn wsX6_drop wsX0_isPiece := goodIn_r _ [7, 8, 45, 46, 47, 48, 49, 50, 51, 52, 53, 54, 55, 56, 57, 58, 59, 60] (by decide +kernel) (by decide +kernel)
set_option maxRecDepth 20000 in
theorem gX6_drop_X0_isPiece : GoodIn wsX6_drop (wsV RX6 96 RX0 yX0_isPiece wsX0_isPiece) := goodIn_app (goodIn_of _ (by decide +kernel)) ggX6_drop_X0_isPiece
set_option maxRecDepth 20000 in
theorem ggX6_drop_X6_fail : GoodIn wsX6_drop wsX6_fail := goodIn_r _ [13, 14, 15, 37, 38, 39, 40, 41, 42, 43, 44] (by decide +kernel) (by decide +kernel)
set_option maxRecDepth 20000 in
theorem gX6_drop_X6_fail : GoodIn wsX6_drop (wsV RX6 55 RX6 yX6_fail wsX6_fail) := goodIn_app (goodIn_of _ (by decide +kernel)) ggX6_drop_X6_fail
set_option maxRecDepth 20000 in
theorem ggX6_drop_X0_breakPiece : GoodIn wsX6_drop wsX0_breakPiece := goodIn_r _ [19, 20, 21, 22, 23, 24, 25, 26, 6, 27, 28, 29, 30, 31, 32, 33, 8, 34, 12, 35, 45, 46, 47, 48, 49, 50, 51, 52, 53, 54, 55, 56, 57, 58, 59, 60] (by decide +kernel) (by decide +kernel)
set_option maxRecDepth 20000 in
theorem gX6_drop_X0_breakPiece : GoodIn wsX6_drop (wsV RX6 127 RX0 yX0_breakPiece wsX0_breakPiece) := goodIn_app (goodIn_of _ (by decide +kernel)) ggX6_drop_X0_breakPiece
set_option maxRecDepth 20000 in
theorem ggX6_drop_X6_bit : GoodIn wsX6_drop wsX6_bit := goodIn_r _ [35] (by decide +kernel) (by decide +kernel)
set_option maxRecDepth 20000 in
theorem gX6_drop_X6_bit : GoodIn wsX6_drop (va_wsS RX6 83 yX6_bit wsX6_bit) := goodIn_app (goodIn_of _ (by decide +kernel)) ggX6_drop_X6_bit
theorem dX6_drop_0 : decode cX6_drop 0 = .ok (.aload_n 0, 1) := by decide +kernel
theorem dX6_drop_1 : decode cX6_drop 1 = .ok (.getfield 12, 3) := by decide +kernel
theorem dX6_drop_4 : decode cX6_drop 4 = .ok (.iload_n 1, 1) := by decide +kernel
theorem dX6_drop_5 : decode cX6_drop 5 = .ok (.invokevirtual 96, 3) := by decide +kernel
theorem dX6_drop_8 : decode cX6_drop 8 = .ok (.ifCond .ne 9, 3) := by decide +kernel
theorem dX6_drop_11 : decode cX6_drop 11 = .ok (.aload_n 0, 1) := by decide +kernel
theorem dX6_drop_12 : decode cX6_drop 12 = .ok (.iconst 1, 1) := by decide +kernel
theorem dX6_drop_13 : decode cX6_drop 13 = .ok (.invokevirtual 55, 3) := by decide +kernel
theorem dX6_drop_16 : decode cX6_drop 16 = .ok (.ireturn, 1) := by decide +kernel
theorem dX6_drop_17 : decode cX6_drop 17 = .ok (.aload_n 0, 1) := by decide +kernel
theorem dX6_drop_18 : decode cX6_drop 18 = .ok (.getfield 12, 3) := by decide +kernel
theorem dX6_drop_21 : decode cX6_drop 21 = .ok (.getfield 108, 3) := by decide +kernel
theorem dX6_drop_24 : decode cX6_drop 24 = .ok (.iload_n 1, 1) := by decide +kernel
theorem dX6_drop_25 : decode cX6_drop 25 = .ok (.iaload, 1) := by decide +kernel
theorem dX6_drop_26 : decode cX6_drop 26 = .ok (.ifCond .eq 9, 3) := by decide +kernel
theorem dX6_drop_29 : decode cX6_drop 29 = .ok (.aload_n 0, 1) := by decide +kernel
theorem dX6_drop_30 : decode cX6_drop 30 = .ok (.iconst 3, 1) := by decide +kernel
theorem dX6_drop_31 : decode cX6_drop 31 = .ok (.invokevirtual 55, 3) := by decide +kernel
theorem dX6_drop_34 : decode cX6_drop 34 = .ok (.ireturn, 1) := by decide +kernel
theorem dX6_drop_35 : decode cX6_drop 35 = .ok (.aload_n 0, 1) := by decide +kernel
theorem dX6_drop_36 : decode cX6_drop 36 = .ok (.getfield 12, 3) := by decide +kernel
theorem dX6_drop_39 : decode cX6_drop 39 = .ok (.iload_n 1, 1) := by decide +kernel
theorem dX6_drop_40 : decode cX6_drop 40 = .ok (.invokevirtual 127, 3) := by decide +kernel
theorem dX6_drop_43 : decode cX6_drop 43 = .ok (.invokestatic 83, 3) := by decide +kernel
theorem dX6_drop_46 : decode cX6_drop 46 = .ok (.ireturn, 1) := by decide +kernel
set_option maxRecDepth 20000 in
theorem ggX6_feed_X6_fail : GoodIn wsX6_feed wsX6_fail := goodIn_r _ [7, 8, 9, 18, 19, 20, 21, 22, 23, 24, 25] (by decide +kernel) (by decide +kernel)
set_option maxRecDepth 20000 in
theorem gX6_feed_X6_fail : GoodIn wsX6_feed (wsV RX6 55 RX6 yX6_fail wsX6_fail) := goodIn_app (goodIn_of _ (by decide +kernel)) ggX6_feed_X6_fail
set_option maxRecDepth 20000 in
theorem ggX6_feed_X0_tapeBytes : GoodIn wsX6_feed wsX0_tapeBytes := goodIn_r _ [14, 15, 16, 17, 26, 27, 28, 29, 30, 31, 32, 33, 34, 35, 36, 37, 38, 39, 40, 41] (by decide +kernel) (by decide +kernel)
set_option maxRecDepth 20000 in
theorem gX6_feed_X0_tapeBytes : GoodIn wsX6_feed (wsV RX6 133 RX0 yX0_tapeBytes wsX0_tapeBytes) := goodIn_app (goodIn_of _ (by decide +kernel)) ggX6_feed_X0_tapeBytes
theorem dX6_feed_0 : decode cX6_feed 0 = .ok (.iload_n 3, 1) := by decide +kernel
theorem dX6_feed_1 : decode cX6_feed 1 = .ok (.iconst 1, 1) := by decide +kernel
theorem dX6_feed_2 : decode cX6_feed 2 = .ok (.if_icmp .lt 9, 3) := by decide +kernel
theorem dX6_feed_5 : decode cX6_feed 5 = .ok (.iload_n 3, 1) := by decide +kernel
theorem dX6_feed_6 : decode cX6_feed 6 = .ok (.bipush 8, 2) := by decide +kernel
theorem dX6_feed_8 : decode cX6_feed 8 = .ok (.if_icmp .le 9, 3) := by decide +kernel
theorem dX6_feed_11 : decode cX6_feed 11 = .ok (.aload_n 0, 1) := by decide +kernel
theorem dX6_feed_12 : decode cX6_feed 12 = .ok (.iconst 1, 1) := by decide +kernel
theorem dX6_feed_13 : decode cX6_feed 13 = .ok (.invokevirtual 55, 3) := by decide +kernel
theorem dX6_feed_16 : decode cX6_feed 16 = .ok (.ireturn, 1) := by decide +kernel
theorem dX6_feed_17 : decode cX6_feed 17 = .ok (.iload_n 3, 1) := by decide +kernel
theorem dX6_feed_18 : decode cX6_feed 18 = .ok (.bipush 60, 2) := by decide +kernel
theorem dX6_feed_20 : decode cX6_feed 20 = .ok (.aload_n 0, 1) := by decide +kernel
theorem dX6_feed_21 : decode cX6_feed 21 = .ok (.getfield 12, 3) := by decide +kernel
theorem dX6_feed_24 : decode cX6_feed 24 = .ok (.getfield 130, 3) := by decide +kernel
theorem dX6_feed_27 : decode cX6_feed 27 = .ok (.isub, 1) := by decide +kernel
theorem dX6_feed_28 : decode cX6_feed 28 = .ok (.if_icmp .le 9, 3) := by decide +kernel
theorem dX6_feed_31 : decode cX6_feed 31 = .ok (.aload_n 0, 1) := by decide +kernel
theorem dX6_feed_32 : decode cX6_feed 32 = .ok (.iconst 4, 1) := by decide +kernel
theorem dX6_feed_33 : decode cX6_feed 33 = .ok (.invokevirtual 55, 3) := by decide +kernel
theorem dX6_feed_36 : decode cX6_feed 36 = .ok (.ireturn, 1) := by decide +kernel
theorem dX6_feed_37 : decode cX6_feed 37 = .ok (.aload_n 0, 1) := by decide +kernel
theorem dX6_feed_38 : decode cX6_feed 38 = .ok (.getfield 12, 3) := by decide +kernel
theorem dX6_feed_41 : decode cX6_feed 41 = .ok (.lload_n 1, 1) := by decide +kernel
theorem dX6_feed_42 : decode cX6_feed 42 = .ok (.iload_n 3, 1) := by decide +kernel
theorem dX6_feed_43 : decode cX6_feed 43 = .ok (.invokevirtual 133, 3) := by decide +kernel
theorem dX6_feed_46 : decode cX6_feed 46 = .ok (.ireturn, 1) := by decide +kernel
set_option maxRecDepth 20000 in
theorem ggX6_text_X6_within : GoodIn wsX6_text wsX6_within := goodIn_r _ [12] (by decide +kernel) (by decide +kernel)
set_option maxRecDepth 20000 in
theorem gX6_text_X6_within : GoodIn wsX6_text (va_wsS RX6 51 yX6_within wsX6_within) := goodIn_app (goodIn_of _ (by decide +kernel)) ggX6_text_X6_within
set_option maxRecDepth 20000 in
theorem ggX6_text_X6_fail : GoodIn wsX6_text wsX6_fail := goodIn_r _ [16, 17, 18, 80, 81, 82, 83, 84, 85, 86, 87] (by decide +kernel) (by decide +kernel)
set_option maxRecDepth 20000 in
theorem gX6_text_X6_fail : GoodIn wsX6_text (wsV RX6 55 RX6 yX6_fail wsX6_fail) := goodIn_app (goodIn_of _ (by decide +kernel)) ggX6_text_X6_fail
set_option maxRecDepth 20000 in
theorem ggX6_text_X1_reads : GoodIn wsX6_text wsX1_reads := goodIn_r _ [23, 24, 25, 26, 27, 28, 29, 30, 31, 32, 33, 34, 35, 22, 36, 37, 38, 39, 40, 41, 42, 43, 44, 45, 46, 47, 48, 49, 50, 51, 52, 53, 54, 55, 56, 57, 58, 59, 60, 61, 62, 63, 64, 65, 66, 67, 68, 69, 70, 71, 104, 105, 106, 107, 108, 109] (by decide +kernel) (by decide +kernel)
set_option maxRecDepth 20000 in
theorem gX6_text_X1_reads : GoodIn wsX6_text (wsV RX6 140 RX1 yX1_reads wsX1_reads) := goodIn_app (goodIn_of _ (by decide +kernel)) ggX6_text_X1_reads
set_option maxRecDepth 20000 in
theorem ggX6_text_X3_hold : GoodIn wsX6_text wsX3_hold := goodIn_r _ [76, 77, 78, 26, 27, 28, 79, 110, 111, 112] (by decide +kernel) (by decide +kernel)
set_option maxRecDepth 20000 in
theorem gX6_text_X3_hold : GoodIn wsX6_text (wsV RX6 157 RX3 yX3_hold wsX3_hold) := goodIn_app (goodIn_of _ (by decide +kernel)) ggX6_text_X3_hold
theorem dX6_text_0 : decode cX6_text 0 = .ok (.iload_n 1, 1) := by decide +kernel
theorem dX6_text_1 : decode cX6_text 1 = .ok (.iconst 1, 1) := by decide +kernel
theorem dX6_text_2 : decode cX6_text 2 = .ok (.invokestatic 51, 3) := by decide +kernel
theorem dX6_text_5 : decode cX6_text 5 = .ok (.ifCond .ne 9, 3) := by decide +kernel
theorem dX6_text_8 : decode cX6_text 8 = .ok (.aload_n 0, 1) := by decide +kernel
theorem dX6_text_9 : decode cX6_text 9 = .ok (.iconst 1, 1) := by decide +kernel
theorem dX6_text_10 : decode cX6_text 10 = .ok (.invokevirtual 55, 3) := by decide +kernel
theorem dX6_text_13 : decode cX6_text 13 = .ok (.ireturn, 1) := by decide +kernel
theorem dX6_text_14 : decode cX6_text 14 = .ok (.aload_n 0, 1) := by decide +kernel
theorem dX6_text_15 : decode cX6_text 15 = .ok (.getfield 22, 3) := by decide +kernel
theorem dX6_text_18 : decode cX6_text 18 = .ok (.aload_n 0, 1) := by decide +kernel
theorem dX6_text_19 : decode cX6_text 19 = .ok (.getfield 12, 3) := by decide +kernel
theorem dX6_text_22 : decode cX6_text 22 = .ok (.getfield 137, 3) := by decide +kernel
theorem dX6_text_25 : decode cX6_text 25 = .ok (.aload_n 0, 1) := by decide +kernel
theorem dX6_text_26 : decode cX6_text 26 = .ok (.getfield 12, 3) := by decide +kernel
theorem dX6_text_29 : decode cX6_text 29 = .ok (.getfield 130, 3) := by decide +kernel
theorem dX6_text_32 : decode cX6_text 32 = .ok (.iload_n 1, 1) := by decide +kernel
theorem dX6_text_33 : decode cX6_text 33 = .ok (.invokevirtual 140, 3) := by decide +kernel
theorem dX6_text_36 : decode cX6_text 36 = .ok (.istore_n 2, 1) := by decide +kernel
theorem dX6_text_37 : decode cX6_text 37 = .ok (.aload_n 0, 1) := by decide +kernel
theorem dX6_text_38 : decode cX6_text 38 = .ok (.getfield 12, 3) := by decide +kernel
theorem dX6_text_41 : decode cX6_text 41 = .ok (.iconst 0, 1) := by decide +kernel
theorem dX6_text_42 : decode cX6_text 42 = .ok (.putfield 130, 3) := by decide +kernel
theorem dX6_text_45 : decode cX6_text 45 = .ok (.iload_n 2, 1) := by decide +kernel
theorem dX6_text_46 : decode cX6_text 46 = .ok (.ifCond .ne 14, 3) := by decide +kernel
theorem dX6_text_49 : decode cX6_text 49 = .ok (.bipush (-10), 2) := by decide +kernel
theorem dX6_text_51 : decode cX6_text 51 = .ok (.aload_n 0, 1) := by decide +kernel
theorem dX6_text_52 : decode cX6_text 52 = .ok (.getfield 22, 3) := by decide +kernel
theorem dX6_text_55 : decode cX6_text 55 = .ok (.getfield 144, 3) := by decide +kernel
theorem dX6_text_58 : decode cX6_text 58 = .ok (.isub, 1) := by decide +kernel
theorem dX6_text_59 : decode cX6_text 59 = .ok (.ireturn, 1) := by decide +kernel
theorem dX6_text_60 : decode cX6_text 60 = .ok (.aload_n 0, 1) := by decide +kernel
theorem dX6_text_61 : decode cX6_text 61 = .ok (.getfield 12, 3) := by decide +kernel
theorem dX6_text_64 : decode cX6_text 64 = .ok (.getfield 147, 3) := by decide +kernel
theorem dX6_text_67 : decode cX6_text 67 = .ok (.iload_n 1, 1) := by decide +kernel
theorem dX6_text_68 : decode cX6_text 68 = .ok (.aaload, 1) := by decide +kernel
theorem dX6_text_69 : decode cX6_text 69 = .ok (.aload_n 0, 1) := by decide +kernel
theorem dX6_text_70 : decode cX6_text 70 = .ok (.getfield 22, 3) := by decide +kernel
theorem dX6_text_73 : decode cX6_text 73 = .ok (.getfield 151, 3) := by decide +kernel
theorem dX6_text_76 : decode cX6_text 76 = .ok (.aload_n 0, 1) := by decide +kernel
theorem dX6_text_77 : decode cX6_text 77 = .ok (.getfield 22, 3) := by decide +kernel
theorem dX6_text_80 : decode cX6_text 80 = .ok (.getfield 154, 3) := by decide +kernel
theorem dX6_text_83 : decode cX6_text 83 = .ok (.invokevirtual 157, 3) := by decide +kernel
theorem dX6_text_86 : decode cX6_text 86 = .ok (.iconst 1, 1) := by decide +kernel
theorem dX6_text_87 : decode cX6_text 87 = .ok (.ireturn, 1) := by decide +kernel
set_option maxRecDepth 20000 in
theorem ggX6_untell_X6_within : GoodIn wsX6_untell wsX6_within := goodIn_r _ [6] (by decide +kernel) (by decide +kernel)
set_option maxRecDepth 20000 in
theorem gX6_untell_X6_within : GoodIn wsX6_untell (va_wsS RX6 51 yX6_within wsX6_within) := goodIn_app (goodIn_of _ (by decide +kernel)) ggX6_untell_X6_within
set_option maxRecDepth 20000 in
theorem ggX6_untell_X6_fail : GoodIn wsX6_untell wsX6_fail := goodIn_r _ [10, 11, 12, 26, 27, 28, 29, 30, 31, 32, 33] (by decide +kernel) (by decide +kernel)
set_option maxRecDepth 20000 in
theorem gX6_untell_X6_fail : GoodIn wsX6_untell (wsV RX6 55 RX6 yX6_fail wsX6_fail) := goodIn_app (goodIn_of _ (by decide +kernel)) ggX6_untell_X6_fail
set_option maxRecDepth 20000 in
theorem ggX6_untell_X3_isThere : GoodIn wsX6_untell wsX3_isThere := goodIn_r _ [17, 18, 50, 51, 52] (by decide +kernel) (by decide +kernel)
set_option maxRecDepth 20000 in
theorem gX6_untell_X3_isThere : GoodIn wsX6_untell (wsV RX6 163 RX3 yX3_isThere wsX3_isThere) := goodIn_app (goodIn_of _ (by decide +kernel)) ggX6_untell_X3_isThere
set_option maxRecDepth 20000 in
theorem ggX6_untell_X3_forget : GoodIn wsX6_untell wsX3_forget := goodIn_r _ [22, 18, 50, 51, 52] (by decide +kernel) (by decide +kernel)
set_option maxRecDepth 20000 in
theorem gX6_untell_X3_forget : GoodIn wsX6_untell (wsV RX6 167 RX3 yX3_forget wsX3_forget) := goodIn_app (goodIn_of _ (by decide +kernel)) ggX6_untell_X3_forget
set_option maxRecDepth 20000 in
theorem ggX6_untell_X6_bit : GoodIn wsX6_untell wsX6_bit := goodIn_r _ [25] (by decide +kernel) (by decide +kernel)
set_option maxRecDepth 20000 in
theorem gX6_untell_X6_bit : GoodIn wsX6_untell (va_wsS RX6 83 yX6_bit wsX6_bit) := goodIn_app (goodIn_of _ (by decide +kernel)) ggX6_untell_X6_bit
theorem dX6_untell_0 : decode cX6_untell 0 = .ok (.iload_n 1, 1) := by decide +kernel
theorem dX6_untell_1 : decode cX6_untell 1 = .ok (.iconst 1, 1) := by decide +kernel
theorem dX6_untell_2 : decode cX6_untell 2 = .ok (.invokestatic 51, 3) := by decide +kernel
theorem dX6_untell_5 : decode cX6_untell 5 = .ok (.ifCond .ne 9, 3) := by decide +kernel
theorem dX6_untell_8 : decode cX6_untell 8 = .ok (.aload_n 0, 1) := by decide +kernel
theorem dX6_untell_9 : decode cX6_untell 9 = .ok (.iconst 1, 1) := by decide +kernel
theorem dX6_untell_10 : decode cX6_untell 10 = .ok (.invokevirtual 55, 3) := by decide +kernel
theorem dX6_untell_13 : decode cX6_untell 13 = .ok (.ireturn, 1) := by decide +kernel
theorem dX6_untell_14 : decode cX6_untell 14 = .ok (.aload_n 0, 1) := by decide +kernel
theorem dX6_untell_15 : decode cX6_untell 15 = .ok (.getfield 12, 3) := by decide +kernel
theorem dX6_untell_18 : decode cX6_untell 18 = .ok (.getfield 147, 3) := by decide +kernel
theorem dX6_untell_21 : decode cX6_untell 21 = .ok (.iload_n 1, 1) := by decide +kernel
theorem dX6_untell_22 : decode cX6_untell 22 = .ok (.aaload, 1) := by decide +kernel
theorem dX6_untell_23 : decode cX6_untell 23 = .ok (.invokevirtual 163, 3) := by decide +kernel
theorem dX6_untell_26 : decode cX6_untell 26 = .ok (.istore_n 2, 1) := by decide +kernel
theorem dX6_untell_27 : decode cX6_untell 27 = .ok (.aload_n 0, 1) := by decide +kernel
theorem dX6_untell_28 : decode cX6_untell 28 = .ok (.getfield 12, 3) := by decide +kernel
theorem dX6_untell_31 : decode cX6_untell 31 = .ok (.getfield 147, 3) := by decide +kernel
theorem dX6_untell_34 : decode cX6_untell 34 = .ok (.iload_n 1, 1) := by decide +kernel
theorem dX6_untell_35 : decode cX6_untell 35 = .ok (.aaload, 1) := by decide +kernel
theorem dX6_untell_36 : decode cX6_untell 36 = .ok (.invokevirtual 167, 3) := by decide +kernel
theorem dX6_untell_39 : decode cX6_untell 39 = .ok (.iload_n 2, 1) := by decide +kernel
theorem dX6_untell_40 : decode cX6_untell 40 = .ok (.invokestatic 83, 3) := by decide +kernel
theorem dX6_untell_43 : decode cX6_untell 43 = .ok (.ireturn, 1) := by decide +kernel
set_option maxRecDepth 20000 in
theorem ggX6_law_X6_within : GoodIn wsX6_law wsX6_within := goodIn_r _ [5] (by decide +kernel) (by decide +kernel)
set_option maxRecDepth 20000 in
theorem gX6_law_X6_within : GoodIn wsX6_law (va_wsS RX6 51 yX6_within wsX6_within) := goodIn_app (goodIn_of _ (by decide +kernel)) ggX6_law_X6_within
set_option maxRecDepth 20000 in
theorem ggX6_law_X6_fail : GoodIn wsX6_law wsX6_fail := goodIn_r _ [9, 10, 11, 45, 46, 47, 48, 49, 50, 51, 52] (by decide +kernel) (by decide +kernel)
set_option maxRecDepth 20000 in
theorem gX6_law_X6_fail : GoodIn wsX6_law (wsV RX6 55 RX6 yX6_fail wsX6_fail) := goodIn_app (goodIn_of _ (by decide +kernel)) ggX6_law_X6_fail
set_option maxRecDepth 20000 in
theorem ggX6_law_X0_gives : GoodIn wsX6_law wsX0_gives := goodIn_r _ [16, 17, 18, 19, 20, 21, 22, 23, 24, 25, 26, 27, 28, 29, 30, 31, 32, 33, 34, 35, 36, 4, 37, 38, 39, 40, 41, 42, 43, 44, 53, 54, 55, 56, 57, 58, 59, 60, 61, 62, 63, 64, 65, 66, 67, 68, 69, 70, 71] (by decide +kernel) (by decide +kernel)
set_option maxRecDepth 20000 in
theorem gX6_law_X0_gives : GoodIn wsX6_law (wsV RX6 170 RX0 yX0_gives wsX0_gives) := goodIn_app (goodIn_of _ (by decide +kernel)) ggX6_law_X0_gives
theorem dX6_law_0 : decode cX6_law 0 = .ok (.iload_n 1, 1) := by decide +kernel
theorem dX6_law_1 : decode cX6_law 1 = .ok (.iconst 1, 1) := by decide +kernel
theorem dX6_law_2 : decode cX6_law 2 = .ok (.invokestatic 51, 3) := by decide +kernel
theorem dX6_law_5 : decode cX6_law 5 = .ok (.ifCond .ne 9, 3) := by decide +kernel
theorem dX6_law_8 : decode cX6_law 8 = .ok (.aload_n 0, 1) := by decide +kernel
theorem dX6_law_9 : decode cX6_law 9 = .ok (.iconst 1, 1) := by decide +kernel
theorem dX6_law_10 : decode cX6_law 10 = .ok (.invokevirtual 55, 3) := by decide +kernel
theorem dX6_law_13 : decode cX6_law 13 = .ok (.ireturn, 1) := by decide +kernel
theorem dX6_law_14 : decode cX6_law 14 = .ok (.aload_n 0, 1) := by decide +kernel
theorem dX6_law_15 : decode cX6_law 15 = .ok (.getfield 12, 3) := by decide +kernel
theorem dX6_law_18 : decode cX6_law 18 = .ok (.iload_n 1, 1) := by decide +kernel
theorem dX6_law_19 : decode cX6_law 19 = .ok (.iload_n 2, 1) := by decide +kernel
theorem dX6_law_20 : decode cX6_law 20 = .ok (.iload_n 3, 1) := by decide +kernel
theorem dX6_law_21 : decode cX6_law 21 = .ok (.iload 4, 2) := by decide +kernel
theorem dX6_law_23 : decode cX6_law 23 = .ok (.invokevirtual 170, 3) := by decide +kernel
theorem dX6_law_26 : decode cX6_law 26 = .ok (.ireturn, 1) := by decide +kernel
set_option maxRecDepth 20000 in
theorem ggX6_days_X6_fail : GoodIn wsX6_days wsX6_fail := goodIn_r _ [7, 8, 9, 10, 11, 12, 13, 14, 15, 16, 17] (by decide +kernel) (by decide +kernel)
set_option maxRecDepth 20000 in
theorem gX6_days_X6_fail : GoodIn wsX6_days (wsV RX6 55 RX6 yX6_fail wsX6_fail) := goodIn_app (goodIn_of _ (by decide +kernel)) ggX6_days_X6_fail
theorem dX6_days_0 : decode cX6_days 0 = .ok (.iload_n 1, 1) := by decide +kernel
theorem dX6_days_1 : decode cX6_days 1 = .ok (.iconst 1, 1) := by decide +kernel
theorem dX6_days_2 : decode cX6_days 2 = .ok (.if_icmp .lt 9, 3) := by decide +kernel
theorem dX6_days_5 : decode cX6_days 5 = .ok (.iload_n 1, 1) := by decide +kernel
theorem dX6_days_6 : decode cX6_days 6 = .ok (.bipush 60, 2) := by decide +kernel
theorem dX6_days_8 : decode cX6_days 8 = .ok (.if_icmp .le 9, 3) := by decide +kernel
theorem dX6_days_11 : decode cX6_days 11 = .ok (.aload_n 0, 1) := by decide +kernel
theorem dX6_days_12 : decode cX6_days 12 = .ok (.iconst 1, 1) := by decide +kernel
theorem dX6_days_13 : decode cX6_days 13 = .ok (.invokevirtual 55, 3) := by decide +kernel
theorem dX6_days_16 : decode cX6_days 16 = .ok (.ireturn, 1) := by decide +kernel
theorem dX6_days_17 : decode cX6_days 17 = .ok (.aload_n 0, 1) := by decide +kernel
theorem dX6_days_18 : decode cX6_days 18 = .ok (.getfield 12, 3) := by decide +kernel
theorem dX6_days_21 : decode cX6_days 21 = .ok (.getfield 111, 3) := by decide +kernel
theorem dX6_days_24 : decode cX6_days 24 = .ok (.iload_n 1, 1) := by decide +kernel
theorem dX6_days_25 : decode cX6_days 25 = .ok (.iadd, 1) := by decide +kernel
theorem dX6_days_26 : decode cX6_days 26 = .ok (.sipush 9999, 3) := by decide +kernel
theorem dX6_days_29 : decode cX6_days 29 = .ok (.if_icmp .le 9, 3) := by decide +kernel
theorem dX6_days_32 : decode cX6_days 32 = .ok (.aload_n 0, 1) := by decide +kernel
theorem dX6_days_33 : decode cX6_days 33 = .ok (.iconst 3, 1) := by decide +kernel
theorem dX6_days_34 : decode cX6_days 34 = .ok (.invokevirtual 55, 3) := by decide +kernel
theorem dX6_days_37 : decode cX6_days 37 = .ok (.ireturn, 1) := by decide +kernel
theorem dX6_days_38 : decode cX6_days 38 = .ok (.aload_n 0, 1) := by decide +kernel
theorem dX6_days_39 : decode cX6_days 39 = .ok (.getfield 12, 3) := by decide +kernel
theorem dX6_days_42 : decode cX6_days 42 = .ok (.dup, 1) := by decide +kernel
theorem dX6_days_43 : decode cX6_days 43 = .ok (.getfield 111, 3) := by decide +kernel
theorem dX6_days_46 : decode cX6_days 46 = .ok (.iload_n 1, 1) := by decide +kernel
theorem dX6_days_47 : decode cX6_days 47 = .ok (.iadd, 1) := by decide +kernel
theorem dX6_days_48 : decode cX6_days 48 = .ok (.putfield 111, 3) := by decide +kernel
theorem dX6_days_51 : decode cX6_days 51 = .ok (.aload_n 0, 1) := by decide +kernel
theorem dX6_days_52 : decode cX6_days 52 = .ok (.getfield 12, 3) := by decide +kernel
theorem dX6_days_55 : decode cX6_days 55 = .ok (.getfield 111, 3) := by decide +kernel
theorem dX6_days_58 : decode cX6_days 58 = .ok (.ireturn, 1) := by decide +kernel
set_option maxRecDepth 20000 in
theorem ggX6_loose_X6_fail : GoodIn wsX6_loose wsX6_fail := goodIn_r _ [7, 8, 9, 92, 93, 94, 95, 96, 97, 98, 99] (by decide +kernel) (by decide +kernel)
set_option maxRecDepth 20000 in
theorem gX6_loose_X6_fail : GoodIn wsX6_loose (wsV RX6 55 RX6 yX6_fail wsX6_fail) := goodIn_app (goodIn_of _ (by decide +kernel)) ggX6_loose_X6_fail
set_option maxRecDepth 20000 in
theorem ggX6_loose_X0_dayByDraws : GoodIn wsX6_loose wsX0_dayByDraws := goodIn_r _ [14, 15, 16, 17, 18, 19, 20, 21, 13, 22, 23, 24, 25, 26, 27, 28, 29, 30, 31, 32, 33, 34, 35, 36, 37, 38, 39, 40, 41, 42, 43, 44, 45, 46, 47, 48, 49, 50, 6, 51, 52, 53, 54, 55, 56, 57, 58, 59, 60, 61, 62, 63, 64, 65, 66, 67, 68, 69, 70, 71, 72, 73, 74, 75, 76, 77, 78, 79, 80, 81, 82, 83, 84, 85, 86, 87, 88, 89, 90, 91, 100, 101, 102, 103, 104, 105, 106, 107, 108, 109, 110, 111, 112, 113, 114, 115, 116, 117, 118] (by decide +kernel) (by decide +kernel)
set_option maxRecDepth 20000 in
theorem gX6_loose_X0_dayByDraws : GoodIn wsX6_loose (wsV RX6 174 RX0 yX0_dayByDraws wsX0_dayByDraws) := goodIn_app (goodIn_of _ (by decide +kernel)) ggX6_loose_X0_dayByDraws

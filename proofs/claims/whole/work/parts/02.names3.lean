theorem dX6_loose_0 : decode cX6_loose 0 = .ok (.iload_n 1, 1) := by decide +kernel
theorem dX6_loose_1 : decode cX6_loose 1 = .ok (.iconst 1, 1) := by decide +kernel
theorem dX6_loose_2 : decode cX6_loose 2 = .ok (.if_icmp .lt 9, 3) := by decide +kernel
theorem dX6_loose_5 : decode cX6_loose 5 = .ok (.iload_n 1, 1) := by decide +kernel
theorem dX6_loose_6 : decode cX6_loose 6 = .ok (.bipush 30, 2) := by decide +kernel
theorem dX6_loose_8 : decode cX6_loose 8 = .ok (.if_icmp .le 9, 3) := by decide +kernel
theorem dX6_loose_11 : decode cX6_loose 11 = .ok (.aload_n 0, 1) := by decide +kernel
theorem dX6_loose_12 : decode cX6_loose 12 = .ok (.iconst 1, 1) := by decide +kernel
theorem dX6_loose_13 : decode cX6_loose 13 = .ok (.invokevirtual 55, 3) := by decide +kernel
theorem dX6_loose_16 : decode cX6_loose 16 = .ok (.ireturn, 1) := by decide +kernel
theorem dX6_loose_17 : decode cX6_loose 17 = .ok (.aload_n 0, 1) := by decide +kernel
theorem dX6_loose_18 : decode cX6_loose 18 = .ok (.getfield 12, 3) := by decide +kernel
theorem dX6_loose_21 : decode cX6_loose 21 = .ok (.getfield 111, 3) := by decide +kernel
theorem dX6_loose_24 : decode cX6_loose 24 = .ok (.iload_n 1, 1) := by decide +kernel
theorem dX6_loose_25 : decode cX6_loose 25 = .ok (.iadd, 1) := by decide +kernel
theorem dX6_loose_26 : decode cX6_loose 26 = .ok (.sipush 9999, 3) := by decide +kernel
theorem dX6_loose_29 : decode cX6_loose 29 = .ok (.if_icmp .le 9, 3) := by decide +kernel
theorem dX6_loose_32 : decode cX6_loose 32 = .ok (.aload_n 0, 1) := by decide +kernel
theorem dX6_loose_33 : decode cX6_loose 33 = .ok (.iconst 3, 1) := by decide +kernel
theorem dX6_loose_34 : decode cX6_loose 34 = .ok (.invokevirtual 55, 3) := by decide +kernel
theorem dX6_loose_37 : decode cX6_loose 37 = .ok (.ireturn, 1) := by decide +kernel
theorem dX6_loose_38 : decode cX6_loose 38 = .ok (.iconst 0, 1) := by decide +kernel
theorem dX6_loose_39 : decode cX6_loose 39 = .ok (.istore_n 2, 1) := by decide +kernel
theorem dX6_loose_40 : decode cX6_loose 40 = .ok (.iconst 0, 1) := by decide +kernel
theorem dX6_loose_41 : decode cX6_loose 41 = .ok (.istore_n 3, 1) := by decide +kernel
theorem dX6_loose_42 : decode cX6_loose 42 = .ok (.iload_n 3, 1) := by decide +kernel
theorem dX6_loose_43 : decode cX6_loose 43 = .ok (.iload_n 1, 1) := by decide +kernel
theorem dX6_loose_44 : decode cX6_loose 44 = .ok (.if_icmp .ge 19, 3) := by decide +kernel
theorem dX6_loose_47 : decode cX6_loose 47 = .ok (.iload_n 2, 1) := by decide +kernel
theorem dX6_loose_48 : decode cX6_loose 48 = .ok (.aload_n 0, 1) := by decide +kernel
theorem dX6_loose_49 : decode cX6_loose 49 = .ok (.getfield 12, 3) := by decide +kernel
theorem dX6_loose_52 : decode cX6_loose 52 = .ok (.invokevirtual 174, 3) := by decide +kernel
theorem dX6_loose_55 : decode cX6_loose 55 = .ok (.iadd, 1) := by decide +kernel
theorem dX6_loose_56 : decode cX6_loose 56 = .ok (.istore_n 2, 1) := by decide +kernel
theorem dX6_loose_57 : decode cX6_loose 57 = .ok (.iinc 3 1, 3) := by decide +kernel
theorem dX6_loose_60 : decode cX6_loose 60 = .ok (.goto (-18), 3) := by decide +kernel
theorem dX6_loose_63 : decode cX6_loose 63 = .ok (.iload_n 2, 1) := by decide +kernel
theorem dX6_loose_64 : decode cX6_loose 64 = .ok (.ireturn, 1) := by decide +kernel
theorem dX6_seed_0 : decode cX6_seed 0 = .ok (.aload_n 0, 1) := by decide +kernel
theorem dX6_seed_1 : decode cX6_seed 1 = .ok (.getfield 12, 3) := by decide +kernel
theorem dX6_seed_4 : decode cX6_seed 4 = .ok (.getfield 178, 3) := by decide +kernel
theorem dX6_seed_7 : decode cX6_seed 7 = .ok (.istore_n 2, 1) := by decide +kernel
theorem dX6_seed_8 : decode cX6_seed 8 = .ok (.aload_n 0, 1) := by decide +kernel
theorem dX6_seed_9 : decode cX6_seed 9 = .ok (.getfield 12, 3) := by decide +kernel
theorem dX6_seed_12 : decode cX6_seed 12 = .ok (.iload_n 1, 1) := by decide +kernel
theorem dX6_seed_13 : decode cX6_seed 13 = .ok (.putfield 178, 3) := by decide +kernel
theorem dX6_seed_16 : decode cX6_seed 16 = .ok (.iload_n 2, 1) := by decide +kernel
theorem dX6_seed_17 : decode cX6_seed 17 = .ok (.ireturn, 1) := by decide +kernel
set_option maxRecDepth 20000 in
theorem ggX6_left_X0_isPerson : GoodIn wsX6_left wsX0_isPerson := goodIn_r _ [7, 8, 71, 72, 73, 74, 75, 76, 77, 78, 79, 80, 81, 82, 83, 84, 85, 86] (by decide +kernel) (by decide +kernel)
set_option maxRecDepth 20000 in
theorem gX6_left_X0_isPerson : GoodIn wsX6_left (wsV RX6 67 RX0 yX0_isPerson wsX0_isPerson) := goodIn_app (goodIn_of _ (by decide +kernel)) ggX6_left_X0_isPerson
set_option maxRecDepth 20000 in
theorem ggX6_left_X6_fail : GoodIn wsX6_left wsX6_fail := goodIn_r _ [13, 14, 15, 63, 64, 65, 66, 67, 68, 69, 70] (by decide +kernel) (by decide +kernel)
set_option maxRecDepth 20000 in
theorem gX6_left_X6_fail : GoodIn wsX6_left (wsV RX6 55 RX6 yX6_fail wsX6_fail) := goodIn_app (goodIn_of _ (by decide +kernel)) ggX6_left_X6_fail
set_option maxRecDepth 20000 in
theorem ggX6_left_X4_leftOf : GoodIn wsX6_left wsX4_leftOf := goodIn_r _ [20, 21, 22, 23, 24, 19, 25, 26, 27, 28, 29, 30, 31, 6, 32, 33, 34, 35, 36, 37, 38, 39, 40, 41, 12, 42, 71, 72, 73, 74, 75, 76, 77, 78, 79, 80, 81, 82, 83, 84, 85, 86] (by decide +kernel) (by decide +kernel)
set_option maxRecDepth 20000 in
theorem gX6_left_X4_leftOf : GoodIn wsX6_left (wsV RX6 181 RX4 yX4_leftOf wsX4_leftOf) := goodIn_app (goodIn_of _ (by decide +kernel)) ggX6_left_X4_leftOf
set_option maxRecDepth 20000 in
theorem ggX6_left_X6_bitsIn : GoodIn wsX6_left wsX6_bitsIn := goodIn_r _ [45, 46, 47, 48, 49, 50, 51, 52] (by decide +kernel) (by decide +kernel)
set_option maxRecDepth 20000 in
theorem gX6_left_X6_bitsIn : GoodIn wsX6_left (va_wsS RX6 185 yX6_bitsIn wsX6_bitsIn) := goodIn_app (goodIn_of _ (by decide +kernel)) ggX6_left_X6_bitsIn
set_option maxRecDepth 20000 in
theorem ggX6_left_X0_toComeOf : GoodIn wsX6_left wsX0_toComeOf := goodIn_r _ [56, 57, 58, 59, 60, 61, 62, 71, 72, 73, 74, 75, 76, 77, 78, 79, 80, 81, 82, 83, 84, 85, 86] (by decide +kernel) (by decide +kernel)
set_option maxRecDepth 20000 in
theorem gX6_left_X0_toComeOf : GoodIn wsX6_left (wsV RX6 188 RX0 yX0_toComeOf wsX0_toComeOf) := goodIn_app (goodIn_of _ (by decide +kernel)) ggX6_left_X0_toComeOf
theorem dX6_left_0 : decode cX6_left 0 = .ok (.aload_n 0, 1) := by decide +kernel
theorem dX6_left_1 : decode cX6_left 1 = .ok (.getfield 12, 3) := by decide +kernel
theorem dX6_left_4 : decode cX6_left 4 = .ok (.iload_n 1, 1) := by decide +kernel
theorem dX6_left_5 : decode cX6_left 5 = .ok (.invokevirtual 67, 3) := by decide +kernel
theorem dX6_left_8 : decode cX6_left 8 = .ok (.ifCond .ne 9, 3) := by decide +kernel
theorem dX6_left_11 : decode cX6_left 11 = .ok (.aload_n 0, 1) := by decide +kernel
theorem dX6_left_12 : decode cX6_left 12 = .ok (.iconst 1, 1) := by decide +kernel
theorem dX6_left_13 : decode cX6_left 13 = .ok (.invokevirtual 55, 3) := by decide +kernel
theorem dX6_left_16 : decode cX6_left 16 = .ok (.ireturn, 1) := by decide +kernel
theorem dX6_left_17 : decode cX6_left 17 = .ok (.iload_n 2, 1) := by decide +kernel
theorem dX6_left_18 : decode cX6_left 18 = .ok (.tableswitch 64 0 2 #[26, 39, 55], 26) := by decide +kernel
theorem dX6_left_44 : decode cX6_left 44 = .ok (.aload_n 0, 1) := by decide +kernel
theorem dX6_left_45 : decode cX6_left 45 = .ok (.getfield 29, 3) := by decide +kernel
theorem dX6_left_48 : decode cX6_left 48 = .ok (.aload_n 0, 1) := by decide +kernel
theorem dX6_left_49 : decode cX6_left 49 = .ok (.getfield 12, 3) := by decide +kernel
theorem dX6_left_52 : decode cX6_left 52 = .ok (.iload_n 1, 1) := by decide +kernel
theorem dX6_left_53 : decode cX6_left 53 = .ok (.invokevirtual 181, 3) := by decide +kernel
theorem dX6_left_56 : decode cX6_left 56 = .ok (.ireturn, 1) := by decide +kernel
theorem dX6_left_57 : decode cX6_left 57 = .ok (.aload_n 0, 1) := by decide +kernel
theorem dX6_left_58 : decode cX6_left 58 = .ok (.getfield 29, 3) := by decide +kernel
theorem dX6_left_61 : decode cX6_left 61 = .ok (.aload_n 0, 1) := by decide +kernel
theorem dX6_left_62 : decode cX6_left 62 = .ok (.getfield 12, 3) := by decide +kernel
theorem dX6_left_65 : decode cX6_left 65 = .ok (.iload_n 1, 1) := by decide +kernel
theorem dX6_left_66 : decode cX6_left 66 = .ok (.invokevirtual 181, 3) := by decide +kernel
theorem dX6_left_69 : decode cX6_left 69 = .ok (.invokestatic 185, 3) := by decide +kernel
theorem dX6_left_72 : decode cX6_left 72 = .ok (.ireturn, 1) := by decide +kernel
theorem dX6_left_73 : decode cX6_left 73 = .ok (.aload_n 0, 1) := by decide +kernel
theorem dX6_left_74 : decode cX6_left 74 = .ok (.getfield 12, 3) := by decide +kernel
theorem dX6_left_77 : decode cX6_left 77 = .ok (.iload_n 1, 1) := by decide +kernel
theorem dX6_left_78 : decode cX6_left 78 = .ok (.invokevirtual 188, 3) := by decide +kernel
theorem dX6_left_81 : decode cX6_left 81 = .ok (.ireturn, 1) := by decide +kernel
theorem dX6_left_82 : decode cX6_left 82 = .ok (.aload_n 0, 1) := by decide +kernel
theorem dX6_left_83 : decode cX6_left 83 = .ok (.iconst 1, 1) := by decide +kernel
theorem dX6_left_84 : decode cX6_left 84 = .ok (.invokevirtual 55, 3) := by decide +kernel
theorem dX6_left_87 : decode cX6_left 87 = .ok (.ireturn, 1) := by decide +kernel
set_option maxRecDepth 20000 in
theorem ggX6_odds_X0_isPerson : GoodIn wsX6_odds wsX0_isPerson := goodIn_r _ [9, 10, 114, 115, 116, 117, 118, 119, 120, 121, 122, 123, 124, 125, 126, 127, 128, 129] (by decide +kernel) (by decide +kernel)
set_option maxRecDepth 20000 in
theorem gX6_odds_X0_isPerson : GoodIn wsX6_odds (wsV RX6 67 RX0 yX0_isPerson wsX0_isPerson) := goodIn_app (goodIn_of _ (by decide +kernel)) ggX6_odds_X0_isPerson
set_option maxRecDepth 20000 in
theorem ggX6_odds_X6_within : GoodIn wsX6_odds wsX6_within := goodIn_r _ [14] (by decide +kernel) (by decide +kernel)
set_option maxRecDepth 20000 in
theorem gX6_odds_X6_within : GoodIn wsX6_odds (va_wsS RX6 51 yX6_within wsX6_within) := goodIn_app (goodIn_of _ (by decide +kernel)) ggX6_odds_X6_within
set_option maxRecDepth 20000 in
theorem ggX6_odds_X6_fail : GoodIn wsX6_odds wsX6_fail := goodIn_r _ [18, 19, 20, 103, 104, 105, 106, 107, 108, 109, 110] (by decide +kernel) (by decide +kernel)
set_option maxRecDepth 20000 in
theorem gX6_odds_X6_fail : GoodIn wsX6_odds (wsV RX6 55 RX6 yX6_fail wsX6_fail) := goodIn_app (goodIn_of _ (by decide +kernel)) ggX6_odds_X6_fail
set_option maxRecDepth 20000 in
theorem ggX6_odds_X4_thinkOdds : GoodIn wsX6_odds wsX4_thinkOdds := goodIn_r _ [25, 26, 27, 28, 29, 24, 30, 31, 32, 33, 34, 35, 36, 37, 38, 39, 40, 41, 42, 43, 8, 44, 45, 46, 47, 48, 49, 50, 51, 52, 53, 13, 54, 55, 56, 57, 58, 59, 60, 61, 62, 63, 64, 65, 66, 67, 68, 69, 70, 71, 72, 73, 74, 75, 76, 77, 78, 79, 80, 81, 82, 83, 84, 85, 86, 87, 88, 89, 90, 91, 92, 93, 94, 95, 96, 97, 98, 99, 100, 101, 102, 111, 112, 113, 114, 115, 116, 117, 118, 119, 120, 121, 122, 123, 124, 125, 126, 127, 128, 129, 130, 131, 132] (by decide +kernel) (by decide +kernel)
set_option maxRecDepth 20000 in
theorem gX6_odds_X4_thinkOdds : GoodIn wsX6_odds (wsV RX6 191 RX4 yX4_thinkOdds wsX4_thinkOdds) := goodIn_app (goodIn_of _ (by decide +kernel)) ggX6_odds_X4_thinkOdds
theorem dX6_odds_0 : decode cX6_odds 0 = .ok (.aload_n 0, 1) := by decide +kernel
theorem dX6_odds_1 : decode cX6_odds 1 = .ok (.getfield 12, 3) := by decide +kernel
theorem dX6_odds_4 : decode cX6_odds 4 = .ok (.iload_n 1, 1) := by decide +kernel
theorem dX6_odds_5 : decode cX6_odds 5 = .ok (.invokevirtual 67, 3) := by decide +kernel
theorem dX6_odds_8 : decode cX6_odds 8 = .ok (.ifCond .eq 20, 3) := by decide +kernel
theorem dX6_odds_11 : decode cX6_odds 11 = .ok (.iload_n 2, 1) := by decide +kernel
theorem dX6_odds_12 : decode cX6_odds 12 = .ok (.bipush 9, 2) := by decide +kernel
theorem dX6_odds_14 : decode cX6_odds 14 = .ok (.invokestatic 51, 3) := by decide +kernel
theorem dX6_odds_17 : decode cX6_odds 17 = .ok (.ifCond .eq 11, 3) := by decide +kernel
theorem dX6_odds_20 : decode cX6_odds 20 = .ok (.iload_n 3, 1) := by decide +kernel
theorem dX6_odds_21 : decode cX6_odds 21 = .ok (.iconst 1, 1) := by decide +kernel
theorem dX6_odds_22 : decode cX6_odds 22 = .ok (.invokestatic 51, 3) := by decide +kernel
theorem dX6_odds_25 : decode cX6_odds 25 = .ok (.ifCond .ne 10, 3) := by decide +kernel
theorem dX6_odds_28 : decode cX6_odds 28 = .ok (.aload_n 0, 1) := by decide +kernel
theorem dX6_odds_29 : decode cX6_odds 29 = .ok (.iconst 1, 1) := by decide +kernel
theorem dX6_odds_30 : decode cX6_odds 30 = .ok (.invokevirtual 55, 3) := by decide +kernel
theorem dX6_odds_33 : decode cX6_odds 33 = .ok (.i2l, 1) := by decide +kernel
theorem dX6_odds_34 : decode cX6_odds 34 = .ok (.lreturn, 1) := by decide +kernel
theorem dX6_odds_35 : decode cX6_odds 35 = .ok (.aload_n 0, 1) := by decide +kernel
theorem dX6_odds_36 : decode cX6_odds 36 = .ok (.getfield 29, 3) := by decide +kernel
theorem dX6_odds_39 : decode cX6_odds 39 = .ok (.aload_n 0, 1) := by decide +kernel
theorem dX6_odds_40 : decode cX6_odds 40 = .ok (.getfield 12, 3) := by decide +kernel
theorem dX6_odds_43 : decode cX6_odds 43 = .ok (.iload_n 1, 1) := by decide +kernel
theorem dX6_odds_44 : decode cX6_odds 44 = .ok (.iload_n 2, 1) := by decide +kernel
theorem dX6_odds_45 : decode cX6_odds 45 = .ok (.invokevirtual 191, 3) := by decide +kernel
theorem dX6_odds_48 : decode cX6_odds 48 = .ok (.iload_n 3, 1) := by decide +kernel
theorem dX6_odds_49 : decode cX6_odds 49 = .ok (.ifCond .ne 13, 3) := by decide +kernel
theorem dX6_odds_52 : decode cX6_odds 52 = .ok (.aload_n 0, 1) := by decide +kernel
theorem dX6_odds_53 : decode cX6_odds 53 = .ok (.getfield 29, 3) := by decide +kernel
theorem dX6_odds_56 : decode cX6_odds 56 = .ok (.getfield 195, 3) := by decide +kernel
theorem dX6_odds_59 : decode cX6_odds 59 = .ok (.goto 10, 3) := by decide +kernel
theorem dX6_odds_62 : decode cX6_odds 62 = .ok (.aload_n 0, 1) := by decide +kernel
theorem dX6_odds_63 : decode cX6_odds 63 = .ok (.getfield 29, 3) := by decide +kernel
theorem dX6_odds_66 : decode cX6_odds 66 = .ok (.getfield 199, 3) := by decide +kernel
theorem dX6_odds_69 : decode cX6_odds 69 = .ok (.lreturn, 1) := by decide +kernel
set_option maxRecDepth 20000 in
theorem ggX6_through_X0_isPerson : GoodIn wsX6_through wsX0_isPerson := goodIn_r _ [9, 10, 121, 122, 123, 124, 125, 126, 127, 128, 129, 130, 131, 132, 133, 134, 135, 136] (by decide +kernel) (by decide +kernel)
set_option maxRecDepth 20000 in
theorem gX6_through_X0_isPerson : GoodIn wsX6_through (wsV RX6 67 RX0 yX0_isPerson wsX0_isPerson) := goodIn_app (goodIn_of _ (by decide +kernel)) ggX6_through_X0_isPerson
set_option maxRecDepth 20000 in
theorem ggX6_through_X6_within : GoodIn wsX6_through wsX6_within := goodIn_r _ [14] (by decide +kernel) (by decide +kernel)
set_option maxRecDepth 20000 in
theorem gX6_through_X6_within : GoodIn wsX6_through (va_wsS RX6 51 yX6_within wsX6_within) := goodIn_app (goodIn_of _ (by decide +kernel)) ggX6_through_X6_within
set_option maxRecDepth 20000 in
theorem ggX6_through_X6_fail : GoodIn wsX6_through wsX6_fail := goodIn_r _ [18, 19, 20, 110, 111, 112, 113, 114, 115, 116, 117] (by decide +kernel) (by decide +kernel)
set_option maxRecDepth 20000 in
theorem gX6_through_X6_fail : GoodIn wsX6_through (wsV RX6 55 RX6 yX6_fail wsX6_fail) := goodIn_app (goodIn_of _ (by decide +kernel)) ggX6_through_X6_fail
set_option maxRecDepth 20000 in
theorem ggX6_through_X4_thinkOut : GoodIn wsX6_through wsX4_thinkOut := goodIn_r _ [25, 26, 27, 28, 29, 24, 30, 31, 32, 33, 34, 35, 36, 37, 38, 39, 40, 41, 42, 43, 8, 44, 45, 46, 47, 48, 49, 50, 51, 52, 53, 13, 54, 55, 56, 57, 58, 59, 60, 61, 62, 63, 64, 65, 66, 67, 68, 69, 70, 71, 72, 73, 74, 75, 76, 77, 78, 79, 80, 81, 82, 83, 84, 85, 86, 87, 88, 89, 90, 91, 92, 93, 94, 95, 96, 97, 98, 99, 100, 101, 102, 103, 104, 105, 106, 107, 108, 109, 118, 119, 120, 121, 122, 123, 124, 125, 126, 127, 128, 129, 130, 131, 132, 133, 134, 135, 136, 137, 138, 139] (by decide +kernel) (by decide +kernel)
set_option maxRecDepth 20000 in
theorem gX6_through_X4_thinkOut : GoodIn wsX6_through (wsV RX6 202 RX4 yX4_thinkOut wsX4_thinkOut) := goodIn_app (goodIn_of _ (by decide +kernel)) ggX6_through_X4_thinkOut
theorem dX6_through_0 : decode cX6_through 0 = .ok (.aload_n 0, 1) := by decide +kernel
theorem dX6_through_1 : decode cX6_through 1 = .ok (.getfield 12, 3) := by decide +kernel
theorem dX6_through_4 : decode cX6_through 4 = .ok (.iload_n 1, 1) := by decide +kernel
theorem dX6_through_5 : decode cX6_through 5 = .ok (.invokevirtual 67, 3) := by decide +kernel
theorem dX6_through_8 : decode cX6_through 8 = .ok (.ifCond .eq 11, 3) := by decide +kernel
theorem dX6_through_11 : decode cX6_through 11 = .ok (.iload_n 2, 1) := by decide +kernel
theorem dX6_through_12 : decode cX6_through 12 = .ok (.iconst 1, 1) := by decide +kernel
theorem dX6_through_13 : decode cX6_through 13 = .ok (.invokestatic 51, 3) := by decide +kernel
theorem dX6_through_16 : decode cX6_through 16 = .ok (.ifCond .ne 10, 3) := by decide +kernel
theorem dX6_through_19 : decode cX6_through 19 = .ok (.aload_n 0, 1) := by decide +kernel
theorem dX6_through_20 : decode cX6_through 20 = .ok (.iconst 1, 1) := by decide +kernel
theorem dX6_through_21 : decode cX6_through 21 = .ok (.invokevirtual 55, 3) := by decide +kernel
theorem dX6_through_24 : decode cX6_through 24 = .ok (.i2l, 1) := by decide +kernel
theorem dX6_through_25 : decode cX6_through 25 = .ok (.lreturn, 1) := by decide +kernel
theorem dX6_through_26 : decode cX6_through 26 = .ok (.aload_n 0, 1) := by decide +kernel
theorem dX6_through_27 : decode cX6_through 27 = .ok (.getfield 29, 3) := by decide +kernel
theorem dX6_through_30 : decode cX6_through 30 = .ok (.aload_n 0, 1) := by decide +kernel
theorem dX6_through_31 : decode cX6_through 31 = .ok (.getfield 12, 3) := by decide +kernel
theorem dX6_through_34 : decode cX6_through 34 = .ok (.iload_n 1, 1) := by decide +kernel
theorem dX6_through_35 : decode cX6_through 35 = .ok (.invokevirtual 202, 3) := by decide +kernel
theorem dX6_through_38 : decode cX6_through 38 = .ok (.iload_n 2, 1) := by decide +kernel
theorem dX6_through_39 : decode cX6_through 39 = .ok (.ifCond .ne 13, 3) := by decide +kernel
theorem dX6_through_42 : decode cX6_through 42 = .ok (.aload_n 0, 1) := by decide +kernel
theorem dX6_through_43 : decode cX6_through 43 = .ok (.getfield 29, 3) := by decide +kernel
theorem dX6_through_46 : decode cX6_through 46 = .ok (.getfield 195, 3) := by decide +kernel
theorem dX6_through_49 : decode cX6_through 49 = .ok (.goto 10, 3) := by decide +kernel
theorem dX6_through_52 : decode cX6_through 52 = .ok (.aload_n 0, 1) := by decide +kernel
theorem dX6_through_53 : decode cX6_through 53 = .ok (.getfield 29, 3) := by decide +kernel
theorem dX6_through_56 : decode cX6_through 56 = .ok (.getfield 199, 3) := by decide +kernel
theorem dX6_through_59 : decode cX6_through 59 = .ok (.lreturn, 1) := by decide +kernel
set_option maxRecDepth 20000 in
theorem ggX6_safest_X0_isPiece : GoodIn wsX6_safest wsX0_isPiece := goodIn_r _ [7, 8, 90, 91, 92, 93, 94, 95, 96, 97, 98, 99, 100, 101, 102, 103, 104, 105] (by decide +kernel) (by decide +kernel)
set_option maxRecDepth 20000 in
theorem gX6_safest_X0_isPiece : GoodIn wsX6_safest (wsV RX6 96 RX0 yX0_isPiece wsX0_isPiece) := goodIn_app (goodIn_of _ (by decide +kernel)) ggX6_safest_X0_isPiece
set_option maxRecDepth 20000 in
theorem ggX6_safest_X6_within : GoodIn wsX6_safest wsX6_within := goodIn_r _ [12] (by decide +kernel) (by decide +kernel)
set_option maxRecDepth 20000 in
theorem gX6_safest_X6_within : GoodIn wsX6_safest (va_wsS RX6 51 yX6_within wsX6_within) := goodIn_app (goodIn_of _ (by decide +kernel)) ggX6_safest_X6_within
set_option maxRecDepth 20000 in
theorem ggX6_safest_X6_fail : GoodIn wsX6_safest wsX6_fail := goodIn_r _ [16, 17, 18, 82, 83, 84, 85, 86, 87, 88, 89] (by decide +kernel) (by decide +kernel)
set_option maxRecDepth 20000 in
theorem gX6_safest_X6_fail : GoodIn wsX6_safest (wsV RX6 55 RX6 yX6_fail wsX6_fail) := goodIn_app (goodIn_of _ (by decide +kernel)) ggX6_safest_X6_fail
set_option maxRecDepth 20000 in
theorem ggX6_safest_X4_safestFor : GoodIn wsX6_safest wsX4_safestFor := goodIn_r _ [23, 24, 25, 26, 27, 28, 6, 29, 30, 31, 32, 33, 34, 35, 36, 37, 38, 39, 40, 8, 41, 42, 11, 43, 44, 45, 46, 47, 48, 49, 50, 51, 52, 53, 54, 55, 56, 57, 58, 59, 60, 61, 62, 63, 64, 65, 66, 67, 68, 69, 70, 71, 72, 73, 74, 75, 90, 91, 92, 93, 94, 95, 96, 97, 98, 99, 100, 101, 102, 103, 104, 105, 106, 107, 108] (by decide +kernel) (by decide +kernel)
set_option maxRecDepth 20000 in
theorem gX6_safest_X4_safestFor : GoodIn wsX6_safest (wsV RX6 206 RX4 yX4_safestFor wsX4_safestFor) := goodIn_app (goodIn_of _ (by decide +kernel)) ggX6_safest_X4_safestFor
set_option maxRecDepth 20000 in
theorem ggX6_safest_X0_riskIn : GoodIn wsX6_safest wsX0_riskIn := goodIn_r _ [79, 80, 81, 27, 28, 6, 29, 30, 31, 32, 33, 34, 35, 36, 37, 38, 39, 40, 8, 41, 42, 11, 43, 44, 45, 46, 47, 48, 49, 50, 51, 52, 53, 54, 55, 56, 57, 58, 59, 60, 61, 62, 63, 64, 65, 66, 67, 68, 69, 70, 71, 72, 73, 74, 75, 90, 91, 92, 93, 94, 95, 96, 97, 98, 99, 100, 101, 102, 103, 104, 105, 106, 107, 108] (by decide +kernel) (by decide +kernel)
set_option maxRecDepth 20000 in
theorem gX6_safest_X0_riskIn : GoodIn wsX6_safest (wsV RX6 117 RX0 yX0_riskIn wsX0_riskIn) := goodIn_app (goodIn_of _ (by decide +kernel)) ggX6_safest_X0_riskIn
theorem dX6_safest_0 : decode cX6_safest 0 = .ok (.aload_n 0, 1) := by decide +kernel
theorem dX6_safest_1 : decode cX6_safest 1 = .ok (.getfield 12, 3) := by decide +kernel
theorem dX6_safest_4 : decode cX6_safest 4 = .ok (.iload_n 1, 1) := by decide +kernel
theorem dX6_safest_5 : decode cX6_safest 5 = .ok (.invokevirtual 96, 3) := by decide +kernel
theorem dX6_safest_8 : decode cX6_safest 8 = .ok (.ifCond .eq 11, 3) := by decide +kernel
theorem dX6_safest_11 : decode cX6_safest 11 = .ok (.iload_n 2, 1) := by decide +kernel
theorem dX6_safest_12 : decode cX6_safest 12 = .ok (.iconst 1, 1) := by decide +kernel
theorem dX6_safest_13 : decode cX6_safest 13 = .ok (.invokestatic 51, 3) := by decide +kernel
theorem dX6_safest_16 : decode cX6_safest 16 = .ok (.ifCond .ne 9, 3) := by decide +kernel
theorem dX6_safest_19 : decode cX6_safest 19 = .ok (.aload_n 0, 1) := by decide +kernel
theorem dX6_safest_20 : decode cX6_safest 20 = .ok (.iconst 1, 1) := by decide +kernel
theorem dX6_safest_21 : decode cX6_safest 21 = .ok (.invokevirtual 55, 3) := by decide +kernel
theorem dX6_safest_24 : decode cX6_safest 24 = .ok (.ireturn, 1) := by decide +kernel
theorem dX6_safest_25 : decode cX6_safest 25 = .ok (.aload_n 0, 1) := by decide +kernel
theorem dX6_safest_26 : decode cX6_safest 26 = .ok (.getfield 29, 3) := by decide +kernel
theorem dX6_safest_29 : decode cX6_safest 29 = .ok (.aload_n 0, 1) := by decide +kernel
theorem dX6_safest_30 : decode cX6_safest 30 = .ok (.getfield 12, 3) := by decide +kernel
theorem dX6_safest_33 : decode cX6_safest 33 = .ok (.iload_n 1, 1) := by decide +kernel
theorem dX6_safest_34 : decode cX6_safest 34 = .ok (.invokevirtual 206, 3) := by decide +kernel
theorem dX6_safest_37 : decode cX6_safest 37 = .ok (.istore_n 3, 1) := by decide +kernel
theorem dX6_safest_38 : decode cX6_safest 38 = .ok (.iload_n 2, 1) := by decide +kernel
theorem dX6_safest_39 : decode cX6_safest 39 = .ok (.ifCond .ne 7, 3) := by decide +kernel
theorem dX6_safest_42 : decode cX6_safest 42 = .ok (.iload_n 3, 1) := by decide +kernel
theorem dX6_safest_43 : decode cX6_safest 43 = .ok (.goto 12, 3) := by decide +kernel
theorem dX6_safest_46 : decode cX6_safest 46 = .ok (.aload_n 0, 1) := by decide +kernel
theorem dX6_safest_47 : decode cX6_safest 47 = .ok (.getfield 12, 3) := by decide +kernel
theorem dX6_safest_50 : decode cX6_safest 50 = .ok (.iload_n 1, 1) := by decide +kernel
theorem dX6_safest_51 : decode cX6_safest 51 = .ok (.iload_n 3, 1) := by decide +kernel
theorem dX6_safest_52 : decode cX6_safest 52 = .ok (.invokevirtual 117, 3) := by decide +kernel
theorem dX6_safest_55 : decode cX6_safest 55 = .ok (.ireturn, 1) := by decide +kernel
set_option maxRecDepth 20000 in
theorem ggX6_saves_X0_isPerson : GoodIn wsX6_saves wsX0_isPerson := goodIn_r _ [7, 8, 82, 83, 84, 85, 86, 87, 88, 89, 90, 91, 92, 93, 94, 95, 96, 97] (by decide +kernel) (by decide +kernel)
set_option maxRecDepth 20000 in
theorem gX6_saves_X0_isPerson : GoodIn wsX6_saves (wsV RX6 67 RX0 yX0_isPerson wsX0_isPerson) := goodIn_app (goodIn_of _ (by decide +kernel)) ggX6_saves_X0_isPerson
set_option maxRecDepth 20000 in
theorem ggX6_saves_X6_within : GoodIn wsX6_saves wsX6_within := goodIn_r _ [12] (by decide +kernel) (by decide +kernel)
set_option maxRecDepth 20000 in
theorem gX6_saves_X6_within : GoodIn wsX6_saves (va_wsS RX6 51 yX6_within wsX6_within) := goodIn_app (goodIn_of _ (by decide +kernel)) ggX6_saves_X6_within
set_option maxRecDepth 20000 in
theorem ggX6_saves_X6_fail : GoodIn wsX6_saves wsX6_fail := goodIn_r _ [16, 17, 18, 74, 75, 76, 77, 78, 79, 80, 81] (by decide +kernel) (by decide +kernel)
set_option maxRecDepth 20000 in
theorem gX6_saves_X6_fail : GoodIn wsX6_saves (wsV RX6 55 RX6 yX6_fail wsX6_fail) := goodIn_app (goodIn_of _ (by decide +kernel)) ggX6_saves_X6_fail
set_option maxRecDepth 20000 in
theorem ggX6_saves_X0_isThrough : GoodIn wsX6_saves wsX0_isThrough := goodIn_r _ [22, 23, 24, 82, 83, 84, 85, 86, 87, 88, 89, 90, 91, 92, 93, 94, 95, 96, 97] (by decide +kernel) (by decide +kernel)
set_option maxRecDepth 20000 in
theorem gX6_saves_X0_isThrough : GoodIn wsX6_saves (wsV RX6 80 RX0 yX0_isThrough wsX0_isThrough) := goodIn_app (goodIn_of _ (by decide +kernel)) ggX6_saves_X0_isThrough
set_option maxRecDepth 20000 in
theorem ggX6_saves_X4_savesOf : GoodIn wsX6_saves wsX4_savesOf := goodIn_r _ [29, 30, 31, 32, 28, 33, 34, 35, 36, 37, 38, 39, 40, 41, 42, 43, 44, 6, 45, 46, 47, 48, 49, 50, 51, 52, 53, 54, 11, 55, 56, 57, 58, 59, 60, 61, 62, 63, 64, 65, 66, 67, 68, 24, 23, 69, 70, 71, 72, 82, 83, 84, 85, 86, 87, 88, 89, 90, 91, 92, 93, 94, 95, 96, 97] (by decide +kernel) (by decide +kernel)
set_option maxRecDepth 20000 in
theorem gX6_saves_X4_savesOf : GoodIn wsX6_saves (wsV RX6 209 RX4 yX4_savesOf wsX4_savesOf) := goodIn_app (goodIn_of _ (by decide +kernel)) ggX6_saves_X4_savesOf
set_option maxRecDepth 20000 in
theorem ggX6_saves_X6_bitsIn : GoodIn wsX6_saves wsX6_bitsIn := goodIn_r _ [57, 58, 59, 60, 61, 62, 63, 64] (by decide +kernel) (by decide +kernel)
set_option maxRecDepth 20000 in
theorem gX6_saves_X6_bitsIn : GoodIn wsX6_saves (va_wsS RX6 185 yX6_bitsIn wsX6_bitsIn) := goodIn_app (goodIn_of _ (by decide +kernel)) ggX6_saves_X6_bitsIn
theorem dX6_saves_0 : decode cX6_saves 0 = .ok (.aload_n 0, 1) := by decide +kernel
theorem dX6_saves_1 : decode cX6_saves 1 = .ok (.getfield 12, 3) := by decide +kernel
theorem dX6_saves_4 : decode cX6_saves 4 = .ok (.iload_n 1, 1) := by decide +kernel
theorem dX6_saves_5 : decode cX6_saves 5 = .ok (.invokevirtual 67, 3) := by decide +kernel
theorem dX6_saves_8 : decode cX6_saves 8 = .ok (.ifCond .eq 11, 3) := by decide +kernel
theorem dX6_saves_11 : decode cX6_saves 11 = .ok (.iload_n 2, 1) := by decide +kernel
theorem dX6_saves_12 : decode cX6_saves 12 = .ok (.iconst 1, 1) := by decide +kernel
theorem dX6_saves_13 : decode cX6_saves 13 = .ok (.invokestatic 51, 3) := by decide +kernel
theorem dX6_saves_16 : decode cX6_saves 16 = .ok (.ifCond .ne 9, 3) := by decide +kernel
theorem dX6_saves_19 : decode cX6_saves 19 = .ok (.aload_n 0, 1) := by decide +kernel
theorem dX6_saves_20 : decode cX6_saves 20 = .ok (.iconst 1, 1) := by decide +kernel
theorem dX6_saves_21 : decode cX6_saves 21 = .ok (.invokevirtual 55, 3) := by decide +kernel
theorem dX6_saves_24 : decode cX6_saves 24 = .ok (.ireturn, 1) := by decide +kernel
theorem dX6_saves_25 : decode cX6_saves 25 = .ok (.aload_n 0, 1) := by decide +kernel
theorem dX6_saves_26 : decode cX6_saves 26 = .ok (.getfield 12, 3) := by decide +kernel
theorem dX6_saves_29 : decode cX6_saves 29 = .ok (.iload_n 1, 1) := by decide +kernel
theorem dX6_saves_30 : decode cX6_saves 30 = .ok (.invokevirtual 80, 3) := by decide +kernel
theorem dX6_saves_33 : decode cX6_saves 33 = .ok (.ifCond .eq 9, 3) := by decide +kernel
theorem dX6_saves_36 : decode cX6_saves 36 = .ok (.aload_n 0, 1) := by decide +kernel
theorem dX6_saves_37 : decode cX6_saves 37 = .ok (.iconst 3, 1) := by decide +kernel
theorem dX6_saves_38 : decode cX6_saves 38 = .ok (.invokevirtual 55, 3) := by decide +kernel
theorem dX6_saves_41 : decode cX6_saves 41 = .ok (.ireturn, 1) := by decide +kernel
theorem dX6_saves_42 : decode cX6_saves 42 = .ok (.aload_n 0, 1) := by decide +kernel
theorem dX6_saves_43 : decode cX6_saves 43 = .ok (.getfield 29, 3) := by decide +kernel
theorem dX6_saves_46 : decode cX6_saves 46 = .ok (.aload_n 0, 1) := by decide +kernel
theorem dX6_saves_47 : decode cX6_saves 47 = .ok (.getfield 12, 3) := by decide +kernel
theorem dX6_saves_50 : decode cX6_saves 50 = .ok (.iload_n 1, 1) := by decide +kernel
theorem dX6_saves_51 : decode cX6_saves 51 = .ok (.invokevirtual 209, 3) := by decide +kernel
theorem dX6_saves_54 : decode cX6_saves 54 = .ok (.istore_n 3, 1) := by decide +kernel
theorem dX6_saves_55 : decode cX6_saves 55 = .ok (.iload_n 2, 1) := by decide +kernel
theorem dX6_saves_56 : decode cX6_saves 56 = .ok (.ifCond .ne 10, 3) := by decide +kernel
theorem dX6_saves_59 : decode cX6_saves 59 = .ok (.iload_n 3, 1) := by decide +kernel
theorem dX6_saves_60 : decode cX6_saves 60 = .ok (.invokestatic 185, 3) := by decide +kernel
theorem dX6_saves_63 : decode cX6_saves 63 = .ok (.goto 4, 3) := by decide +kernel
theorem dX6_saves_66 : decode cX6_saves 66 = .ok (.iload_n 3, 1) := by decide +kernel
theorem dX6_saves_67 : decode cX6_saves 67 = .ok (.ireturn, 1) := by decide +kernel
set_option maxRecDepth 20000 in
theorem ggX6_counts_X0_isPiece : GoodIn wsX6_counts wsX0_isPiece := goodIn_r _ [7, 8, 43, 44, 45, 46, 47, 48, 49, 50, 51, 52, 53, 54, 55, 56, 57, 58] (by decide +kernel) (by decide +kernel)
set_option maxRecDepth 20000 in
theorem gX6_counts_X0_isPiece : GoodIn wsX6_counts (wsV RX6 96 RX0 yX0_isPiece wsX0_isPiece) := goodIn_app (goodIn_of _ (by decide +kernel)) ggX6_counts_X0_isPiece
set_option maxRecDepth 20000 in
theorem ggX6_counts_X6_fail : GoodIn wsX6_counts wsX6_fail := goodIn_r _ [13, 14, 15, 35, 36, 37, 38, 39, 40, 41, 42] (by decide +kernel) (by decide +kernel)
set_option maxRecDepth 20000 in
theorem gX6_counts_X6_fail : GoodIn wsX6_counts (wsV RX6 55 RX6 yX6_fail wsX6_fail) := goodIn_app (goodIn_of _ (by decide +kernel)) ggX6_counts_X6_fail
set_option maxRecDepth 20000 in
theorem ggX6_counts_X4_firstOf : GoodIn wsX6_counts wsX4_firstOf := goodIn_r _ [20, 21, 22, 23, 24, 6, 25, 26, 27, 28, 29, 30, 31, 8, 32, 33, 12, 34, 43, 44, 45, 46, 47, 48, 49, 50, 51, 52, 53, 54, 55, 56, 57, 58] (by decide +kernel) (by decide +kernel)
set_option maxRecDepth 20000 in
theorem gX6_counts_X4_firstOf : GoodIn wsX6_counts (wsV RX6 212 RX4 yX4_firstOf wsX4_firstOf) := goodIn_app (goodIn_of _ (by decide +kernel)) ggX6_counts_X4_firstOf
theorem dX6_counts_0 : decode cX6_counts 0 = .ok (.aload_n 0, 1) := by decide +kernel
theorem dX6_counts_1 : decode cX6_counts 1 = .ok (.getfield 12, 3) := by decide +kernel
theorem dX6_counts_4 : decode cX6_counts 4 = .ok (.iload_n 1, 1) := by decide +kernel
theorem dX6_counts_5 : decode cX6_counts 5 = .ok (.invokevirtual 96, 3) := by decide +kernel
theorem dX6_counts_8 : decode cX6_counts 8 = .ok (.ifCond .ne 9, 3) := by decide +kernel
theorem dX6_counts_11 : decode cX6_counts 11 = .ok (.aload_n 0, 1) := by decide +kernel
theorem dX6_counts_12 : decode cX6_counts 12 = .ok (.iconst 1, 1) := by decide +kernel
theorem dX6_counts_13 : decode cX6_counts 13 = .ok (.invokevirtual 55, 3) := by decide +kernel
theorem dX6_counts_16 : decode cX6_counts 16 = .ok (.ireturn, 1) := by decide +kernel
theorem dX6_counts_17 : decode cX6_counts 17 = .ok (.aload_n 0, 1) := by decide +kernel
theorem dX6_counts_18 : decode cX6_counts 18 = .ok (.getfield 29, 3) := by decide +kernel
theorem dX6_counts_21 : decode cX6_counts 21 = .ok (.aload_n 0, 1) := by decide +kernel
theorem dX6_counts_22 : decode cX6_counts 22 = .ok (.getfield 12, 3) := by decide +kernel
theorem dX6_counts_25 : decode cX6_counts 25 = .ok (.iload_n 1, 1) := by decide +kernel
theorem dX6_counts_26 : decode cX6_counts 26 = .ok (.invokevirtual 212, 3) := by decide +kernel
theorem dX6_counts_29 : decode cX6_counts 29 = .ok (.istore_n 2, 1) := by decide +kernel
theorem dX6_counts_30 : decode cX6_counts 30 = .ok (.iload_n 2, 1) := by decide +kernel
theorem dX6_counts_31 : decode cX6_counts 31 = .ok (.ifCond .ge 11, 3) := by decide +kernel
theorem dX6_counts_34 : decode cX6_counts 34 = .ok (.aload_n 0, 1) := by decide +kernel
theorem dX6_counts_35 : decode cX6_counts 35 = .ok (.iconst 2, 1) := by decide +kernel
theorem dX6_counts_36 : decode cX6_counts 36 = .ok (.invokevirtual 55, 3) := by decide +kernel
theorem dX6_counts_39 : decode cX6_counts 39 = .ok (.goto 4, 3) := by decide +kernel
theorem dX6_counts_42 : decode cX6_counts 42 = .ok (.iload_n 2, 1) := by decide +kernel
theorem dX6_counts_43 : decode cX6_counts 43 = .ok (.ireturn, 1) := by decide +kernel
set_option maxRecDepth 20000 in
theorem ggX6_fits_X6_isSheet : GoodIn wsX6_fits wsX6_isSheet := goodIn_r _ [7, 8, 9, 6, 10] (by decide +kernel) (by decide +kernel)
set_option maxRecDepth 20000 in
theorem gX6_fits_X6_isSheet : GoodIn wsX6_fits (va_wsS RX6 215 yX6_isSheet wsX6_isSheet) := goodIn_app (goodIn_of _ (by decide +kernel)) ggX6_fits_X6_isSheet
set_option maxRecDepth 20000 in
theorem ggX6_fits_X0_isPerson : GoodIn wsX6_fits wsX0_isPerson := goodIn_r _ [15, 16, 103, 104, 105, 106, 107, 108, 109, 110, 111, 112, 113, 114, 115, 116, 117, 118] (by decide +kernel) (by decide +kernel)
set_option maxRecDepth 20000 in
theorem gX6_fits_X0_isPerson : GoodIn wsX6_fits (wsV RX6 67 RX0 yX0_isPerson wsX0_isPerson) := goodIn_app (goodIn_of _ (by decide +kernel)) ggX6_fits_X0_isPerson
set_option maxRecDepth 20000 in
theorem ggX6_fits_X6_within : GoodIn wsX6_fits wsX6_within := goodIn_r _ [10] (by decide +kernel) (by decide +kernel)
set_option maxRecDepth 20000 in
theorem gX6_fits_X6_within : GoodIn wsX6_fits (va_wsS RX6 51 yX6_within wsX6_within) := goodIn_app (goodIn_of _ (by decide +kernel)) ggX6_fits_X6_within
set_option maxRecDepth 20000 in
theorem ggX6_fits_X6_fail : GoodIn wsX6_fits wsX6_fail := goodIn_r _ [20, 21, 22, 95, 96, 97, 98, 99, 100, 101, 102] (by decide +kernel) (by decide +kernel)
set_option maxRecDepth 20000 in
theorem gX6_fits_X6_fail : GoodIn wsX6_fits (wsV RX6 55 RX6 yX6_fail wsX6_fail) := goodIn_app (goodIn_of _ (by decide +kernel)) ggX6_fits_X6_fail
set_option maxRecDepth 20000 in
theorem ggX6_fits_X2_isMissing : GoodIn wsX6_fits wsX2_isMissing := goodIn_r _ [27, 28, 119, 120, 121] (by decide +kernel) (by decide +kernel)
set_option maxRecDepth 20000 in
theorem gX6_fits_X2_isMissing : GoodIn wsX6_fits (wsV RX6 218 RX2 yX2_isMissing wsX2_isMissing) := goodIn_app (goodIn_of _ (by decide +kernel)) ggX6_fits_X2_isMissing
set_option maxRecDepth 20000 in
theorem ggX6_fits_X4_fitsBy : GoodIn wsX6_fits wsX4_fitsBy := goodIn_r _ [33, 34, 35, 36, 32, 37, 38, 39, 40, 41, 42, 43, 14, 44, 45, 46, 47, 48, 49, 50, 51, 52, 53, 54, 55, 56, 57, 58, 6, 59, 60, 61, 62, 63, 64, 65, 66, 67, 68, 69, 70, 71, 72, 73, 74, 75, 76, 77, 78, 79, 80, 81, 82, 83, 84, 85, 86, 87, 88, 89, 90, 91, 119, 120, 121, 103, 104, 105, 106, 107, 108, 109, 110, 111, 112, 113, 114, 115, 116, 117, 118, 122, 123, 124] (by decide +kernel) (by decide +kernel)
set_option maxRecDepth 20000 in
theorem gX6_fits_X4_fitsBy : GoodIn wsX6_fits (wsV RX6 221 RX4 yX4_fitsBy wsX4_fitsBy) := goodIn_app (goodIn_of _ (by decide +kernel)) ggX6_fits_X4_fitsBy
set_option maxRecDepth 20000 in
theorem ggX6_fits_X6_lowestIn : GoodIn wsX6_fits wsX6_lowestIn := goodIn_r _ [94] (by decide +kernel) (by decide +kernel)
set_option maxRecDepth 20000 in
theorem gX6_fits_X6_lowestIn : GoodIn wsX6_fits (va_wsS RX6 225 yX6_lowestIn wsX6_lowestIn) := goodIn_app (goodIn_of _ (by decide +kernel)) ggX6_fits_X6_lowestIn
theorem dX6_fits_0 : decode cX6_fits 0 = .ok (.iload_n 1, 1) := by decide +kernel
theorem dX6_fits_1 : decode cX6_fits 1 = .ok (.invokestatic 215, 3) := by decide +kernel
theorem dX6_fits_4 : decode cX6_fits 4 = .ok (.ifCond .eq 22, 3) := by decide +kernel
theorem dX6_fits_7 : decode cX6_fits 7 = .ok (.aload_n 0, 1) := by decide +kernel
theorem dX6_fits_8 : decode cX6_fits 8 = .ok (.getfield 12, 3) := by decide +kernel
theorem dX6_fits_11 : decode cX6_fits 11 = .ok (.iload_n 2, 1) := by decide +kernel
theorem dX6_fits_12 : decode cX6_fits 12 = .ok (.invokevirtual 67, 3) := by decide +kernel
theorem dX6_fits_15 : decode cX6_fits 15 = .ok (.ifCond .eq 11, 3) := by decide +kernel
theorem dX6_fits_18 : decode cX6_fits 18 = .ok (.iload_n 3, 1) := by decide +kernel
theorem dX6_fits_19 : decode cX6_fits 19 = .ok (.iconst 1, 1) := by decide +kernel
theorem dX6_fits_20 : decode cX6_fits 20 = .ok (.invokestatic 51, 3) := by decide +kernel
theorem dX6_fits_23 : decode cX6_fits 23 = .ok (.ifCond .ne 9, 3) := by decide +kernel
theorem dX6_fits_26 : decode cX6_fits 26 = .ok (.aload_n 0, 1) := by decide +kernel
theorem dX6_fits_27 : decode cX6_fits 27 = .ok (.iconst 1, 1) := by decide +kernel
theorem dX6_fits_28 : decode cX6_fits 28 = .ok (.invokevirtual 55, 3) := by decide +kernel
theorem dX6_fits_31 : decode cX6_fits 31 = .ok (.ireturn, 1) := by decide +kernel
theorem dX6_fits_32 : decode cX6_fits 32 = .ok (.aload_n 0, 1) := by decide +kernel
theorem dX6_fits_33 : decode cX6_fits 33 = .ok (.getfield 46, 3) := by decide +kernel
theorem dX6_fits_36 : decode cX6_fits 36 = .ok (.iload_n 1, 1) := by decide +kernel
theorem dX6_fits_37 : decode cX6_fits 37 = .ok (.aaload, 1) := by decide +kernel
theorem dX6_fits_38 : decode cX6_fits 38 = .ok (.invokevirtual 218, 3) := by decide +kernel
theorem dX6_fits_41 : decode cX6_fits 41 = .ok (.ifCond .eq 9, 3) := by decide +kernel
theorem dX6_fits_44 : decode cX6_fits 44 = .ok (.aload_n 0, 1) := by decide +kernel
theorem dX6_fits_45 : decode cX6_fits 45 = .ok (.iconst 2, 1) := by decide +kernel
theorem dX6_fits_46 : decode cX6_fits 46 = .ok (.invokevirtual 55, 3) := by decide +kernel
theorem dX6_fits_49 : decode cX6_fits 49 = .ok (.ireturn, 1) := by decide +kernel
theorem dX6_fits_50 : decode cX6_fits 50 = .ok (.aload_n 0, 1) := by decide +kernel
theorem dX6_fits_51 : decode cX6_fits 51 = .ok (.getfield 29, 3) := by decide +kernel
theorem dX6_fits_54 : decode cX6_fits 54 = .ok (.aload_n 0, 1) := by decide +kernel
theorem dX6_fits_55 : decode cX6_fits 55 = .ok (.getfield 12, 3) := by decide +kernel
theorem dX6_fits_58 : decode cX6_fits 58 = .ok (.aload_n 0, 1) := by decide +kernel
theorem dX6_fits_59 : decode cX6_fits 59 = .ok (.getfield 46, 3) := by decide +kernel
theorem dX6_fits_62 : decode cX6_fits 62 = .ok (.iload_n 1, 1) := by decide +kernel
theorem dX6_fits_63 : decode cX6_fits 63 = .ok (.aaload, 1) := by decide +kernel
theorem dX6_fits_64 : decode cX6_fits 64 = .ok (.invokevirtual 221, 3) := by decide +kernel
theorem dX6_fits_67 : decode cX6_fits 67 = .ok (.istore 4, 2) := by decide +kernel
theorem dX6_fits_69 : decode cX6_fits 69 = .ok (.iload_n 3, 1) := by decide +kernel
theorem dX6_fits_70 : decode cX6_fits 70 = .ok (.ifCond .ne 6, 3) := by decide +kernel
theorem dX6_fits_73 : decode cX6_fits 73 = .ok (.iload 4, 2) := by decide +kernel
theorem dX6_fits_75 : decode cX6_fits 75 = .ok (.ireturn, 1) := by decide +kernel
theorem dX6_fits_76 : decode cX6_fits 76 = .ok (.iload 4, 2) := by decide +kernel
theorem dX6_fits_78 : decode cX6_fits 78 = .ok (.ifCond .ne 11, 3) := by decide +kernel
theorem dX6_fits_81 : decode cX6_fits 81 = .ok (.aload_n 0, 1) := by decide +kernel
theorem dX6_fits_82 : decode cX6_fits 82 = .ok (.iconst 2, 1) := by decide +kernel
theorem dX6_fits_83 : decode cX6_fits 83 = .ok (.invokevirtual 55, 3) := by decide +kernel
theorem dX6_fits_86 : decode cX6_fits 86 = .ok (.goto 8, 3) := by decide +kernel
theorem dX6_fits_89 : decode cX6_fits 89 = .ok (.iload 4, 2) := by decide +kernel
theorem dX6_fits_91 : decode cX6_fits 91 = .ok (.invokestatic 225, 3) := by decide +kernel
theorem dX6_fits_94 : decode cX6_fits 94 = .ok (.ireturn, 1) := by decide +kernel
set_option maxRecDepth 20000 in
theorem ggX6_voice_X0_isPiece : GoodIn wsX6_voice wsX0_isPiece := goodIn_r _ [10, 11, 65, 66, 67, 68, 69, 70, 71, 72, 73, 74, 75, 76, 77, 78, 79, 80] (by decide +kernel) (by decide +kernel)
set_option maxRecDepth 20000 in
theorem gX6_voice_X0_isPiece : GoodIn wsX6_voice (wsV RX6 96 RX0 yX0_isPiece wsX0_isPiece) := goodIn_app (goodIn_of _ (by decide +kernel)) ggX6_voice_X0_isPiece
set_option maxRecDepth 20000 in
theorem ggX6_voice_X6_within : GoodIn wsX6_voice wsX6_within := goodIn_r _ [15] (by decide +kernel) (by decide +kernel)
set_option maxRecDepth 20000 in
theorem gX6_voice_X6_within : GoodIn wsX6_voice (va_wsS RX6 51 yX6_within wsX6_within) := goodIn_app (goodIn_of _ (by decide +kernel)) ggX6_voice_X6_within
set_option maxRecDepth 20000 in
theorem ggX6_voice_X6_fail : GoodIn wsX6_voice wsX6_fail := goodIn_r _ [19, 20, 21, 57, 58, 59, 60, 61, 62, 63, 64] (by decide +kernel) (by decide +kernel)
set_option maxRecDepth 20000 in
theorem gX6_voice_X6_fail : GoodIn wsX6_voice (wsV RX6 55 RX6 yX6_fail wsX6_fail) := goodIn_app (goodIn_of _ (by decide +kernel)) ggX6_voice_X6_fail
set_option maxRecDepth 20000 in
theorem ggX6_voice_X5_turnTo : GoodIn wsX6_voice wsX5_turnTo := goodIn_r _ [26, 27, 28, 29, 30, 31, 81, 82, 83, 84, 85, 86] (by decide +kernel) (by decide +kernel)
set_option maxRecDepth 20000 in
theorem gX6_voice_X5_turnTo : GoodIn wsX6_voice (wsV RX6 228 RX5 yX5_turnTo wsX5_turnTo) := goodIn_app (goodIn_of _ (by decide +kernel)) ggX6_voice_X5_turnTo
set_option maxRecDepth 20000 in
theorem ggX6_voice_X5_say : GoodIn wsX6_voice wsX5_say := goodIn_r _ [35, 27, 36, 37, 38, 25, 39, 28, 40, 41, 42, 43, 30, 44, 45, 46, 47, 48, 29, 49, 50, 51, 52, 53, 54, 55, 56, 31, 81, 82, 83, 84, 85, 86] (by decide +kernel) (by decide +kernel)
set_option maxRecDepth 20000 in
theorem gX6_voice_X5_say : GoodIn wsX6_voice (wsV RX6 232 RX5 yX5_say wsX5_say) := goodIn_app (goodIn_of _ (by decide +kernel)) ggX6_voice_X5_say
theorem dX6_voice_0 : decode cX6_voice 0 = .ok (.aload_n 0, 1) := by decide +kernel
theorem dX6_voice_1 : decode cX6_voice 1 = .ok (.getfield 12, 3) := by decide +kernel
theorem dX6_voice_4 : decode cX6_voice 4 = .ok (.iload_n 1, 1) := by decide +kernel
theorem dX6_voice_5 : decode cX6_voice 5 = .ok (.invokevirtual 96, 3) := by decide +kernel
theorem dX6_voice_8 : decode cX6_voice 8 = .ok (.ifCond .eq 11, 3) := by decide +kernel
theorem dX6_voice_11 : decode cX6_voice 11 = .ok (.iload_n 2, 1) := by decide +kernel
theorem dX6_voice_12 : decode cX6_voice 12 = .ok (.iconst 3, 1) := by decide +kernel
theorem dX6_voice_13 : decode cX6_voice 13 = .ok (.invokestatic 51, 3) := by decide +kernel
theorem dX6_voice_16 : decode cX6_voice 16 = .ok (.ifCond .ne 9, 3) := by decide +kernel
theorem dX6_voice_19 : decode cX6_voice 19 = .ok (.aload_n 0, 1) := by decide +kernel
theorem dX6_voice_20 : decode cX6_voice 20 = .ok (.iconst 1, 1) := by decide +kernel
theorem dX6_voice_21 : decode cX6_voice 21 = .ok (.invokevirtual 55, 3) := by decide +kernel
theorem dX6_voice_24 : decode cX6_voice 24 = .ok (.ireturn, 1) := by decide +kernel
theorem dX6_voice_25 : decode cX6_voice 25 = .ok (.aload_n 0, 1) := by decide +kernel
theorem dX6_voice_26 : decode cX6_voice 26 = .ok (.getfield 36, 3) := by decide +kernel
theorem dX6_voice_29 : decode cX6_voice 29 = .ok (.aload_n 0, 1) := by decide +kernel
theorem dX6_voice_30 : decode cX6_voice 30 = .ok (.getfield 12, 3) := by decide +kernel
theorem dX6_voice_33 : decode cX6_voice 33 = .ok (.getfield 99, 3) := by decide +kernel
theorem dX6_voice_36 : decode cX6_voice 36 = .ok (.iload_n 1, 1) := by decide +kernel
theorem dX6_voice_37 : decode cX6_voice 37 = .ok (.iaload, 1) := by decide +kernel
theorem dX6_voice_38 : decode cX6_voice 38 = .ok (.iload_n 1, 1) := by decide +kernel
theorem dX6_voice_39 : decode cX6_voice 39 = .ok (.aload_n 0, 1) := by decide +kernel
theorem dX6_voice_40 : decode cX6_voice 40 = .ok (.getfield 12, 3) := by decide +kernel
theorem dX6_voice_43 : decode cX6_voice 43 = .ok (.getfield 102, 3) := by decide +kernel
theorem dX6_voice_46 : decode cX6_voice 46 = .ok (.iload_n 1, 1) := by decide +kernel
theorem dX6_voice_47 : decode cX6_voice 47 = .ok (.iaload, 1) := by decide +kernel
theorem dX6_voice_48 : decode cX6_voice 48 = .ok (.invokevirtual 228, 3) := by decide +kernel
theorem dX6_voice_51 : decode cX6_voice 51 = .ok (.aload_n 0, 1) := by decide +kernel
theorem dX6_voice_52 : decode cX6_voice 52 = .ok (.getfield 36, 3) := by decide +kernel
theorem dX6_voice_55 : decode cX6_voice 55 = .ok (.iload_n 2, 1) := by decide +kernel
theorem dX6_voice_56 : decode cX6_voice 56 = .ok (.iload_n 3, 1) := by decide +kernel
theorem dX6_voice_57 : decode cX6_voice 57 = .ok (.invokevirtual 232, 3) := by decide +kernel
theorem dX6_voice_60 : decode cX6_voice 60 = .ok (.istore 4, 2) := by decide +kernel
theorem dX6_voice_62 : decode cX6_voice 62 = .ok (.aload_n 0, 1) := by decide +kernel
theorem dX6_voice_63 : decode cX6_voice 63 = .ok (.getfield 36, 3) := by decide +kernel
theorem dX6_voice_66 : decode cX6_voice 66 = .ok (.getfield 235, 3) := by decide +kernel
theorem dX6_voice_69 : decode cX6_voice 69 = .ok (.ifCond .eq 12, 3) := by decide +kernel
theorem dX6_voice_72 : decode cX6_voice 72 = .ok (.aload_n 0, 1) := by decide +kernel
theorem dX6_voice_73 : decode cX6_voice 73 = .ok (.bipush 6, 2) := by decide +kernel
theorem dX6_voice_75 : decode cX6_voice 75 = .ok (.invokevirtual 55, 3) := by decide +kernel
theorem dX6_voice_78 : decode cX6_voice 78 = .ok (.goto 5, 3) := by decide +kernel
theorem dX6_voice_81 : decode cX6_voice 81 = .ok (.iload 4, 2) := by decide +kernel
theorem dX6_voice_83 : decode cX6_voice 83 = .ok (.ireturn, 1) := by decide +kernel
set_option maxRecDepth 20000 in
theorem ggX6_body_X6_fail : GoodIn wsX6_body wsX6_fail := goodIn_r _ [8, 9, 10, 11, 12, 13, 14, 15, 16, 17, 18] (by decide +kernel) (by decide +kernel)
set_option maxRecDepth 20000 in
theorem gX6_body_X6_fail : GoodIn wsX6_body (wsV RX6 55 RX6 yX6_fail wsX6_fail) := goodIn_app (goodIn_of _ (by decide +kernel)) ggX6_body_X6_fail
theorem dX6_body_0 : decode cX6_body 0 = .ok (.iload_n 1, 1) := by decide +kernel
theorem dX6_body_1 : decode cX6_body 1 = .ok (.ifCond .lt 14, 3) := by decide +kernel
theorem dX6_body_4 : decode cX6_body 4 = .ok (.iload_n 1, 1) := by decide +kernel
theorem dX6_body_5 : decode cX6_body 5 = .ok (.aload_n 0, 1) := by decide +kernel
theorem dX6_body_6 : decode cX6_body 6 = .ok (.getfield 36, 3) := by decide +kernel
theorem dX6_body_9 : decode cX6_body 9 = .ok (.getfield 239, 3) := by decide +kernel
theorem dX6_body_12 : decode cX6_body 12 = .ok (.if_icmp .lt 9, 3) := by decide +kernel
theorem dX6_body_15 : decode cX6_body 15 = .ok (.aload_n 0, 1) := by decide +kernel
theorem dX6_body_16 : decode cX6_body 16 = .ok (.iconst 2, 1) := by decide +kernel
theorem dX6_body_17 : decode cX6_body 17 = .ok (.invokevirtual 55, 3) := by decide +kernel
theorem dX6_body_20 : decode cX6_body 20 = .ok (.ireturn, 1) := by decide +kernel
theorem dX6_body_21 : decode cX6_body 21 = .ok (.aload_n 0, 1) := by decide +kernel
theorem dX6_body_22 : decode cX6_body 22 = .ok (.getfield 36, 3) := by decide +kernel
theorem dX6_body_25 : decode cX6_body 25 = .ok (.getfield 242, 3) := by decide +kernel
theorem dX6_body_28 : decode cX6_body 28 = .ok (.iload_n 1, 1) := by decide +kernel
theorem dX6_body_29 : decode cX6_body 29 = .ok (.iaload, 1) := by decide +kernel
theorem dX6_body_30 : decode cX6_body 30 = .ok (.ireturn, 1) := by decide +kernel
set_option maxRecDepth 20000 in
theorem ggX6_sheet_X6_isSheet : GoodIn wsX6_sheet wsX6_isSheet := goodIn_r _ [5, 6, 7, 4, 8] (by decide +kernel) (by decide +kernel)
set_option maxRecDepth 20000 in
theorem gX6_sheet_X6_isSheet : GoodIn wsX6_sheet (va_wsS RX6 215 yX6_isSheet wsX6_isSheet) := goodIn_app (goodIn_of _ (by decide +kernel)) ggX6_sheet_X6_isSheet
set_option maxRecDepth 20000 in
theorem ggX6_sheet_X6_isWidth : GoodIn wsX6_sheet wsX6_isWidth := goodIn_r _ [11] (by decide +kernel) (by decide +kernel)
set_option maxRecDepth 20000 in
theorem gX6_sheet_X6_isWidth : GoodIn wsX6_sheet (va_wsS RX6 245 yX6_isWidth wsX6_isWidth) := goodIn_app (goodIn_of _ (by decide +kernel)) ggX6_sheet_X6_isWidth
set_option maxRecDepth 20000 in
theorem ggX6_sheet_X6_fail : GoodIn wsX6_sheet wsX6_fail := goodIn_r _ [15, 16, 17, 26, 27, 28, 29, 30, 31, 32, 33] (by decide +kernel) (by decide +kernel)
set_option maxRecDepth 20000 in
theorem gX6_sheet_X6_fail : GoodIn wsX6_sheet (wsV RX6 55 RX6 yX6_fail wsX6_fail) := goodIn_app (goodIn_of _ (by decide +kernel)) ggX6_sheet_X6_fail
set_option maxRecDepth 20000 in
theorem ggX6_sheet_X2_begin : GoodIn wsX6_sheet wsX2_begin := goodIn_r _ [22, 23, 24, 25, 34, 35, 36] (by decide +kernel) (by decide +kernel)
set_option maxRecDepth 20000 in
theorem gX6_sheet_X2_begin : GoodIn wsX6_sheet (wsV RX6 248 RX2 yX2_begin wsX2_begin) := goodIn_app (goodIn_of _ (by decide +kernel)) ggX6_sheet_X2_begin
theorem dX6_sheet_0 : decode cX6_sheet 0 = .ok (.iload_n 1, 1) := by decide +kernel
theorem dX6_sheet_1 : decode cX6_sheet 1 = .ok (.invokestatic 215, 3) := by decide +kernel
theorem dX6_sheet_4 : decode cX6_sheet 4 = .ok (.ifCond .eq 10, 3) := by decide +kernel
theorem dX6_sheet_7 : decode cX6_sheet 7 = .ok (.iload_n 2, 1) := by decide +kernel
theorem dX6_sheet_8 : decode cX6_sheet 8 = .ok (.invokestatic 245, 3) := by decide +kernel
theorem dX6_sheet_11 : decode cX6_sheet 11 = .ok (.ifCond .ne 9, 3) := by decide +kernel
theorem dX6_sheet_14 : decode cX6_sheet 14 = .ok (.aload_n 0, 1) := by decide +kernel
theorem dX6_sheet_15 : decode cX6_sheet 15 = .ok (.iconst 1, 1) := by decide +kernel
theorem dX6_sheet_16 : decode cX6_sheet 16 = .ok (.invokevirtual 55, 3) := by decide +kernel
theorem dX6_sheet_19 : decode cX6_sheet 19 = .ok (.ireturn, 1) := by decide +kernel
theorem dX6_sheet_20 : decode cX6_sheet 20 = .ok (.iload_n 2, 1) := by decide +kernel
theorem dX6_sheet_21 : decode cX6_sheet 21 = .ok (.ifCond .ne 16, 3) := by decide +kernel
theorem dX6_sheet_24 : decode cX6_sheet 24 = .ok (.aload_n 0, 1) := by decide +kernel
theorem dX6_sheet_25 : decode cX6_sheet 25 = .ok (.getfield 46, 3) := by decide +kernel
theorem dX6_sheet_28 : decode cX6_sheet 28 = .ok (.iload_n 1, 1) := by decide +kernel
theorem dX6_sheet_29 : decode cX6_sheet 29 = .ok (.aaload, 1) := by decide +kernel
theorem dX6_sheet_30 : decode cX6_sheet 30 = .ok (.iconst 0, 1) := by decide +kernel
theorem dX6_sheet_31 : decode cX6_sheet 31 = .ok (.iconst 0, 1) := by decide +kernel
theorem dX6_sheet_32 : decode cX6_sheet 32 = .ok (.invokevirtual 248, 3) := by decide +kernel
theorem dX6_sheet_35 : decode cX6_sheet 35 = .ok (.iconst 1, 1) := by decide +kernel
theorem dX6_sheet_36 : decode cX6_sheet 36 = .ok (.ireturn, 1) := by decide +kernel
theorem dX6_sheet_37 : decode cX6_sheet 37 = .ok (.iload_n 3, 1) := by decide +kernel
theorem dX6_sheet_38 : decode cX6_sheet 38 = .ok (.ifCond .ge 9, 3) := by decide +kernel
theorem dX6_sheet_41 : decode cX6_sheet 41 = .ok (.aload_n 0, 1) := by decide +kernel
theorem dX6_sheet_42 : decode cX6_sheet 42 = .ok (.iconst 3, 1) := by decide +kernel
theorem dX6_sheet_43 : decode cX6_sheet 43 = .ok (.invokevirtual 55, 3) := by decide +kernel
theorem dX6_sheet_46 : decode cX6_sheet 46 = .ok (.ireturn, 1) := by decide +kernel
theorem dX6_sheet_47 : decode cX6_sheet 47 = .ok (.iload_n 3, 1) := by decide +kernel
theorem dX6_sheet_48 : decode cX6_sheet 48 = .ok (.bipush 24, 2) := by decide +kernel
theorem dX6_sheet_50 : decode cX6_sheet 50 = .ok (.if_icmp .le 9, 3) := by decide +kernel
theorem dX6_sheet_53 : decode cX6_sheet 53 = .ok (.aload_n 0, 1) := by decide +kernel
theorem dX6_sheet_54 : decode cX6_sheet 54 = .ok (.iconst 1, 1) := by decide +kernel
theorem dX6_sheet_55 : decode cX6_sheet 55 = .ok (.invokevirtual 55, 3) := by decide +kernel
theorem dX6_sheet_58 : decode cX6_sheet 58 = .ok (.ireturn, 1) := by decide +kernel
theorem dX6_sheet_59 : decode cX6_sheet 59 = .ok (.aload_n 0, 1) := by decide +kernel
theorem dX6_sheet_60 : decode cX6_sheet 60 = .ok (.getfield 46, 3) := by decide +kernel
theorem dX6_sheet_63 : decode cX6_sheet 63 = .ok (.iload_n 1, 1) := by decide +kernel
theorem dX6_sheet_64 : decode cX6_sheet 64 = .ok (.aaload, 1) := by decide +kernel
theorem dX6_sheet_65 : decode cX6_sheet 65 = .ok (.iload_n 2, 1) := by decide +kernel
theorem dX6_sheet_66 : decode cX6_sheet 66 = .ok (.iload_n 3, 1) := by decide +kernel
theorem dX6_sheet_67 : decode cX6_sheet 67 = .ok (.invokevirtual 248, 3) := by decide +kernel
theorem dX6_sheet_70 : decode cX6_sheet 70 = .ok (.iconst 1, 1) := by decide +kernel
theorem dX6_sheet_71 : decode cX6_sheet 71 = .ok (.ireturn, 1) := by decide +kernel
set_option maxRecDepth 20000 in
theorem ggX6_put_X6_isSheet : GoodIn wsX6_put wsX6_isSheet := goodIn_r _ [7, 8, 9, 6, 10] (by decide +kernel) (by decide +kernel)
set_option maxRecDepth 20000 in
theorem gX6_put_X6_isSheet : GoodIn wsX6_put (va_wsS RX6 215 yX6_isSheet wsX6_isSheet) := goodIn_app (goodIn_of _ (by decide +kernel)) ggX6_put_X6_isSheet
set_option maxRecDepth 20000 in
theorem ggX6_put_X6_fail : GoodIn wsX6_put wsX6_fail := goodIn_r _ [14, 15, 16, 27, 28, 29, 30, 31, 32, 33, 34] (by decide +kernel) (by decide +kernel)
set_option maxRecDepth 20000 in
theorem gX6_put_X6_fail : GoodIn wsX6_put (wsV RX6 55 RX6 yX6_fail wsX6_fail) := goodIn_app (goodIn_of _ (by decide +kernel)) ggX6_put_X6_fail
set_option maxRecDepth 20000 in
theorem ggX6_put_X2_isMissing : GoodIn wsX6_put wsX2_isMissing := goodIn_r _ [21, 22, 35, 36, 37] (by decide +kernel) (by decide +kernel)
set_option maxRecDepth 20000 in
theorem gX6_put_X2_isMissing : GoodIn wsX6_put (wsV RX6 218 RX2 yX2_isMissing wsX2_isMissing) := goodIn_app (goodIn_of _ (by decide +kernel)) ggX6_put_X2_isMissing
set_option maxRecDepth 20000 in
theorem ggX6_put_X2_lowestBits : GoodIn wsX6_put wsX2_lowestBits := goodIn_r _ [26, 22, 35, 36, 37] (by decide +kernel) (by decide +kernel)
set_option maxRecDepth 20000 in
theorem gX6_put_X2_lowestBits : GoodIn wsX6_put (wsV RX6 257 RX2 yX2_lowestBits wsX2_lowestBits) := goodIn_app (goodIn_of _ (by decide +kernel)) ggX6_put_X2_lowestBits
theorem dX6_put_0 : decode cX6_put 0 = .ok (.iload_n 1, 1) := by decide +kernel
theorem dX6_put_1 : decode cX6_put 1 = .ok (.invokestatic 215, 3) := by decide +kernel
theorem dX6_put_4 : decode cX6_put 4 = .ok (.ifCond .ne 9, 3) := by decide +kernel
theorem dX6_put_7 : decode cX6_put 7 = .ok (.aload_n 0, 1) := by decide +kernel
theorem dX6_put_8 : decode cX6_put 8 = .ok (.iconst 1, 1) := by decide +kernel
theorem dX6_put_9 : decode cX6_put 9 = .ok (.invokevirtual 55, 3) := by decide +kernel
theorem dX6_put_12 : decode cX6_put 12 = .ok (.ireturn, 1) := by decide +kernel
theorem dX6_put_13 : decode cX6_put 13 = .ok (.aload_n 0, 1) := by decide +kernel
theorem dX6_put_14 : decode cX6_put 14 = .ok (.getfield 46, 3) := by decide +kernel
theorem dX6_put_17 : decode cX6_put 17 = .ok (.iload_n 1, 1) := by decide +kernel
theorem dX6_put_18 : decode cX6_put 18 = .ok (.aaload, 1) := by decide +kernel
theorem dX6_put_19 : decode cX6_put 19 = .ok (.astore 4, 2) := by decide +kernel
theorem dX6_put_21 : decode cX6_put 21 = .ok (.aload 4, 2) := by decide +kernel
theorem dX6_put_23 : decode cX6_put 23 = .ok (.invokevirtual 218, 3) := by decide +kernel
theorem dX6_put_26 : decode cX6_put 26 = .ok (.ifCond .eq 9, 3) := by decide +kernel
theorem dX6_put_29 : decode cX6_put 29 = .ok (.aload_n 0, 1) := by decide +kernel
theorem dX6_put_30 : decode cX6_put 30 = .ok (.iconst 2, 1) := by decide +kernel
theorem dX6_put_31 : decode cX6_put 31 = .ok (.invokevirtual 55, 3) := by decide +kernel
theorem dX6_put_34 : decode cX6_put 34 = .ok (.ireturn, 1) := by decide +kernel
theorem dX6_put_35 : decode cX6_put 35 = .ok (.iload_n 2, 1) := by decide +kernel
theorem dX6_put_36 : decode cX6_put 36 = .ok (.ifCond .lt 12, 3) := by decide +kernel
theorem dX6_put_39 : decode cX6_put 39 = .ok (.iload_n 2, 1) := by decide +kernel
theorem dX6_put_40 : decode cX6_put 40 = .ok (.aload 4, 2) := by decide +kernel
theorem dX6_put_42 : decode cX6_put 42 = .ok (.getfield 251, 3) := by decide +kernel
theorem dX6_put_45 : decode cX6_put 45 = .ok (.if_icmp .lt 9, 3) := by decide +kernel
theorem dX6_put_48 : decode cX6_put 48 = .ok (.aload_n 0, 1) := by decide +kernel
theorem dX6_put_49 : decode cX6_put 49 = .ok (.iconst 1, 1) := by decide +kernel
theorem dX6_put_50 : decode cX6_put 50 = .ok (.invokevirtual 55, 3) := by decide +kernel
theorem dX6_put_53 : decode cX6_put 53 = .ok (.ireturn, 1) := by decide +kernel
theorem dX6_put_54 : decode cX6_put 54 = .ok (.aload 4, 2) := by decide +kernel
theorem dX6_put_56 : decode cX6_put 56 = .ok (.getfield 254, 3) := by decide +kernel
theorem dX6_put_59 : decode cX6_put 59 = .ok (.iload_n 2, 1) := by decide +kernel
theorem dX6_put_60 : decode cX6_put 60 = .ok (.aload 4, 2) := by decide +kernel
theorem dX6_put_62 : decode cX6_put 62 = .ok (.iload_n 3, 1) := by decide +kernel
theorem dX6_put_63 : decode cX6_put 63 = .ok (.invokevirtual 257, 3) := by decide +kernel
theorem dX6_put_66 : decode cX6_put 66 = .ok (.iastore, 1) := by decide +kernel
theorem dX6_put_67 : decode cX6_put 67 = .ok (.iconst 1, 1) := by decide +kernel
theorem dX6_put_68 : decode cX6_put 68 = .ok (.ireturn, 1) := by decide +kernel
set_option maxRecDepth 20000 in
theorem ggX6_move_X6_isSheet : GoodIn wsX6_move wsX6_isSheet := goodIn_r _ [11, 12, 13, 10, 14] (by decide +kernel) (by decide +kernel)
set_option maxRecDepth 20000 in
theorem gX6_move_X6_isSheet : GoodIn wsX6_move (va_wsS RX6 215 yX6_isSheet wsX6_isSheet) := goodIn_app (goodIn_of _ (by decide +kernel)) ggX6_move_X6_isSheet
set_option maxRecDepth 20000 in
theorem ggX6_move_X6_fail : GoodIn wsX6_move wsX6_fail := goodIn_r _ [18, 19, 20, 32, 33, 34, 35, 36, 37, 38, 39] (by decide +kernel) (by decide +kernel)
set_option maxRecDepth 20000 in
theorem gX6_move_X6_fail : GoodIn wsX6_move (wsV RX6 55 RX6 yX6_fail wsX6_fail) := goodIn_app (goodIn_of _ (by decide +kernel)) ggX6_move_X6_fail
set_option maxRecDepth 20000 in
theorem ggX6_move_X2_isMissing : GoodIn wsX6_move wsX2_isMissing := goodIn_r _ [25, 26, 40, 41, 42] (by decide +kernel) (by decide +kernel)
set_option maxRecDepth 20000 in
theorem gX6_move_X2_isMissing : GoodIn wsX6_move (wsV RX6 218 RX2 yX2_isMissing wsX2_isMissing) := goodIn_app (goodIn_of _ (by decide +kernel)) ggX6_move_X2_isMissing
set_option maxRecDepth 20000 in
theorem ggX6_move_X2_has : GoodIn wsX6_move wsX2_has := goodIn_r _ [30, 31, 40, 41, 42] (by decide +kernel) (by decide +kernel)
set_option maxRecDepth 20000 in
theorem gX6_move_X2_has : GoodIn wsX6_move (wsV RX6 263 RX2 yX2_has wsX2_has) := goodIn_app (goodIn_of _ (by decide +kernel)) ggX6_move_X2_has
theorem dX6_move_0 : decode cX6_move 0 = .ok (.iload_n 1, 1) := by decide +kernel
theorem dX6_move_1 : decode cX6_move 1 = .ok (.invokestatic 215, 3) := by decide +kernel
theorem dX6_move_4 : decode cX6_move 4 = .ok (.ifCond .eq 10, 3) := by decide +kernel
theorem dX6_move_7 : decode cX6_move 7 = .ok (.iload_n 3, 1) := by decide +kernel
theorem dX6_move_8 : decode cX6_move 8 = .ok (.invokestatic 215, 3) := by decide +kernel
theorem dX6_move_11 : decode cX6_move 11 = .ok (.ifCond .ne 9, 3) := by decide +kernel
theorem dX6_move_14 : decode cX6_move 14 = .ok (.aload_n 0, 1) := by decide +kernel
theorem dX6_move_15 : decode cX6_move 15 = .ok (.iconst 1, 1) := by decide +kernel
theorem dX6_move_16 : decode cX6_move 16 = .ok (.invokevirtual 55, 3) := by decide +kernel
theorem dX6_move_19 : decode cX6_move 19 = .ok (.ireturn, 1) := by decide +kernel
theorem dX6_move_20 : decode cX6_move 20 = .ok (.aload_n 0, 1) := by decide +kernel
theorem dX6_move_21 : decode cX6_move 21 = .ok (.getfield 46, 3) := by decide +kernel
theorem dX6_move_24 : decode cX6_move 24 = .ok (.iload_n 1, 1) := by decide +kernel
theorem dX6_move_25 : decode cX6_move 25 = .ok (.aaload, 1) := by decide +kernel
theorem dX6_move_26 : decode cX6_move 26 = .ok (.astore 6, 2) := by decide +kernel
theorem dX6_move_28 : decode cX6_move 28 = .ok (.aload_n 0, 1) := by decide +kernel
theorem dX6_move_29 : decode cX6_move 29 = .ok (.getfield 46, 3) := by decide +kernel
theorem dX6_move_32 : decode cX6_move 32 = .ok (.iload_n 3, 1) := by decide +kernel
theorem dX6_move_33 : decode cX6_move 33 = .ok (.aaload, 1) := by decide +kernel
theorem dX6_move_34 : decode cX6_move 34 = .ok (.astore 7, 2) := by decide +kernel
theorem dX6_move_36 : decode cX6_move 36 = .ok (.aload 6, 2) := by decide +kernel
theorem dX6_move_38 : decode cX6_move 38 = .ok (.invokevirtual 218, 3) := by decide +kernel
theorem dX6_move_41 : decode cX6_move 41 = .ok (.ifCond .ne 11, 3) := by decide +kernel
theorem dX6_move_44 : decode cX6_move 44 = .ok (.aload 7, 2) := by decide +kernel
theorem dX6_move_46 : decode cX6_move 46 = .ok (.invokevirtual 218, 3) := by decide +kernel
theorem dX6_move_49 : decode cX6_move 49 = .ok (.ifCond .eq 9, 3) := by decide +kernel
theorem dX6_move_52 : decode cX6_move 52 = .ok (.aload_n 0, 1) := by decide +kernel
theorem dX6_move_53 : decode cX6_move 53 = .ok (.iconst 2, 1) := by decide +kernel
theorem dX6_move_54 : decode cX6_move 54 = .ok (.invokevirtual 55, 3) := by decide +kernel
theorem dX6_move_57 : decode cX6_move 57 = .ok (.ireturn, 1) := by decide +kernel
theorem dX6_move_58 : decode cX6_move 58 = .ok (.aload 6, 2) := by decide +kernel
theorem dX6_move_60 : decode cX6_move 60 = .ok (.getfield 260, 3) := by decide +kernel
theorem dX6_move_63 : decode cX6_move 63 = .ok (.aload 7, 2) := by decide +kernel
theorem dX6_move_65 : decode cX6_move 65 = .ok (.getfield 260, 3) := by decide +kernel
theorem dX6_move_68 : decode cX6_move 68 = .ok (.if_icmp .eq 9, 3) := by decide +kernel
theorem dX6_move_71 : decode cX6_move 71 = .ok (.aload_n 0, 1) := by decide +kernel
theorem dX6_move_72 : decode cX6_move 72 = .ok (.iconst 5, 1) := by decide +kernel
theorem dX6_move_73 : decode cX6_move 73 = .ok (.invokevirtual 55, 3) := by decide +kernel
theorem dX6_move_76 : decode cX6_move 76 = .ok (.ireturn, 1) := by decide +kernel
theorem dX6_move_77 : decode cX6_move 77 = .ok (.aload 6, 2) := by decide +kernel
theorem dX6_move_79 : decode cX6_move 79 = .ok (.iload_n 2, 1) := by decide +kernel
theorem dX6_move_80 : decode cX6_move 80 = .ok (.iload 5, 2) := by decide +kernel
theorem dX6_move_82 : decode cX6_move 82 = .ok (.invokevirtual 263, 3) := by decide +kernel
theorem dX6_move_85 : decode cX6_move 85 = .ok (.ifCond .eq 15, 3) := by decide +kernel
theorem dX6_move_88 : decode cX6_move 88 = .ok (.aload 7, 2) := by decide +kernel
theorem dX6_move_90 : decode cX6_move 90 = .ok (.iload 4, 2) := by decide +kernel
theorem dX6_move_92 : decode cX6_move 92 = .ok (.iload 5, 2) := by decide +kernel
theorem dX6_move_94 : decode cX6_move 94 = .ok (.invokevirtual 263, 3) := by decide +kernel
theorem dX6_move_97 : decode cX6_move 97 = .ok (.ifCond .ne 9, 3) := by decide +kernel
theorem dX6_move_100 : decode cX6_move 100 = .ok (.aload_n 0, 1) := by decide +kernel
theorem dX6_move_101 : decode cX6_move 101 = .ok (.iconst 1, 1) := by decide +kernel
theorem dX6_move_102 : decode cX6_move 102 = .ok (.invokevirtual 55, 3) := by decide +kernel
theorem dX6_move_105 : decode cX6_move 105 = .ok (.ireturn, 1) := by decide +kernel
theorem dX6_move_106 : decode cX6_move 106 = .ok (.aload 6, 2) := by decide +kernel
theorem dX6_move_108 : decode cX6_move 108 = .ok (.getfield 254, 3) := by decide +kernel
theorem dX6_move_111 : decode cX6_move 111 = .ok (.iload_n 2, 1) := by decide +kernel
theorem dX6_move_112 : decode cX6_move 112 = .ok (.aload 7, 2) := by decide +kernel
theorem dX6_move_114 : decode cX6_move 114 = .ok (.getfield 254, 3) := by decide +kernel
theorem dX6_move_117 : decode cX6_move 117 = .ok (.iload 4, 2) := by decide +kernel
theorem dX6_move_119 : decode cX6_move 119 = .ok (.iload 5, 2) := by decide +kernel
theorem dX6_move_121 : decode cX6_move 121 = .ok (.invokestatic 266, 3) := by decide +kernel
theorem dX6_move_124 : decode cX6_move 124 = .ok (.iload 5, 2) := by decide +kernel
theorem dX6_move_126 : decode cX6_move 126 = .ok (.ireturn, 1) := by decide +kernel
set_option maxRecDepth 20000 in
theorem ggX6_cares_X6_isSheet : GoodIn wsX6_cares wsX6_isSheet := goodIn_r _ [6, 7, 8, 5, 9] (by decide +kernel) (by decide +kernel)
set_option maxRecDepth 20000 in
theorem gX6_cares_X6_isSheet : GoodIn wsX6_cares (va_wsS RX6 215 yX6_isSheet wsX6_isSheet) := goodIn_app (goodIn_of _ (by decide +kernel)) ggX6_cares_X6_isSheet
set_option maxRecDepth 20000 in
theorem ggX6_cares_X6_fail : GoodIn wsX6_cares wsX6_fail := goodIn_r _ [13, 14, 15, 31, 32, 33, 34, 35, 36, 37, 38] (by decide +kernel) (by decide +kernel)
set_option maxRecDepth 20000 in
theorem gX6_cares_X6_fail : GoodIn wsX6_cares (wsV RX6 55 RX6 yX6_fail wsX6_fail) := goodIn_app (goodIn_of _ (by decide +kernel)) ggX6_cares_X6_fail
set_option maxRecDepth 20000 in
theorem ggX6_cares_X2_isMissing : GoodIn wsX6_cares wsX2_isMissing := goodIn_r _ [20, 21, 39, 40, 41] (by decide +kernel) (by decide +kernel)
set_option maxRecDepth 20000 in
theorem gX6_cares_X2_isMissing : GoodIn wsX6_cares (wsV RX6 218 RX2 yX2_isMissing wsX2_isMissing) := goodIn_app (goodIn_of _ (by decide +kernel)) ggX6_cares_X2_isMissing
set_option maxRecDepth 20000 in
theorem ggX6_cares_X0_takeCares : GoodIn wsX6_cares wsX0_takeCares := goodIn_r _ [26, 27, 28, 29, 30, 8, 5, 9, 39, 40, 41, 42, 43, 44, 45, 46, 47, 48, 49, 50, 51, 52, 53, 54, 55, 56, 57] (by decide +kernel) (by decide +kernel)
set_option maxRecDepth 20000 in
theorem gX6_cares_X0_takeCares : GoodIn wsX6_cares (wsV RX6 272 RX0 yX0_takeCares wsX0_takeCares) := goodIn_app (goodIn_of _ (by decide +kernel)) ggX6_cares_X0_takeCares
theorem dX6_cares_0 : decode cX6_cares 0 = .ok (.iload_n 1, 1) := by decide +kernel
theorem dX6_cares_1 : decode cX6_cares 1 = .ok (.invokestatic 215, 3) := by decide +kernel
theorem dX6_cares_4 : decode cX6_cares 4 = .ok (.ifCond .ne 9, 3) := by decide +kernel
theorem dX6_cares_7 : decode cX6_cares 7 = .ok (.aload_n 0, 1) := by decide +kernel
theorem dX6_cares_8 : decode cX6_cares 8 = .ok (.iconst 1, 1) := by decide +kernel
theorem dX6_cares_9 : decode cX6_cares 9 = .ok (.invokevirtual 55, 3) := by decide +kernel
theorem dX6_cares_12 : decode cX6_cares 12 = .ok (.ireturn, 1) := by decide +kernel
theorem dX6_cares_13 : decode cX6_cares 13 = .ok (.aload_n 0, 1) := by decide +kernel
theorem dX6_cares_14 : decode cX6_cares 14 = .ok (.getfield 46, 3) := by decide +kernel
theorem dX6_cares_17 : decode cX6_cares 17 = .ok (.iload_n 1, 1) := by decide +kernel
theorem dX6_cares_18 : decode cX6_cares 18 = .ok (.aaload, 1) := by decide +kernel
theorem dX6_cares_19 : decode cX6_cares 19 = .ok (.invokevirtual 218, 3) := by decide +kernel
theorem dX6_cares_22 : decode cX6_cares 22 = .ok (.ifCond .eq 9, 3) := by decide +kernel
theorem dX6_cares_25 : decode cX6_cares 25 = .ok (.aload_n 0, 1) := by decide +kernel
theorem dX6_cares_26 : decode cX6_cares 26 = .ok (.iconst 2, 1) := by decide +kernel
theorem dX6_cares_27 : decode cX6_cares 27 = .ok (.invokevirtual 55, 3) := by decide +kernel
theorem dX6_cares_30 : decode cX6_cares 30 = .ok (.ireturn, 1) := by decide +kernel
theorem dX6_cares_31 : decode cX6_cares 31 = .ok (.aload_n 0, 1) := by decide +kernel
theorem dX6_cares_32 : decode cX6_cares 32 = .ok (.getfield 12, 3) := by decide +kernel
theorem dX6_cares_35 : decode cX6_cares 35 = .ok (.aload_n 0, 1) := by decide +kernel
theorem dX6_cares_36 : decode cX6_cares 36 = .ok (.getfield 46, 3) := by decide +kernel
theorem dX6_cares_39 : decode cX6_cares 39 = .ok (.iload_n 1, 1) := by decide +kernel
theorem dX6_cares_40 : decode cX6_cares 40 = .ok (.aaload, 1) := by decide +kernel
theorem dX6_cares_41 : decode cX6_cares 41 = .ok (.invokevirtual 272, 3) := by decide +kernel
theorem dX6_cares_44 : decode cX6_cares 44 = .ok (.ireturn, 1) := by decide +kernel
set_option maxRecDepth 20000 in
theorem ggX6_judge_X6_isSheet : GoodIn wsX6_judge wsX6_isSheet := goodIn_r _ [6, 7, 8, 5, 9] (by decide +kernel) (by decide +kernel)
set_option maxRecDepth 20000 in
theorem gX6_judge_X6_isSheet : GoodIn wsX6_judge (va_wsS RX6 215 yX6_isSheet wsX6_isSheet) := goodIn_app (goodIn_of _ (by decide +kernel)) ggX6_judge_X6_isSheet
set_option maxRecDepth 20000 in
theorem ggX6_judge_X6_fail : GoodIn wsX6_judge wsX6_fail := goodIn_r _ [13, 14, 15, 31, 32, 33, 34, 35, 36, 37, 38] (by decide +kernel) (by decide +kernel)
set_option maxRecDepth 20000 in
theorem gX6_judge_X6_fail : GoodIn wsX6_judge (wsV RX6 55 RX6 yX6_fail wsX6_fail) := goodIn_app (goodIn_of _ (by decide +kernel)) ggX6_judge_X6_fail
set_option maxRecDepth 20000 in
theorem ggX6_judge_X2_isMissing : GoodIn wsX6_judge wsX2_isMissing := goodIn_r _ [20, 21, 39, 40, 41] (by decide +kernel) (by decide +kernel)
set_option maxRecDepth 20000 in
theorem gX6_judge_X2_isMissing : GoodIn wsX6_judge (wsV RX6 218 RX2 yX2_isMissing wsX2_isMissing) := goodIn_app (goodIn_of _ (by decide +kernel)) ggX6_judge_X2_isMissing
set_option maxRecDepth 20000 in
theorem ggX6_judge_X0_rightStates : GoodIn wsX6_judge wsX0_rightStates := goodIn_r _ [26, 27, 28, 29, 30, 39, 40, 41, 42, 43, 44, 45, 46, 47, 48, 49, 50, 51, 52, 53, 54, 55, 56, 57] (by decide +kernel) (by decide +kernel)
set_option maxRecDepth 20000 in
theorem gX6_judge_X0_rightStates : GoodIn wsX6_judge (wsV RX6 276 RX0 yX0_rightStates wsX0_rightStates) := goodIn_app (goodIn_of _ (by decide +kernel)) ggX6_judge_X0_rightStates
theorem dX6_judge_0 : decode cX6_judge 0 = .ok (.iload_n 1, 1) := by decide +kernel
theorem dX6_judge_1 : decode cX6_judge 1 = .ok (.invokestatic 215, 3) := by decide +kernel
theorem dX6_judge_4 : decode cX6_judge 4 = .ok (.ifCond .ne 9, 3) := by decide +kernel
theorem dX6_judge_7 : decode cX6_judge 7 = .ok (.aload_n 0, 1) := by decide +kernel
theorem dX6_judge_8 : decode cX6_judge 8 = .ok (.iconst 1, 1) := by decide +kernel
theorem dX6_judge_9 : decode cX6_judge 9 = .ok (.invokevirtual 55, 3) := by decide +kernel
theorem dX6_judge_12 : decode cX6_judge 12 = .ok (.ireturn, 1) := by decide +kernel
theorem dX6_judge_13 : decode cX6_judge 13 = .ok (.aload_n 0, 1) := by decide +kernel
theorem dX6_judge_14 : decode cX6_judge 14 = .ok (.getfield 46, 3) := by decide +kernel
theorem dX6_judge_17 : decode cX6_judge 17 = .ok (.iload_n 1, 1) := by decide +kernel
theorem dX6_judge_18 : decode cX6_judge 18 = .ok (.aaload, 1) := by decide +kernel
theorem dX6_judge_19 : decode cX6_judge 19 = .ok (.invokevirtual 218, 3) := by decide +kernel
theorem dX6_judge_22 : decode cX6_judge 22 = .ok (.ifCond .eq 9, 3) := by decide +kernel
theorem dX6_judge_25 : decode cX6_judge 25 = .ok (.aload_n 0, 1) := by decide +kernel
theorem dX6_judge_26 : decode cX6_judge 26 = .ok (.iconst 2, 1) := by decide +kernel
theorem dX6_judge_27 : decode cX6_judge 27 = .ok (.invokevirtual 55, 3) := by decide +kernel
theorem dX6_judge_30 : decode cX6_judge 30 = .ok (.ireturn, 1) := by decide +kernel
theorem dX6_judge_31 : decode cX6_judge 31 = .ok (.aload_n 0, 1) := by decide +kernel
theorem dX6_judge_32 : decode cX6_judge 32 = .ok (.getfield 12, 3) := by decide +kernel
theorem dX6_judge_35 : decode cX6_judge 35 = .ok (.aload_n 0, 1) := by decide +kernel
theorem dX6_judge_36 : decode cX6_judge 36 = .ok (.getfield 46, 3) := by decide +kernel
theorem dX6_judge_39 : decode cX6_judge 39 = .ok (.iload_n 1, 1) := by decide +kernel
theorem dX6_judge_40 : decode cX6_judge 40 = .ok (.aaload, 1) := by decide +kernel
theorem dX6_judge_41 : decode cX6_judge 41 = .ok (.invokevirtual 276, 3) := by decide +kernel
theorem dX6_judge_44 : decode cX6_judge 44 = .ok (.ireturn, 1) := by decide +kernel
set_option maxRecDepth 20000 in
theorem ggX6_image_X0_copyFrom : GoodIn wsX6_image wsX0_copyFrom := goodIn_r _ [8, 9, 10, 11, 12, 13, 14, 15, 16, 17, 18, 19, 20, 21, 22, 23, 24, 25, 26, 27, 28, 29, 30, 31, 32, 33, 34, 35, 36, 37, 38, 47, 48, 49, 50, 51, 52, 53, 54, 55, 56, 57, 58, 59, 60, 61, 62, 63, 64, 65] (by decide +kernel) (by decide +kernel)
set_option maxRecDepth 20000 in
theorem gX6_image_X0_copyFrom : GoodIn wsX6_image (wsV RX6 279 RX0 yX0_copyFrom wsX0_copyFrom) := goodIn_app (goodIn_of _ (by decide +kernel)) ggX6_image_X0_copyFrom
theorem dX6_image_0 : decode cX6_image 0 = .ok (.aload_n 0, 1) := by decide +kernel
theorem dX6_image_1 : decode cX6_image 1 = .ok (.getfield 16, 3) := by decide +kernel
theorem dX6_image_4 : decode cX6_image 4 = .ok (.aload_n 0, 1) := by decide +kernel
theorem dX6_image_5 : decode cX6_image 5 = .ok (.getfield 12, 3) := by decide +kernel
theorem dX6_image_8 : decode cX6_image 8 = .ok (.invokevirtual 279, 3) := by decide +kernel
theorem dX6_image_11 : decode cX6_image 11 = .ok (.aload_n 0, 1) := by decide +kernel
theorem dX6_image_12 : decode cX6_image 12 = .ok (.dup, 1) := by decide +kernel
theorem dX6_image_13 : decode cX6_image 13 = .ok (.getfield 283, 3) := by decide +kernel
theorem dX6_image_16 : decode cX6_image 16 = .ok (.iconst 1, 1) := by decide +kernel
theorem dX6_image_17 : decode cX6_image 17 = .ok (.iadd, 1) := by decide +kernel
theorem dX6_image_18 : decode cX6_image 18 = .ok (.putfield 283, 3) := by decide +kernel
theorem dX6_image_21 : decode cX6_image 21 = .ok (.aload_n 0, 1) := by decide +kernel
theorem dX6_image_22 : decode cX6_image 22 = .ok (.getfield 283, 3) := by decide +kernel
theorem dX6_image_25 : decode cX6_image 25 = .ok (.ireturn, 1) := by decide +kernel
set_option maxRecDepth 20000 in
theorem ggX6_restore_X6_fail : GoodIn wsX6_restore wsX6_fail := goodIn_r _ [9, 10, 11, 47, 48, 49, 50, 51, 52, 53, 54] (by decide +kernel) (by decide +kernel)
set_option maxRecDepth 20000 in
theorem gX6_restore_X6_fail : GoodIn wsX6_restore (wsV RX6 55 RX6 yX6_fail wsX6_fail) := goodIn_app (goodIn_of _ (by decide +kernel)) ggX6_restore_X6_fail
set_option maxRecDepth 20000 in
theorem ggX6_restore_X0_copyFrom : GoodIn wsX6_restore wsX0_copyFrom := goodIn_r _ [16, 17, 18, 19, 20, 21, 22, 23, 24, 25, 26, 27, 28, 29, 30, 31, 32, 33, 34, 35, 36, 37, 38, 39, 40, 41, 42, 43, 44, 45, 46, 55, 56, 57, 58, 59, 60, 61, 62, 63, 64, 65, 66, 67, 68, 69, 70, 71, 72, 73] (by decide +kernel) (by decide +kernel)
set_option maxRecDepth 20000 in
theorem gX6_restore_X0_copyFrom : GoodIn wsX6_restore (wsV RX6 279 RX0 yX0_copyFrom wsX0_copyFrom) := goodIn_app (goodIn_of _ (by decide +kernel)) ggX6_restore_X0_copyFrom
theorem dX6_restore_0 : decode cX6_restore 0 = .ok (.aload_n 0, 1) := by decide +kernel
theorem dX6_restore_1 : decode cX6_restore 1 = .ok (.getfield 283, 3) := by decide +kernel
theorem dX6_restore_4 : decode cX6_restore 4 = .ok (.ifCond .ne 9, 3) := by decide +kernel
theorem dX6_restore_7 : decode cX6_restore 7 = .ok (.aload_n 0, 1) := by decide +kernel
theorem dX6_restore_8 : decode cX6_restore 8 = .ok (.iconst 2, 1) := by decide +kernel
theorem dX6_restore_9 : decode cX6_restore 9 = .ok (.invokevirtual 55, 3) := by decide +kernel
theorem dX6_restore_12 : decode cX6_restore 12 = .ok (.ireturn, 1) := by decide +kernel
theorem dX6_restore_13 : decode cX6_restore 13 = .ok (.aload_n 0, 1) := by decide +kernel
theorem dX6_restore_14 : decode cX6_restore 14 = .ok (.getfield 12, 3) := by decide +kernel
theorem dX6_restore_17 : decode cX6_restore 17 = .ok (.aload_n 0, 1) := by decide +kernel
theorem dX6_restore_18 : decode cX6_restore 18 = .ok (.getfield 16, 3) := by decide +kernel
theorem dX6_restore_21 : decode cX6_restore 21 = .ok (.invokevirtual 279, 3) := by decide +kernel
theorem dX6_restore_24 : decode cX6_restore 24 = .ok (.aload_n 0, 1) := by decide +kernel
theorem dX6_restore_25 : decode cX6_restore 25 = .ok (.getfield 12, 3) := by decide +kernel
theorem dX6_restore_28 : decode cX6_restore 28 = .ok (.getfield 111, 3) := by decide +kernel
theorem dX6_restore_31 : decode cX6_restore 31 = .ok (.ireturn, 1) := by decide +kernel
set_option maxRecDepth 20000 in
theorem ggX6_tell_X6_fail : GoodIn wsX6_tell wsX6_fail := goodIn_r _ [8, 9, 10, 11, 12, 13, 14, 15, 16, 17, 18] (by decide +kernel) (by decide +kernel)
set_option maxRecDepth 20000 in
theorem gX6_tell_X6_fail : GoodIn wsX6_tell (wsV RX6 55 RX6 yX6_fail wsX6_fail) := goodIn_app (goodIn_of _ (by decide +kernel)) ggX6_tell_X6_fail
theorem dX6_tell_0 : decode cX6_tell 0 = .ok (.aload_n 0, 1) := by decide +kernel
theorem dX6_tell_1 : decode cX6_tell 1 = .ok (.getfield 12, 3) := by decide +kernel
theorem dX6_tell_4 : decode cX6_tell 4 = .ok (.getfield 286, 3) := by decide +kernel
theorem dX6_tell_7 : decode cX6_tell 7 = .ok (.bipush 24, 2) := by decide +kernel
theorem dX6_tell_9 : decode cX6_tell 9 = .ok (.if_icmp .lt 9, 3) := by decide +kernel
theorem dX6_tell_12 : decode cX6_tell 12 = .ok (.aload_n 0, 1) := by decide +kernel
theorem dX6_tell_13 : decode cX6_tell 13 = .ok (.iconst 4, 1) := by decide +kernel
theorem dX6_tell_14 : decode cX6_tell 14 = .ok (.invokevirtual 55, 3) := by decide +kernel
theorem dX6_tell_17 : decode cX6_tell 17 = .ok (.ireturn, 1) := by decide +kernel
theorem dX6_tell_18 : decode cX6_tell 18 = .ok (.aload_n 0, 1) := by decide +kernel
theorem dX6_tell_19 : decode cX6_tell 19 = .ok (.getfield 12, 3) := by decide +kernel
theorem dX6_tell_22 : decode cX6_tell 22 = .ok (.getfield 289, 3) := by decide +kernel
theorem dX6_tell_25 : decode cX6_tell 25 = .ok (.aload_n 0, 1) := by decide +kernel
theorem dX6_tell_26 : decode cX6_tell 26 = .ok (.getfield 12, 3) := by decide +kernel
theorem dX6_tell_29 : decode cX6_tell 29 = .ok (.getfield 286, 3) := by decide +kernel
theorem dX6_tell_32 : decode cX6_tell 32 = .ok (.iload_n 1, 1) := by decide +kernel
theorem dX6_tell_33 : decode cX6_tell 33 = .ok (.iastore, 1) := by decide +kernel
theorem dX6_tell_34 : decode cX6_tell 34 = .ok (.aload_n 0, 1) := by decide +kernel
theorem dX6_tell_35 : decode cX6_tell 35 = .ok (.getfield 12, 3) := by decide +kernel
theorem dX6_tell_38 : decode cX6_tell 38 = .ok (.dup, 1) := by decide +kernel
theorem dX6_tell_39 : decode cX6_tell 39 = .ok (.getfield 286, 3) := by decide +kernel
theorem dX6_tell_42 : decode cX6_tell 42 = .ok (.iconst 1, 1) := by decide +kernel
theorem dX6_tell_43 : decode cX6_tell 43 = .ok (.iadd, 1) := by decide +kernel
theorem dX6_tell_44 : decode cX6_tell 44 = .ok (.putfield 286, 3) := by decide +kernel
theorem dX6_tell_47 : decode cX6_tell 47 = .ok (.aload_n 0, 1) := by decide +kernel
theorem dX6_tell_48 : decode cX6_tell 48 = .ok (.getfield 12, 3) := by decide +kernel
theorem dX6_tell_51 : decode cX6_tell 51 = .ok (.getfield 286, 3) := by decide +kernel
theorem dX6_tell_54 : decode cX6_tell 54 = .ok (.ireturn, 1) := by decide +kernel
set_option maxRecDepth 20000 in
theorem ggX6_check_X0_firstWrongHad : GoodIn wsX6_check wsX0_firstWrongHad := goodIn_r _ [7, 8, 9, 10, 11, 20, 21, 22, 23, 24, 25, 26, 27, 28, 29, 30, 31, 32, 33, 34, 35] (by decide +kernel) (by decide +kernel)
set_option maxRecDepth 20000 in
theorem gX6_check_X0_firstWrongHad : GoodIn wsX6_check (wsV RX6 292 RX0 yX0_firstWrongHad wsX0_firstWrongHad) := goodIn_app (goodIn_of _ (by decide +kernel)) ggX6_check_X0_firstWrongHad
theorem dX6_check_0 : decode cX6_check 0 = .ok (.aload_n 0, 1) := by decide +kernel
theorem dX6_check_1 : decode cX6_check 1 = .ok (.getfield 12, 3) := by decide +kernel
theorem dX6_check_4 : decode cX6_check 4 = .ok (.invokevirtual 292, 3) := by decide +kernel
theorem dX6_check_7 : decode cX6_check 7 = .ok (.istore_n 1, 1) := by decide +kernel
theorem dX6_check_8 : decode cX6_check 8 = .ok (.aload_n 0, 1) := by decide +kernel
theorem dX6_check_9 : decode cX6_check 9 = .ok (.getfield 12, 3) := by decide +kernel
theorem dX6_check_12 : decode cX6_check 12 = .ok (.iconst 0, 1) := by decide +kernel
theorem dX6_check_13 : decode cX6_check 13 = .ok (.putfield 286, 3) := by decide +kernel
theorem dX6_check_16 : decode cX6_check 16 = .ok (.iload_n 1, 1) := by decide +kernel
theorem dX6_check_17 : decode cX6_check 17 = .ok (.iconst 1, 1) := by decide +kernel
theorem dX6_check_18 : decode cX6_check 18 = .ok (.iadd, 1) := by decide +kernel
theorem dX6_check_19 : decode cX6_check 19 = .ok (.ireturn, 1) := by decide +kernel
set_option maxRecDepth 20000 in
theorem ggX6_count_X0_shards : GoodIn wsX6_count wsX0_shards := goodIn_r _ [14, 15, 16, 17, 18, 19, 34, 35, 36, 37, 38, 39, 40, 41, 42, 43, 44, 45, 46, 47, 48, 49] (by decide +kernel) (by decide +kernel)
set_option maxRecDepth 20000 in
theorem gX6_count_X0_shards : GoodIn wsX6_count (wsV RX6 295 RX0 yX0_shards wsX0_shards) := goodIn_app (goodIn_of _ (by decide +kernel)) ggX6_count_X0_shards
set_option maxRecDepth 20000 in
theorem ggX6_count_X6_fail : GoodIn wsX6_count wsX6_fail := goodIn_r _ [23, 24, 25, 26, 27, 28, 29, 30, 31, 32, 33] (by decide +kernel) (by decide +kernel)
set_option maxRecDepth 20000 in
theorem gX6_count_X6_fail : GoodIn wsX6_count (wsV RX6 55 RX6 yX6_fail wsX6_fail) := goodIn_app (goodIn_of _ (by decide +kernel)) ggX6_count_X6_fail
theorem dX6_count_0 : decode cX6_count 0 = .ok (.iload_n 1, 1) := by decide +kernel
theorem dX6_count_1 : decode cX6_count 1 = .ok (.tableswitch 111 0 7 #[47, 55, 63, 71, 79, 87, 95, 103], 47) := by decide +kernel
theorem dX6_count_48 : decode cX6_count 48 = .ok (.aload_n 0, 1) := by decide +kernel
theorem dX6_count_49 : decode cX6_count 49 = .ok (.getfield 12, 3) := by decide +kernel
theorem dX6_count_52 : decode cX6_count 52 = .ok (.getfield 90, 3) := by decide +kernel
theorem dX6_count_55 : decode cX6_count 55 = .ok (.ireturn, 1) := by decide +kernel
theorem dX6_count_56 : decode cX6_count 56 = .ok (.aload_n 0, 1) := by decide +kernel
theorem dX6_count_57 : decode cX6_count 57 = .ok (.getfield 12, 3) := by decide +kernel
theorem dX6_count_60 : decode cX6_count 60 = .ok (.getfield 59, 3) := by decide +kernel
theorem dX6_count_63 : decode cX6_count 63 = .ok (.ireturn, 1) := by decide +kernel
theorem dX6_count_64 : decode cX6_count 64 = .ok (.aload_n 0, 1) := by decide +kernel
theorem dX6_count_65 : decode cX6_count 65 = .ok (.getfield 12, 3) := by decide +kernel
theorem dX6_count_68 : decode cX6_count 68 = .ok (.getfield 111, 3) := by decide +kernel
theorem dX6_count_71 : decode cX6_count 71 = .ok (.ireturn, 1) := by decide +kernel
theorem dX6_count_72 : decode cX6_count 72 = .ok (.aload_n 0, 1) := by decide +kernel
theorem dX6_count_73 : decode cX6_count 73 = .ok (.getfield 12, 3) := by decide +kernel
theorem dX6_count_76 : decode cX6_count 76 = .ok (.invokevirtual 295, 3) := by decide +kernel
theorem dX6_count_79 : decode cX6_count 79 = .ok (.ireturn, 1) := by decide +kernel
theorem dX6_count_80 : decode cX6_count 80 = .ok (.aload_n 0, 1) := by decide +kernel
theorem dX6_count_81 : decode cX6_count 81 = .ok (.getfield 12, 3) := by decide +kernel
theorem dX6_count_84 : decode cX6_count 84 = .ok (.getfield 130, 3) := by decide +kernel
theorem dX6_count_87 : decode cX6_count 87 = .ok (.ireturn, 1) := by decide +kernel
theorem dX6_count_88 : decode cX6_count 88 = .ok (.aload_n 0, 1) := by decide +kernel
theorem dX6_count_89 : decode cX6_count 89 = .ok (.getfield 12, 3) := by decide +kernel
theorem dX6_count_92 : decode cX6_count 92 = .ok (.getfield 286, 3) := by decide +kernel
theorem dX6_count_95 : decode cX6_count 95 = .ok (.ireturn, 1) := by decide +kernel
theorem dX6_count_96 : decode cX6_count 96 = .ok (.aload_n 0, 1) := by decide +kernel
theorem dX6_count_97 : decode cX6_count 97 = .ok (.getfield 36, 3) := by decide +kernel
theorem dX6_count_100 : decode cX6_count 100 = .ok (.getfield 239, 3) := by decide +kernel
theorem dX6_count_103 : decode cX6_count 103 = .ok (.ireturn, 1) := by decide +kernel
theorem dX6_count_104 : decode cX6_count 104 = .ok (.aload_n 0, 1) := by decide +kernel
theorem dX6_count_105 : decode cX6_count 105 = .ok (.getfield 12, 3) := by decide +kernel
theorem dX6_count_108 : decode cX6_count 108 = .ok (.getfield 178, 3) := by decide +kernel
theorem dX6_count_111 : decode cX6_count 111 = .ok (.ireturn, 1) := by decide +kernel
theorem dX6_count_112 : decode cX6_count 112 = .ok (.aload_n 0, 1) := by decide +kernel
theorem dX6_count_113 : decode cX6_count 113 = .ok (.iconst 1, 1) := by decide +kernel
theorem dX6_count_114 : decode cX6_count 114 = .ok (.invokevirtual 55, 3) := by decide +kernel
theorem dX6_count_117 : decode cX6_count 117 = .ok (.ireturn, 1) := by decide +kernel
set_option maxRecDepth 20000 in
theorem ggX6_told_X6_fail : GoodIn wsX6_told wsX6_fail := goodIn_r _ [6, 1, 7, 8, 9, 10, 11, 12, 13, 14, 15] (by decide +kernel) (by decide +kernel)
set_option maxRecDepth 20000 in
theorem gX6_told_X6_fail : GoodIn wsX6_told (wsV RX6 55 RX6 yX6_fail wsX6_fail) := goodIn_app (goodIn_of _ (by decide +kernel)) ggX6_told_X6_fail
theorem dX6_told_0 : decode cX6_told 0 = .ok (.iload_n 1, 1) := by decide +kernel
theorem dX6_told_1 : decode cX6_told 1 = .ok (.iconst 1, 1) := by decide +kernel
theorem dX6_told_2 : decode cX6_told 2 = .ok (.if_icmp .lt 9, 3) := by decide +kernel
theorem dX6_told_5 : decode cX6_told 5 = .ok (.iload_n 1, 1) := by decide +kernel
theorem dX6_told_6 : decode cX6_told 6 = .ok (.bipush 6, 2) := by decide +kernel
theorem dX6_told_8 : decode cX6_told 8 = .ok (.if_icmp .le 9, 3) := by decide +kernel
theorem dX6_told_11 : decode cX6_told 11 = .ok (.aload_n 0, 1) := by decide +kernel
theorem dX6_told_12 : decode cX6_told 12 = .ok (.iconst 1, 1) := by decide +kernel
theorem dX6_told_13 : decode cX6_told 13 = .ok (.invokevirtual 55, 3) := by decide +kernel
theorem dX6_told_16 : decode cX6_told 16 = .ok (.ireturn, 1) := by decide +kernel
theorem dX6_told_17 : decode cX6_told 17 = .ok (.aload_n 0, 1) := by decide +kernel
theorem dX6_told_18 : decode cX6_told 18 = .ok (.getfield 40, 3) := by decide +kernel
theorem dX6_told_21 : decode cX6_told 21 = .ok (.iload_n 1, 1) := by decide +kernel
theorem dX6_told_22 : decode cX6_told 22 = .ok (.iaload, 1) := by decide +kernel
theorem dX6_told_23 : decode cX6_told 23 = .ok (.ireturn, 1) := by decide +kernel
theorem dX6_fail_0 : decode cX6_fail 0 = .ok (.aload_n 0, 1) := by decide +kernel
theorem dX6_fail_1 : decode cX6_fail 1 = .ok (.getfield 40, 3) := by decide +kernel
theorem dX6_fail_4 : decode cX6_fail 4 = .ok (.iload_n 1, 1) := by decide +kernel
theorem dX6_fail_5 : decode cX6_fail 5 = .ok (.dup2, 1) := by decide +kernel
theorem dX6_fail_6 : decode cX6_fail 6 = .ok (.iaload, 1) := by decide +kernel
theorem dX6_fail_7 : decode cX6_fail 7 = .ok (.iconst 1, 1) := by decide +kernel
theorem dX6_fail_8 : decode cX6_fail 8 = .ok (.iadd, 1) := by decide +kernel
theorem dX6_fail_9 : decode cX6_fail 9 = .ok (.iastore, 1) := by decide +kernel
theorem dX6_fail_10 : decode cX6_fail 10 = .ok (.ldc_w 298, 3) := by decide +kernel
theorem dX6_fail_13 : decode cX6_fail 13 = .ok (.iload_n 1, 1) := by decide +kernel
theorem dX6_fail_14 : decode cX6_fail 14 = .ok (.isub, 1) := by decide +kernel
theorem dX6_fail_15 : decode cX6_fail 15 = .ok (.ireturn, 1) := by decide +kernel
set_option maxRecDepth 20000 in
theorem ggX6_isSheet_X6_within : GoodIn wsX6_isSheet wsX6_within := goodIn_r _ [4] (by decide +kernel) (by decide +kernel)
set_option maxRecDepth 20000 in
theorem gX6_isSheet_X6_within : GoodIn wsX6_isSheet (va_wsS RX6 51 yX6_within wsX6_within) := goodIn_app (goodIn_of _ (by decide +kernel)) ggX6_isSheet_X6_within
theorem dX6_isSheet_0 : decode cX6_isSheet 0 = .ok (.iload_n 0, 1) := by decide +kernel
theorem dX6_isSheet_1 : decode cX6_isSheet 1 = .ok (.iconst 3, 1) := by decide +kernel
theorem dX6_isSheet_2 : decode cX6_isSheet 2 = .ok (.invokestatic 51, 3) := by decide +kernel
theorem dX6_isSheet_5 : decode cX6_isSheet 5 = .ok (.ireturn, 1) := by decide +kernel
theorem dX6_isWidth_0 : decode cX6_isWidth 0 = .ok (.iload_n 0, 1) := by decide +kernel
theorem dX6_isWidth_1 : decode cX6_isWidth 1 = .ok (.ifCond .eq 21, 3) := by decide +kernel
theorem dX6_isWidth_4 : decode cX6_isWidth 4 = .ok (.iload_n 0, 1) := by decide +kernel
theorem dX6_isWidth_5 : decode cX6_isWidth 5 = .ok (.bipush 8, 2) := by decide +kernel
theorem dX6_isWidth_7 : decode cX6_isWidth 7 = .ok (.if_icmp .eq 15, 3) := by decide +kernel
theorem dX6_isWidth_10 : decode cX6_isWidth 10 = .ok (.iload_n 0, 1) := by decide +kernel
theorem dX6_isWidth_11 : decode cX6_isWidth 11 = .ok (.bipush 16, 2) := by decide +kernel
theorem dX6_isWidth_13 : decode cX6_isWidth 13 = .ok (.if_icmp .eq 9, 3) := by decide +kernel
theorem dX6_isWidth_16 : decode cX6_isWidth 16 = .ok (.iload_n 0, 1) := by decide +kernel
theorem dX6_isWidth_17 : decode cX6_isWidth 17 = .ok (.bipush 32, 2) := by decide +kernel
theorem dX6_isWidth_19 : decode cX6_isWidth 19 = .ok (.if_icmp .ne 7, 3) := by decide +kernel
theorem dX6_isWidth_22 : decode cX6_isWidth 22 = .ok (.iconst 1, 1) := by decide +kernel
theorem dX6_isWidth_23 : decode cX6_isWidth 23 = .ok (.goto 4, 3) := by decide +kernel
theorem dX6_isWidth_26 : decode cX6_isWidth 26 = .ok (.iconst 0, 1) := by decide +kernel
theorem dX6_isWidth_27 : decode cX6_isWidth 27 = .ok (.ireturn, 1) := by decide +kernel
theorem dX6_within_0 : decode cX6_within 0 = .ok (.iload_n 0, 1) := by decide +kernel
theorem dX6_within_1 : decode cX6_within 1 = .ok (.ifCond .lt 12, 3) := by decide +kernel
theorem dX6_within_4 : decode cX6_within 4 = .ok (.iload_n 0, 1) := by decide +kernel
theorem dX6_within_5 : decode cX6_within 5 = .ok (.iload_n 1, 1) := by decide +kernel
theorem dX6_within_6 : decode cX6_within 6 = .ok (.if_icmp .gt 7, 3) := by decide +kernel
theorem dX6_within_9 : decode cX6_within 9 = .ok (.iconst 1, 1) := by decide +kernel
theorem dX6_within_10 : decode cX6_within 10 = .ok (.goto 4, 3) := by decide +kernel
theorem dX6_within_13 : decode cX6_within 13 = .ok (.iconst 0, 1) := by decide +kernel
theorem dX6_within_14 : decode cX6_within 14 = .ok (.ireturn, 1) := by decide +kernel
theorem dX6_held_0 : decode cX6_held 0 = .ok (.iconst 0, 1) := by decide +kernel
theorem dX6_held_1 : decode cX6_held 1 = .ok (.iload_n 1, 1) := by decide +kernel
theorem dX6_held_2 : decode cX6_held 2 = .ok (.iload_n 0, 1) := by decide +kernel
theorem dX6_held_3 : decode cX6_held 3 = .ok (.invokestatic 299, 3) := by decide +kernel
theorem dX6_held_6 : decode cX6_held 6 = .ok (.invokestatic 304, 3) := by decide +kernel
theorem dX6_held_9 : decode cX6_held 9 = .ok (.ireturn, 1) := by decide +kernel
theorem dX6_bit_0 : decode cX6_bit 0 = .ok (.iload_n 0, 1) := by decide +kernel
theorem dX6_bit_1 : decode cX6_bit 1 = .ok (.ifCond .eq 7, 3) := by decide +kernel
theorem dX6_bit_4 : decode cX6_bit 4 = .ok (.iconst 1, 1) := by decide +kernel
theorem dX6_bit_5 : decode cX6_bit 5 = .ok (.goto 4, 3) := by decide +kernel
theorem dX6_bit_8 : decode cX6_bit 8 = .ok (.iconst 0, 1) := by decide +kernel
theorem dX6_bit_9 : decode cX6_bit 9 = .ok (.ireturn, 1) := by decide +kernel
set_option maxRecDepth 20000 in
theorem ggX6_bitsIn_J6_bitCount_0f7a4 : GoodIn wsX6_bitsIn wsJ6_bitCount_0f7a4 := goodIn_r _ [4, 5, 6, 7] (by decide +kernel) (by decide +kernel)
set_option maxRecDepth 20000 in
theorem gX6_bitsIn_J6_bitCount_0f7a4 : GoodIn wsX6_bitsIn (va_wsS RX6 307 yJ6_bitCount_0f7a4 wsJ6_bitCount_0f7a4) := goodIn_app (goodIn_of _ (by decide +kernel)) ggX6_bitsIn_J6_bitCount_0f7a4
theorem dX6_bitsIn_0 : decode cX6_bitsIn 0 = .ok (.iload_n 0, 1) := by decide +kernel
theorem dX6_bitsIn_1 : decode cX6_bitsIn 1 = .ok (.invokestatic 307, 3) := by decide +kernel
theorem dX6_bitsIn_4 : decode cX6_bitsIn 4 = .ok (.ireturn, 1) := by decide +kernel
theorem dX6_lowestIn_0 : decode cX6_lowestIn 0 = .ok (.iconst 0, 1) := by decide +kernel
theorem dX6_lowestIn_1 : decode cX6_lowestIn 1 = .ok (.istore_n 1, 1) := by decide +kernel
theorem dX6_lowestIn_2 : decode cX6_lowestIn 2 = .ok (.iload_n 1, 1) := by decide +kernel
theorem dX6_lowestIn_3 : decode cX6_lowestIn 3 = .ok (.bipush 31, 2) := by decide +kernel
theorem dX6_lowestIn_5 : decode cX6_lowestIn 5 = .ok (.if_icmp .ge 17, 3) := by decide +kernel
theorem dX6_lowestIn_8 : decode cX6_lowestIn 8 = .ok (.iload_n 0, 1) := by decide +kernel
theorem dX6_lowestIn_9 : decode cX6_lowestIn 9 = .ok (.iload_n 1, 1) := by decide +kernel
theorem dX6_lowestIn_10 : decode cX6_lowestIn 10 = .ok (.ishr, 1) := by decide +kernel
theorem dX6_lowestIn_11 : decode cX6_lowestIn 11 = .ok (.iconst 1, 1) := by decide +kernel
theorem dX6_lowestIn_12 : decode cX6_lowestIn 12 = .ok (.iand, 1) := by decide +kernel
theorem dX6_lowestIn_13 : decode cX6_lowestIn 13 = .ok (.ifCond .ne 9, 3) := by decide +kernel
theorem dX6_lowestIn_16 : decode cX6_lowestIn 16 = .ok (.iinc 1 1, 3) := by decide +kernel
theorem dX6_lowestIn_19 : decode cX6_lowestIn 19 = .ok (.goto (-17), 3) := by decide +kernel
theorem dX6_lowestIn_22 : decode cX6_lowestIn 22 = .ok (.iload_n 1, 1) := by decide +kernel
theorem dX6_lowestIn_23 : decode cX6_lowestIn 23 = .ok (.ireturn, 1) := by decide +kernel
theorem dX6_isUnder_0 : decode cX6_isUnder 0 = .ok (.iload_n 0, 1) := by decide +kernel
theorem dX6_isUnder_1 : decode cX6_isUnder 1 = .ok (.istore_n 2, 1) := by decide +kernel
theorem dX6_isUnder_2 : decode cX6_isUnder 2 = .ok (.iconst 0, 1) := by decide +kernel
theorem dX6_isUnder_3 : decode cX6_isUnder 3 = .ok (.istore_n 3, 1) := by decide +kernel
theorem dX6_isUnder_4 : decode cX6_isUnder 4 = .ok (.iload_n 3, 1) := by decide +kernel
theorem dX6_isUnder_5 : decode cX6_isUnder 5 = .ok (.bipush 6, 2) := by decide +kernel
theorem dX6_isUnder_7 : decode cX6_isUnder 7 = .ok (.if_icmp .gt 32, 3) := by decide +kernel
theorem dX6_isUnder_10 : decode cX6_isUnder 10 = .ok (.iload_n 2, 1) := by decide +kernel
theorem dX6_isUnder_11 : decode cX6_isUnder 11 = .ok (.ifCond .lt 28, 3) := by decide +kernel
theorem dX6_isUnder_14 : decode cX6_isUnder 14 = .ok (.iload_n 2, 1) := by decide +kernel
theorem dX6_isUnder_15 : decode cX6_isUnder 15 = .ok (.bipush 6, 2) := by decide +kernel
theorem dX6_isUnder_17 : decode cX6_isUnder 17 = .ok (.if_icmp .gt 22, 3) := by decide +kernel
theorem dX6_isUnder_20 : decode cX6_isUnder 20 = .ok (.iload_n 2, 1) := by decide +kernel
theorem dX6_isUnder_21 : decode cX6_isUnder 21 = .ok (.iload_n 1, 1) := by decide +kernel
theorem dX6_isUnder_22 : decode cX6_isUnder 22 = .ok (.if_icmp .ne 5, 3) := by decide +kernel
theorem dX6_isUnder_25 : decode cX6_isUnder 25 = .ok (.iconst 1, 1) := by decide +kernel
theorem dX6_isUnder_26 : decode cX6_isUnder 26 = .ok (.ireturn, 1) := by decide +kernel
theorem dX6_isUnder_27 : decode cX6_isUnder 27 = .ok (.getstatic 312, 3) := by decide +kernel
theorem dX6_isUnder_30 : decode cX6_isUnder 30 = .ok (.iload_n 2, 1) := by decide +kernel
theorem dX6_isUnder_31 : decode cX6_isUnder 31 = .ok (.iaload, 1) := by decide +kernel
theorem dX6_isUnder_32 : decode cX6_isUnder 32 = .ok (.istore_n 2, 1) := by decide +kernel
theorem dX6_isUnder_33 : decode cX6_isUnder 33 = .ok (.iinc 3 1, 3) := by decide +kernel
theorem dX6_isUnder_36 : decode cX6_isUnder 36 = .ok (.goto (-32), 3) := by decide +kernel
theorem dX6_isUnder_39 : decode cX6_isUnder 39 = .ok (.iconst 0, 1) := by decide +kernel
theorem dX6_isUnder_40 : decode cX6_isUnder 40 = .ok (.ireturn, 1) := by decide +kernel
theorem dX7_init_0 : decode cX7_init 0 = .ok (.aload_n 0, 1) := by decide +kernel
theorem dX7_init_1 : decode cX7_init 1 = .ok (.invokespecial 3, 3) := by decide +kernel
theorem dX7_init_4 : decode cX7_init 4 = .ok (.aload_n 0, 1) := by decide +kernel
theorem dX7_init_5 : decode cX7_init 5 = .ok (.sipush 383, 3) := by decide +kernel
theorem dX7_init_8 : decode cX7_init 8 = .ok (.newarray .int, 2) := by decide +kernel
theorem dX7_init_10 : decode cX7_init 10 = .ok (.putfield 9, 3) := by decide +kernel
theorem dX7_init_13 : decode cX7_init 13 = .ok (.aload_n 0, 1) := by decide +kernel
theorem dX7_init_14 : decode cX7_init 14 = .ok (.sipush 383, 3) := by decide +kernel
theorem dX7_init_17 : decode cX7_init 17 = .ok (.newarray .int, 2) := by decide +kernel
theorem dX7_init_19 : decode cX7_init 19 = .ok (.putfield 13, 3) := by decide +kernel
theorem dX7_init_22 : decode cX7_init 22 = .ok (.aload_n 0, 1) := by decide +kernel
theorem dX7_init_23 : decode cX7_init 23 = .ok (.bipush 7, 2) := by decide +kernel
theorem dX7_init_25 : decode cX7_init 25 = .ok (.newarray .int, 2) := by decide +kernel
theorem dX7_init_27 : decode cX7_init 27 = .ok (.putfield 16, 3) := by decide +kernel
theorem dX7_init_30 : decode cX7_init 30 = .ok (.aload_n 0, 1) := by decide +kernel
theorem dX7_init_31 : decode cX7_init 31 = .ok (.iconst 4, 1) := by decide +kernel
theorem dX7_init_32 : decode cX7_init 32 = .ok (.newarray .int, 2) := by decide +kernel
theorem dX7_init_34 : decode cX7_init 34 = .ok (.putfield 19, 3) := by decide +kernel
theorem dX7_init_37 : decode cX7_init 37 = .ok (.aload_n 0, 1) := by decide +kernel
theorem dX7_init_38 : decode cX7_init 38 = .ok (.iconst 4, 1) := by decide +kernel
theorem dX7_init_39 : decode cX7_init 39 = .ok (.newarray .int, 2) := by decide +kernel
theorem dX7_init_41 : decode cX7_init 41 = .ok (.putfield 22, 3) := by decide +kernel
theorem dX7_init_44 : decode cX7_init 44 = .ok (.aload_n 0, 1) := by decide +kernel
theorem dX7_init_45 : decode cX7_init 45 = .ok (.bipush 96, 2) := by decide +kernel
theorem dX7_init_47 : decode cX7_init 47 = .ok (.newarray .int, 2) := by decide +kernel
theorem dX7_init_49 : decode cX7_init 49 = .ok (.putfield 25, 3) := by decide +kernel
theorem dX7_init_52 : decode cX7_init 52 = .ok (.aload_n 0, 1) := by decide +kernel
theorem dX7_init_53 : decode cX7_init 53 = .ok (.bipush 60, 2) := by decide +kernel
theorem dX7_init_55 : decode cX7_init 55 = .ok (.newarray .int, 2) := by decide +kernel
theorem dX7_init_57 : decode cX7_init 57 = .ok (.putfield 28, 3) := by decide +kernel
theorem dX7_init_60 : decode cX7_init 60 = .ok (.aload_n 0, 1) := by decide +kernel
theorem dX7_init_61 : decode cX7_init 61 = .ok (.bipush 60, 2) := by decide +kernel
theorem dX7_init_63 : decode cX7_init 63 = .ok (.newarray .int, 2) := by decide +kernel
theorem dX7_init_65 : decode cX7_init 65 = .ok (.putfield 31, 3) := by decide +kernel
theorem dX7_init_68 : decode cX7_init 68 = .ok (.aload_n 0, 1) := by decide +kernel
theorem dX7_init_69 : decode cX7_init 69 = .ok (.iconst 3, 1) := by decide +kernel
theorem dX7_init_70 : decode cX7_init 70 = .ok (.newarray .int, 2) := by decide +kernel
theorem dX7_init_72 : decode cX7_init 72 = .ok (.putfield 34, 3) := by decide +kernel
theorem dX7_init_75 : decode cX7_init 75 = .ok (.aload_n 0, 1) := by decide +kernel
theorem dX7_init_76 : decode cX7_init 76 = .ok (.bipush 60, 2) := by decide +kernel
theorem dX7_init_78 : decode cX7_init 78 = .ok (.newarray .int, 2) := by decide +kernel
theorem dX7_init_80 : decode cX7_init 80 = .ok (.putfield 37, 3) := by decide +kernel
theorem dX7_init_83 : decode cX7_init 83 = .ok (.aload_n 0, 1) := by decide +kernel
theorem dX7_init_84 : decode cX7_init 84 = .ok (.bipush 10, 2) := by decide +kernel
theorem dX7_init_86 : decode cX7_init 86 = .ok (.newarray .long, 2) := by decide +kernel
theorem dX7_init_88 : decode cX7_init 88 = .ok (.putfield 40, 3) := by decide +kernel
theorem dX7_init_91 : decode cX7_init 91 = .ok (.aload_n 0, 1) := by decide +kernel
theorem dX7_init_92 : decode cX7_init 92 = .ok (.bipush 30, 2) := by decide +kernel
theorem dX7_init_94 : decode cX7_init 94 = .ok (.newarray .int, 2) := by decide +kernel
theorem dX7_init_96 : decode cX7_init 96 = .ok (.putfield 44, 3) := by decide +kernel
theorem dX7_init_99 : decode cX7_init 99 = .ok (.aload_n 0, 1) := by decide +kernel
theorem dX7_init_100 : decode cX7_init 100 = .ok (.getfield 9, 3) := by decide +kernel
theorem dX7_init_103 : decode cX7_init 103 = .ok (.iconst 1, 1) := by decide +kernel
theorem dX7_init_104 : decode cX7_init 104 = .ok (.iconst 1, 1) := by decide +kernel
theorem dX7_init_105 : decode cX7_init 105 = .ok (.iastore, 1) := by decide +kernel
theorem dX7_init_106 : decode cX7_init 106 = .ok (.return_, 1) := by decide +kernel
theorem dX7_error_0 : decode cX7_error 0 = .ok (.aload_n 0, 1) := by decide +kernel
theorem dX7_error_1 : decode cX7_error 1 = .ok (.getfield 16, 3) := by decide +kernel
theorem dX7_error_4 : decode cX7_error 4 = .ok (.ldc 47, 2) := by decide +kernel
theorem dX7_error_6 : decode cX7_error 6 = .ok (.iload_n 1, 1) := by decide +kernel
theorem dX7_error_7 : decode cX7_error 7 = .ok (.isub, 1) := by decide +kernel
theorem dX7_error_8 : decode cX7_error 8 = .ok (.dup2, 1) := by decide +kernel
theorem dX7_error_9 : decode cX7_error 9 = .ok (.iaload, 1) := by decide +kernel
theorem dX7_error_10 : decode cX7_error 10 = .ok (.iconst 1, 1) := by decide +kernel
theorem dX7_error_11 : decode cX7_error 11 = .ok (.iadd, 1) := by decide +kernel
theorem dX7_error_12 : decode cX7_error 12 = .ok (.iastore, 1) := by decide +kernel
theorem dX7_error_13 : decode cX7_error 13 = .ok (.iload_n 1, 1) := by decide +kernel
theorem dX7_error_14 : decode cX7_error 14 = .ok (.ireturn, 1) := by decide +kernel
theorem dX7_in_0 : decode cX7_in 0 = .ok (.iload_n 0, 1) := by decide +kernel
theorem dX7_in_1 : decode cX7_in 1 = .ok (.iload_n 1, 1) := by decide +kernel
theorem dX7_in_2 : decode cX7_in 2 = .ok (.if_icmp .lt 12, 3) := by decide +kernel
theorem dX7_in_5 : decode cX7_in 5 = .ok (.iload_n 0, 1) := by decide +kernel
theorem dX7_in_6 : decode cX7_in 6 = .ok (.iload_n 2, 1) := by decide +kernel
theorem dX7_in_7 : decode cX7_in 7 = .ok (.if_icmp .gt 7, 3) := by decide +kernel
theorem dX7_in_10 : decode cX7_in 10 = .ok (.iconst 1, 1) := by decide +kernel
theorem dX7_in_11 : decode cX7_in 11 = .ok (.goto 4, 3) := by decide +kernel
theorem dX7_in_14 : decode cX7_in 14 = .ok (.iconst 0, 1) := by decide +kernel
theorem dX7_in_15 : decode cX7_in 15 = .ok (.ireturn, 1) := by decide +kernel
theorem dX7_held_0 : decode cX7_held 0 = .ok (.iload_n 0, 1) := by decide +kernel
theorem dX7_held_1 : decode cX7_held 1 = .ok (.iload_n 1, 1) := by decide +kernel
theorem dX7_held_2 : decode cX7_held 2 = .ok (.if_icmp .ge 7, 3) := by decide +kernel
theorem dX7_held_5 : decode cX7_held 5 = .ok (.iload_n 1, 1) := by decide +kernel
theorem dX7_held_6 : decode cX7_held 6 = .ok (.goto 13, 3) := by decide +kernel
theorem dX7_held_9 : decode cX7_held 9 = .ok (.iload_n 0, 1) := by decide +kernel
theorem dX7_held_10 : decode cX7_held 10 = .ok (.iload_n 2, 1) := by decide +kernel
theorem dX7_held_11 : decode cX7_held 11 = .ok (.if_icmp .le 7, 3) := by decide +kernel
theorem dX7_held_14 : decode cX7_held 14 = .ok (.iload_n 2, 1) := by decide +kernel
theorem dX7_held_15 : decode cX7_held 15 = .ok (.goto 4, 3) := by decide +kernel
theorem dX7_held_18 : decode cX7_held 18 = .ok (.iload_n 0, 1) := by decide +kernel
theorem dX7_held_19 : decode cX7_held 19 = .ok (.ireturn, 1) := by decide +kernel
theorem dX7_copyAll_0 : decode cX7_copyAll 0 = .ok (.iconst 0, 1) := by decide +kernel
theorem dX7_copyAll_1 : decode cX7_copyAll 1 = .ok (.istore_n 2, 1) := by decide +kernel
theorem dX7_copyAll_2 : decode cX7_copyAll 2 = .ok (.iload_n 2, 1) := by decide +kernel
theorem dX7_copyAll_3 : decode cX7_copyAll 3 = .ok (.sipush 383, 3) := by decide +kernel
theorem dX7_copyAll_6 : decode cX7_copyAll 6 = .ok (.if_icmp .ge 15, 3) := by decide +kernel
theorem dX7_copyAll_9 : decode cX7_copyAll 9 = .ok (.aload_n 1, 1) := by decide +kernel
theorem dX7_copyAll_10 : decode cX7_copyAll 10 = .ok (.iload_n 2, 1) := by decide +kernel
theorem dX7_copyAll_11 : decode cX7_copyAll 11 = .ok (.aload_n 0, 1) := by decide +kernel
theorem dX7_copyAll_12 : decode cX7_copyAll 12 = .ok (.iload_n 2, 1) := by decide +kernel
theorem dX7_copyAll_13 : decode cX7_copyAll 13 = .ok (.iaload, 1) := by decide +kernel
theorem dX7_copyAll_14 : decode cX7_copyAll 14 = .ok (.iastore, 1) := by decide +kernel
theorem dX7_copyAll_15 : decode cX7_copyAll 15 = .ok (.iinc 2 1, 3) := by decide +kernel
theorem dX7_copyAll_18 : decode cX7_copyAll 18 = .ok (.goto (-16), 3) := by decide +kernel
theorem dX7_copyAll_21 : decode cX7_copyAll 21 = .ok (.return_, 1) := by decide +kernel
theorem dX7_bits_0 : decode cX7_bits 0 = .ok (.iconst 0, 1) := by decide +kernel
theorem dX7_bits_1 : decode cX7_bits 1 = .ok (.istore_n 1, 1) := by decide +kernel
theorem dX7_bits_2 : decode cX7_bits 2 = .ok (.iload_n 0, 1) := by decide +kernel
theorem dX7_bits_3 : decode cX7_bits 3 = .ok (.istore_n 2, 1) := by decide +kernel
theorem dX7_bits_4 : decode cX7_bits 4 = .ok (.iload_n 2, 1) := by decide +kernel
theorem dX7_bits_5 : decode cX7_bits 5 = .ok (.ifCond .eq 15, 3) := by decide +kernel
theorem dX7_bits_8 : decode cX7_bits 8 = .ok (.iinc 1 1, 3) := by decide +kernel
theorem dX7_bits_11 : decode cX7_bits 11 = .ok (.iload_n 2, 1) := by decide +kernel
theorem dX7_bits_12 : decode cX7_bits 12 = .ok (.iload_n 2, 1) := by decide +kernel
theorem dX7_bits_13 : decode cX7_bits 13 = .ok (.iconst 1, 1) := by decide +kernel
theorem dX7_bits_14 : decode cX7_bits 14 = .ok (.isub, 1) := by decide +kernel
theorem dX7_bits_15 : decode cX7_bits 15 = .ok (.iand, 1) := by decide +kernel
theorem dX7_bits_16 : decode cX7_bits 16 = .ok (.istore_n 2, 1) := by decide +kernel
theorem dX7_bits_17 : decode cX7_bits 17 = .ok (.goto (-13), 3) := by decide +kernel
theorem dX7_bits_20 : decode cX7_bits 20 = .ok (.iload_n 1, 1) := by decide +kernel
theorem dX7_bits_21 : decode cX7_bits 21 = .ok (.ireturn, 1) := by decide +kernel
set_option maxRecDepth 20000 in
theorem ggX7_isPiece_X7_in : GoodIn wsX7_isPiece wsX7_in := goodIn_r _ [5] (by decide +kernel) (by decide +kernel)
set_option maxRecDepth 20000 in
theorem gX7_isPiece_X7_in : GoodIn wsX7_isPiece (va_wsS RX7 48 yX7_in wsX7_in) := goodIn_app (goodIn_of _ (by decide +kernel)) ggX7_isPiece_X7_in
theorem dX7_isPiece_0 : decode cX7_isPiece 0 = .ok (.iload_n 1, 1) := by decide +kernel
theorem dX7_isPiece_1 : decode cX7_isPiece 1 = .ok (.iconst 0, 1) := by decide +kernel
theorem dX7_isPiece_2 : decode cX7_isPiece 2 = .ok (.aload_n 0, 1) := by decide +kernel
theorem dX7_isPiece_3 : decode cX7_isPiece 3 = .ok (.getfield 9, 3) := by decide +kernel
theorem dX7_isPiece_6 : decode cX7_isPiece 6 = .ok (.iconst 2, 1) := by decide +kernel
theorem dX7_isPiece_7 : decode cX7_isPiece 7 = .ok (.iaload, 1) := by decide +kernel
theorem dX7_isPiece_8 : decode cX7_isPiece 8 = .ok (.iconst 1, 1) := by decide +kernel
theorem dX7_isPiece_9 : decode cX7_isPiece 9 = .ok (.isub, 1) := by decide +kernel
theorem dX7_isPiece_10 : decode cX7_isPiece 10 = .ok (.invokestatic 48, 3) := by decide +kernel
theorem dX7_isPiece_13 : decode cX7_isPiece 13 = .ok (.ireturn, 1) := by decide +kernel
set_option maxRecDepth 20000 in
theorem ggX7_isPerson_X7_in : GoodIn wsX7_isPerson wsX7_in := goodIn_r _ [5] (by decide +kernel) (by decide +kernel)
set_option maxRecDepth 20000 in
theorem gX7_isPerson_X7_in : GoodIn wsX7_isPerson (va_wsS RX7 48 yX7_in wsX7_in) := goodIn_app (goodIn_of _ (by decide +kernel)) ggX7_isPerson_X7_in
theorem dX7_isPerson_0 : decode cX7_isPerson 0 = .ok (.iload_n 1, 1) := by decide +kernel
theorem dX7_isPerson_1 : decode cX7_isPerson 1 = .ok (.iconst 0, 1) := by decide +kernel
theorem dX7_isPerson_2 : decode cX7_isPerson 2 = .ok (.aload_n 0, 1) := by decide +kernel
theorem dX7_isPerson_3 : decode cX7_isPerson 3 = .ok (.getfield 9, 3) := by decide +kernel
theorem dX7_isPerson_6 : decode cX7_isPerson 6 = .ok (.iconst 3, 1) := by decide +kernel
theorem dX7_isPerson_7 : decode cX7_isPerson 7 = .ok (.iaload, 1) := by decide +kernel
theorem dX7_isPerson_8 : decode cX7_isPerson 8 = .ok (.iconst 1, 1) := by decide +kernel
theorem dX7_isPerson_9 : decode cX7_isPerson 9 = .ok (.isub, 1) := by decide +kernel
theorem dX7_isPerson_10 : decode cX7_isPerson 10 = .ok (.invokestatic 48, 3) := by decide +kernel
theorem dX7_isPerson_13 : decode cX7_isPerson 13 = .ok (.ireturn, 1) := by decide +kernel
theorem dX7_becomes_0 : decode cX7_becomes 0 = .ok (.aload_n 0, 1) := by decide +kernel
theorem dX7_becomes_1 : decode cX7_becomes 1 = .ok (.getfield 9, 3) := by decide +kernel
theorem dX7_becomes_4 : decode cX7_becomes 4 = .ok (.iload_n 1, 1) := by decide +kernel
theorem dX7_becomes_5 : decode cX7_becomes 5 = .ok (.iaload, 1) := by decide +kernel
theorem dX7_becomes_6 : decode cX7_becomes 6 = .ok (.istore_n 3, 1) := by decide +kernel
theorem dX7_becomes_7 : decode cX7_becomes 7 = .ok (.aload_n 0, 1) := by decide +kernel
theorem dX7_becomes_8 : decode cX7_becomes 8 = .ok (.getfield 9, 3) := by decide +kernel
theorem dX7_becomes_11 : decode cX7_becomes 11 = .ok (.iload_n 1, 1) := by decide +kernel
theorem dX7_becomes_12 : decode cX7_becomes 12 = .ok (.iload_n 2, 1) := by decide +kernel
theorem dX7_becomes_13 : decode cX7_becomes 13 = .ok (.iastore, 1) := by decide +kernel
theorem dX7_becomes_14 : decode cX7_becomes 14 = .ok (.iload_n 3, 1) := by decide +kernel
theorem dX7_becomes_15 : decode cX7_becomes 15 = .ok (.ireturn, 1) := by decide +kernel
theorem dX7_of_0 : decode cX7_of 0 = .ok (.aload_n 0, 1) := by decide +kernel
theorem dX7_of_1 : decode cX7_of 1 = .ok (.getfield 9, 3) := by decide +kernel
theorem dX7_of_4 : decode cX7_of 4 = .ok (.bipush 21, 2) := by decide +kernel
theorem dX7_of_6 : decode cX7_of 6 = .ok (.iconst 4, 1) := by decide +kernel
theorem dX7_of_7 : decode cX7_of 7 = .ok (.iload_n 1, 1) := by decide +kernel
theorem dX7_of_8 : decode cX7_of 8 = .ok (.imul, 1) := by decide +kernel
theorem dX7_of_9 : decode cX7_of 9 = .ok (.iadd, 1) := by decide +kernel
theorem dX7_of_10 : decode cX7_of 10 = .ok (.iload_n 2, 1) := by decide +kernel
theorem dX7_of_11 : decode cX7_of 11 = .ok (.iadd, 1) := by decide +kernel
theorem dX7_of_12 : decode cX7_of 12 = .ok (.iaload, 1) := by decide +kernel
theorem dX7_of_13 : decode cX7_of 13 = .ok (.ireturn, 1) := by decide +kernel
theorem dX7_about_0 : decode cX7_about 0 = .ok (.aload_n 0, 1) := by decide +kernel
theorem dX7_about_1 : decode cX7_about 1 = .ok (.getfield 9, 3) := by decide +kernel
theorem dX7_about_4 : decode cX7_about 4 = .ok (.bipush 6, 2) := by decide +kernel
theorem dX7_about_6 : decode cX7_about 6 = .ok (.iconst 3, 1) := by decide +kernel
theorem dX7_about_7 : decode cX7_about 7 = .ok (.iload_n 1, 1) := by decide +kernel
theorem dX7_about_8 : decode cX7_about 8 = .ok (.imul, 1) := by decide +kernel
theorem dX7_about_9 : decode cX7_about 9 = .ok (.iadd, 1) := by decide +kernel
theorem dX7_about_10 : decode cX7_about 10 = .ok (.iload_n 2, 1) := by decide +kernel
theorem dX7_about_11 : decode cX7_about 11 = .ok (.iadd, 1) := by decide +kernel
theorem dX7_about_12 : decode cX7_about 12 = .ok (.iaload, 1) := by decide +kernel
theorem dX7_about_13 : decode cX7_about 13 = .ok (.ireturn, 1) := by decide +kernel
theorem dX7_lets_0 : decode cX7_lets 0 = .ok (.aload_n 0, 1) := by decide +kernel
theorem dX7_lets_1 : decode cX7_lets 1 = .ok (.getfield 9, 3) := by decide +kernel
theorem dX7_lets_4 : decode cX7_lets 4 = .ok (.bipush 21, 2) := by decide +kernel
theorem dX7_lets_6 : decode cX7_lets 6 = .ok (.iconst 4, 1) := by decide +kernel
theorem dX7_lets_7 : decode cX7_lets 7 = .ok (.iload_n 1, 1) := by decide +kernel
theorem dX7_lets_8 : decode cX7_lets 8 = .ok (.imul, 1) := by decide +kernel
theorem dX7_lets_9 : decode cX7_lets 9 = .ok (.iadd, 1) := by decide +kernel
theorem dX7_lets_10 : decode cX7_lets 10 = .ok (.iload_n 2, 1) := by decide +kernel
theorem dX7_lets_11 : decode cX7_lets 11 = .ok (.iadd, 1) := by decide +kernel
theorem dX7_lets_12 : decode cX7_lets 12 = .ok (.iload_n 3, 1) := by decide +kernel
theorem dX7_lets_13 : decode cX7_lets 13 = .ok (.iastore, 1) := by decide +kernel
theorem dX7_lets_14 : decode cX7_lets 14 = .ok (.return_, 1) := by decide +kernel
set_option maxRecDepth 20000 in
theorem ggX7_shards_X7_of : GoodIn wsX7_shards wsX7_of := goodIn_r _ [6, 1, 7, 8, 9, 10, 11, 12, 13, 14, 15, 16, 17, 18, 19, 20, 21, 22, 23, 24, 25, 26, 27] (by decide +kernel) (by decide +kernel)
set_option maxRecDepth 20000 in
theorem gX7_shards_X7_of : GoodIn wsX7_shards (wsV RX7 52 RX7 yX7_of wsX7_of) := goodIn_app (goodIn_of _ (by decide +kernel)) ggX7_shards_X7_of
theorem dX7_shards_0 : decode cX7_shards 0 = .ok (.iconst 0, 1) := by decide +kernel
theorem dX7_shards_1 : decode cX7_shards 1 = .ok (.istore_n 1, 1) := by decide +kernel
theorem dX7_shards_2 : decode cX7_shards 2 = .ok (.iconst 0, 1) := by decide +kernel
theorem dX7_shards_3 : decode cX7_shards 3 = .ok (.istore_n 2, 1) := by decide +kernel
theorem dX7_shards_4 : decode cX7_shards 4 = .ok (.iload_n 2, 1) := by decide +kernel
theorem dX7_shards_5 : decode cX7_shards 5 = .ok (.aload_n 0, 1) := by decide +kernel
theorem dX7_shards_6 : decode cX7_shards 6 = .ok (.getfield 9, 3) := by decide +kernel
theorem dX7_shards_9 : decode cX7_shards 9 = .ok (.iconst 2, 1) := by decide +kernel
theorem dX7_shards_10 : decode cX7_shards 10 = .ok (.iaload, 1) := by decide +kernel
theorem dX7_shards_11 : decode cX7_shards 11 = .ok (.if_icmp .ge 27, 3) := by decide +kernel
theorem dX7_shards_14 : decode cX7_shards 14 = .ok (.iload_n 1, 1) := by decide +kernel
theorem dX7_shards_15 : decode cX7_shards 15 = .ok (.aload_n 0, 1) := by decide +kernel
theorem dX7_shards_16 : decode cX7_shards 16 = .ok (.iload_n 2, 1) := by decide +kernel
theorem dX7_shards_17 : decode cX7_shards 17 = .ok (.iconst 3, 1) := by decide +kernel
theorem dX7_shards_18 : decode cX7_shards 18 = .ok (.invokevirtual 52, 3) := by decide +kernel
theorem dX7_shards_21 : decode cX7_shards 21 = .ok (.iconst 1, 1) := by decide +kernel
theorem dX7_shards_22 : decode cX7_shards 22 = .ok (.if_icmp .ne 7, 3) := by decide +kernel
theorem dX7_shards_25 : decode cX7_shards 25 = .ok (.iconst 1, 1) := by decide +kernel
theorem dX7_shards_26 : decode cX7_shards 26 = .ok (.goto 4, 3) := by decide +kernel
theorem dX7_shards_29 : decode cX7_shards 29 = .ok (.iconst 0, 1) := by decide +kernel
theorem dX7_shards_30 : decode cX7_shards 30 = .ok (.iadd, 1) := by decide +kernel
theorem dX7_shards_31 : decode cX7_shards 31 = .ok (.istore_n 1, 1) := by decide +kernel
theorem dX7_shards_32 : decode cX7_shards 32 = .ok (.iinc 2 1, 3) := by decide +kernel
theorem dX7_shards_35 : decode cX7_shards 35 = .ok (.goto (-31), 3) := by decide +kernel
theorem dX7_shards_38 : decode cX7_shards 38 = .ok (.iload_n 1, 1) := by decide +kernel
theorem dX7_shards_39 : decode cX7_shards 39 = .ok (.ireturn, 1) := by decide +kernel
set_option maxRecDepth 20000 in
theorem ggX7_slipsOf_X7_of : GoodIn wsX7_slipsOf wsX7_of := goodIn_r _ [6, 1, 11, 12, 13, 14, 15, 16, 17, 18, 19, 20, 21, 22, 23, 24, 25, 26, 27, 28, 29, 30, 31] (by decide +kernel) (by decide +kernel)
set_option maxRecDepth 20000 in
theorem gX7_slipsOf_X7_of : GoodIn wsX7_slipsOf (wsV RX7 52 RX7 yX7_of wsX7_of) := goodIn_app (goodIn_of _ (by decide +kernel)) ggX7_slipsOf_X7_of
set_option maxRecDepth 20000 in
theorem ggX7_slipsOf_X7_shards : GoodIn wsX7_slipsOf wsX7_shards := goodIn_r _ [10, 1, 2, 3, 4, 5, 6, 11, 12, 13, 14, 15, 16, 17, 18, 19, 20, 21, 22, 23, 24, 25, 26, 27, 28, 29, 30, 31] (by decide +kernel) (by decide +kernel)
set_option maxRecDepth 20000 in
theorem gX7_slipsOf_X7_shards : GoodIn wsX7_slipsOf (wsV RX7 56 RX7 yX7_shards wsX7_shards) := goodIn_app (goodIn_of _ (by decide +kernel)) ggX7_slipsOf_X7_shards
theorem dX7_slipsOf_0 : decode cX7_slipsOf 0 = .ok (.aload_n 0, 1) := by decide +kernel
theorem dX7_slipsOf_1 : decode cX7_slipsOf 1 = .ok (.iload_n 1, 1) := by decide +kernel
theorem dX7_slipsOf_2 : decode cX7_slipsOf 2 = .ok (.iconst 1, 1) := by decide +kernel
theorem dX7_slipsOf_3 : decode cX7_slipsOf 3 = .ok (.invokevirtual 52, 3) := by decide +kernel
theorem dX7_slipsOf_6 : decode cX7_slipsOf 6 = .ok (.istore_n 3, 1) := by decide +kernel
theorem dX7_slipsOf_7 : decode cX7_slipsOf 7 = .ok (.bipush 10, 2) := by decide +kernel
theorem dX7_slipsOf_9 : decode cX7_slipsOf 9 = .ok (.iload_n 2, 1) := by decide +kernel
theorem dX7_slipsOf_10 : decode cX7_slipsOf 10 = .ok (.isub, 1) := by decide +kernel
theorem dX7_slipsOf_11 : decode cX7_slipsOf 11 = .ok (.iload_n 3, 1) := by decide +kernel
theorem dX7_slipsOf_12 : decode cX7_slipsOf 12 = .ok (.iadd, 1) := by decide +kernel
theorem dX7_slipsOf_13 : decode cX7_slipsOf 13 = .ok (.istore 4, 2) := by decide +kernel
theorem dX7_slipsOf_15 : decode cX7_slipsOf 15 = .ok (.aload_n 0, 1) := by decide +kernel
theorem dX7_slipsOf_16 : decode cX7_slipsOf 16 = .ok (.iload_n 1, 1) := by decide +kernel
theorem dX7_slipsOf_17 : decode cX7_slipsOf 17 = .ok (.iconst 0, 1) := by decide +kernel
theorem dX7_slipsOf_18 : decode cX7_slipsOf 18 = .ok (.invokevirtual 52, 3) := by decide +kernel
theorem dX7_slipsOf_21 : decode cX7_slipsOf 21 = .ok (.tableswitch 91 1 6 #[39, 44, 49, 54, 68, 78], 39) := by decide +kernel
theorem dX7_slipsOf_60 : decode cX7_slipsOf 60 = .ok (.iload 4, 2) := by decide +kernel
theorem dX7_slipsOf_62 : decode cX7_slipsOf 62 = .ok (.iconst 3, 1) := by decide +kernel
theorem dX7_slipsOf_63 : decode cX7_slipsOf 63 = .ok (.iadd, 1) := by decide +kernel
theorem dX7_slipsOf_64 : decode cX7_slipsOf 64 = .ok (.ireturn, 1) := by decide +kernel
theorem dX7_slipsOf_65 : decode cX7_slipsOf 65 = .ok (.iload 4, 2) := by decide +kernel
theorem dX7_slipsOf_67 : decode cX7_slipsOf 67 = .ok (.iconst 2, 1) := by decide +kernel
theorem dX7_slipsOf_68 : decode cX7_slipsOf 68 = .ok (.idiv, 1) := by decide +kernel
theorem dX7_slipsOf_69 : decode cX7_slipsOf 69 = .ok (.ireturn, 1) := by decide +kernel
theorem dX7_slipsOf_70 : decode cX7_slipsOf 70 = .ok (.iload 4, 2) := by decide +kernel
theorem dX7_slipsOf_72 : decode cX7_slipsOf 72 = .ok (.iload_n 3, 1) := by decide +kernel
theorem dX7_slipsOf_73 : decode cX7_slipsOf 73 = .ok (.isub, 1) := by decide +kernel
theorem dX7_slipsOf_74 : decode cX7_slipsOf 74 = .ok (.ireturn, 1) := by decide +kernel
theorem dX7_slipsOf_75 : decode cX7_slipsOf 75 = .ok (.iload 4, 2) := by decide +kernel
theorem dX7_slipsOf_77 : decode cX7_slipsOf 77 = .ok (.iconst 3, 1) := by decide +kernel
theorem dX7_slipsOf_78 : decode cX7_slipsOf 78 = .ok (.iadd, 1) := by decide +kernel
theorem dX7_slipsOf_79 : decode cX7_slipsOf 79 = .ok (.aload_n 0, 1) := by decide +kernel
theorem dX7_slipsOf_80 : decode cX7_slipsOf 80 = .ok (.getfield 9, 3) := by decide +kernel
theorem dX7_slipsOf_83 : decode cX7_slipsOf 83 = .ok (.iconst 0, 1) := by decide +kernel
theorem dX7_slipsOf_84 : decode cX7_slipsOf 84 = .ok (.iaload, 1) := by decide +kernel
theorem dX7_slipsOf_85 : decode cX7_slipsOf 85 = .ok (.iconst 3, 1) := by decide +kernel
theorem dX7_slipsOf_86 : decode cX7_slipsOf 86 = .ok (.irem, 1) := by decide +kernel
theorem dX7_slipsOf_87 : decode cX7_slipsOf 87 = .ok (.iadd, 1) := by decide +kernel
theorem dX7_slipsOf_88 : decode cX7_slipsOf 88 = .ok (.ireturn, 1) := by decide +kernel
theorem dX7_slipsOf_89 : decode cX7_slipsOf 89 = .ok (.iload 4, 2) := by decide +kernel
theorem dX7_slipsOf_91 : decode cX7_slipsOf 91 = .ok (.iconst 2, 1) := by decide +kernel
theorem dX7_slipsOf_92 : decode cX7_slipsOf 92 = .ok (.idiv, 1) := by decide +kernel
theorem dX7_slipsOf_93 : decode cX7_slipsOf 93 = .ok (.aload_n 0, 1) := by decide +kernel
theorem dX7_slipsOf_94 : decode cX7_slipsOf 94 = .ok (.invokevirtual 56, 3) := by decide +kernel
theorem dX7_slipsOf_97 : decode cX7_slipsOf 97 = .ok (.iadd, 1) := by decide +kernel
theorem dX7_slipsOf_98 : decode cX7_slipsOf 98 = .ok (.ireturn, 1) := by decide +kernel
theorem dX7_slipsOf_99 : decode cX7_slipsOf 99 = .ok (.iload_n 2, 1) := by decide +kernel
theorem dX7_slipsOf_100 : decode cX7_slipsOf 100 = .ok (.bipush 6, 2) := by decide +kernel
theorem dX7_slipsOf_102 : decode cX7_slipsOf 102 = .ok (.if_icmp .le 7, 3) := by decide +kernel
theorem dX7_slipsOf_105 : decode cX7_slipsOf 105 = .ok (.iconst 0, 1) := by decide +kernel
theorem dX7_slipsOf_106 : decode cX7_slipsOf 106 = .ok (.goto 5, 3) := by decide +kernel
theorem dX7_slipsOf_109 : decode cX7_slipsOf 109 = .ok (.iload 4, 2) := by decide +kernel
theorem dX7_slipsOf_111 : decode cX7_slipsOf 111 = .ok (.ireturn, 1) := by decide +kernel
theorem dX7_slipsOf_112 : decode cX7_slipsOf 112 = .ok (.iload 4, 2) := by decide +kernel
theorem dX7_slipsOf_114 : decode cX7_slipsOf 114 = .ok (.ireturn, 1) := by decide +kernel
set_option maxRecDepth 20000 in
theorem ggX7_riskBy_X7_slipsOf : GoodIn wsX7_riskBy wsX7_slipsOf := goodIn_r _ [6, 1, 7, 8, 9, 5, 10, 11, 12, 13, 14, 31, 32, 33, 34, 35, 36, 37, 38, 39, 40, 41, 42, 43, 44, 45, 46, 47, 48, 49, 50, 51] (by decide +kernel) (by decide +kernel)
set_option maxRecDepth 20000 in
theorem gX7_riskBy_X7_slipsOf : GoodIn wsX7_riskBy (wsV RX7 60 RX7 yX7_slipsOf wsX7_slipsOf) := goodIn_app (goodIn_of _ (by decide +kernel)) ggX7_riskBy_X7_slipsOf
set_option maxRecDepth 20000 in
theorem ggX7_riskBy_X7_gives : GoodIn wsX7_riskBy wsX7_gives := goodIn_r _ [18, 19, 1, 20, 21, 22, 5, 23, 24, 25, 26, 27, 28, 29, 30, 31, 32, 33, 34, 35, 36, 37, 38, 39, 40, 41, 42, 43, 44, 45, 46, 47, 48, 49, 50, 51] (by decide +kernel) (by decide +kernel)
set_option maxRecDepth 20000 in
theorem gX7_riskBy_X7_gives : GoodIn wsX7_riskBy (wsV RX7 63 RX7 yX7_gives wsX7_gives) := goodIn_app (goodIn_of _ (by decide +kernel)) ggX7_riskBy_X7_gives
theorem dX7_riskBy_0 : decode cX7_riskBy 0 = .ok (.aload_n 0, 1) := by decide +kernel
theorem dX7_riskBy_1 : decode cX7_riskBy 1 = .ok (.iconst 0, 1) := by decide +kernel
theorem dX7_riskBy_2 : decode cX7_riskBy 2 = .ok (.aload_n 0, 1) := by decide +kernel
theorem dX7_riskBy_3 : decode cX7_riskBy 3 = .ok (.iload_n 1, 1) := by decide +kernel
theorem dX7_riskBy_4 : decode cX7_riskBy 4 = .ok (.iload_n 2, 1) := by decide +kernel
theorem dX7_riskBy_5 : decode cX7_riskBy 5 = .ok (.invokevirtual 60, 3) := by decide +kernel
theorem dX7_riskBy_8 : decode cX7_riskBy 8 = .ok (.iload_n 2, 1) := by decide +kernel
theorem dX7_riskBy_9 : decode cX7_riskBy 9 = .ok (.aload_n 0, 1) := by decide +kernel
theorem dX7_riskBy_10 : decode cX7_riskBy 10 = .ok (.getfield 9, 3) := by decide +kernel
theorem dX7_riskBy_13 : decode cX7_riskBy 13 = .ok (.iconst 0, 1) := by decide +kernel
theorem dX7_riskBy_14 : decode cX7_riskBy 14 = .ok (.iaload, 1) := by decide +kernel
theorem dX7_riskBy_15 : decode cX7_riskBy 15 = .ok (.bipush 7, 2) := by decide +kernel
theorem dX7_riskBy_17 : decode cX7_riskBy 17 = .ok (.irem, 1) := by decide +kernel
theorem dX7_riskBy_18 : decode cX7_riskBy 18 = .ok (.invokevirtual 63, 3) := by decide +kernel
theorem dX7_riskBy_21 : decode cX7_riskBy 21 = .ok (.ireturn, 1) := by decide +kernel
set_option maxRecDepth 20000 in
theorem ggX7_riskOf_X7_about : GoodIn wsX7_riskOf wsX7_about := goodIn_r _ [5, 6, 39, 40, 41, 42, 43, 44, 45, 46, 47, 48, 49, 50, 51, 52, 53, 54, 55, 56, 57, 58, 59] (by decide +kernel) (by decide +kernel)
set_option maxRecDepth 20000 in
theorem gX7_riskOf_X7_about : GoodIn wsX7_riskOf (wsV RX7 67 RX7 yX7_about wsX7_about) := goodIn_app (goodIn_of _ (by decide +kernel)) ggX7_riskOf_X7_about
set_option maxRecDepth 20000 in
theorem ggX7_riskOf_X7_riskBy : GoodIn wsX7_riskOf wsX7_riskBy := goodIn_r _ [10, 6, 11, 12, 13, 4, 14, 15, 16, 17, 18, 19, 20, 21, 22, 23, 24, 25, 26, 27, 28, 29, 30, 31, 32, 33, 34, 35, 36, 37, 38, 39, 40, 41, 42, 43, 44, 45, 46, 47, 48, 49, 50, 51, 52, 53, 54, 55, 56, 57, 58, 59] (by decide +kernel) (by decide +kernel)
set_option maxRecDepth 20000 in
theorem gX7_riskOf_X7_riskBy : GoodIn wsX7_riskOf (wsV RX7 70 RX7 yX7_riskBy wsX7_riskBy) := goodIn_app (goodIn_of _ (by decide +kernel)) ggX7_riskOf_X7_riskBy
theorem dX7_riskOf_0 : decode cX7_riskOf 0 = .ok (.aload_n 0, 1) := by decide +kernel
theorem dX7_riskOf_1 : decode cX7_riskOf 1 = .ok (.iload_n 1, 1) := by decide +kernel
theorem dX7_riskOf_2 : decode cX7_riskOf 2 = .ok (.aload_n 0, 1) := by decide +kernel
theorem dX7_riskOf_3 : decode cX7_riskOf 3 = .ok (.iload_n 2, 1) := by decide +kernel
theorem dX7_riskOf_4 : decode cX7_riskOf 4 = .ok (.iconst 0, 1) := by decide +kernel
theorem dX7_riskOf_5 : decode cX7_riskOf 5 = .ok (.invokevirtual 67, 3) := by decide +kernel
theorem dX7_riskOf_8 : decode cX7_riskOf 8 = .ok (.invokevirtual 70, 3) := by decide +kernel
theorem dX7_riskOf_11 : decode cX7_riskOf 11 = .ok (.ireturn, 1) := by decide +kernel
set_option maxRecDepth 20000 in
theorem ggX7_doesCountOn_X7_of : GoodIn wsX7_doesCountOn wsX7_of := goodIn_r _ [5, 6, 11, 12, 13, 14, 15, 16, 17, 18, 19, 20, 21, 22, 23, 24, 25, 26, 27, 28, 29, 30, 31] (by decide +kernel) (by decide +kernel)
set_option maxRecDepth 20000 in
theorem gX7_doesCountOn_X7_of : GoodIn wsX7_doesCountOn (wsV RX7 52 RX7 yX7_of wsX7_of) := goodIn_app (goodIn_of _ (by decide +kernel)) ggX7_doesCountOn_X7_of
set_option maxRecDepth 20000 in
theorem ggX7_doesCountOn_X7_shards : GoodIn wsX7_doesCountOn wsX7_shards := goodIn_r _ [10, 6, 1, 2, 3, 4, 5, 11, 12, 13, 14, 15, 16, 17, 18, 19, 20, 21, 22, 23, 24, 25, 26, 27, 28, 29, 30, 31] (by decide +kernel) (by decide +kernel)
set_option maxRecDepth 20000 in
theorem gX7_doesCountOn_X7_shards : GoodIn wsX7_doesCountOn (wsV RX7 56 RX7 yX7_shards wsX7_shards) := goodIn_app (goodIn_of _ (by decide +kernel)) ggX7_doesCountOn_X7_shards
theorem dX7_doesCountOn_0 : decode cX7_doesCountOn 0 = .ok (.aload_n 0, 1) := by decide +kernel
theorem dX7_doesCountOn_1 : decode cX7_doesCountOn 1 = .ok (.iload_n 1, 1) := by decide +kernel
theorem dX7_doesCountOn_2 : decode cX7_doesCountOn 2 = .ok (.iconst 1, 1) := by decide +kernel
theorem dX7_doesCountOn_3 : decode cX7_doesCountOn 3 = .ok (.invokevirtual 52, 3) := by decide +kernel
theorem dX7_doesCountOn_6 : decode cX7_doesCountOn 6 = .ok (.istore_n 3, 1) := by decide +kernel
theorem dX7_doesCountOn_7 : decode cX7_doesCountOn 7 = .ok (.aload_n 0, 1) := by decide +kernel
theorem dX7_doesCountOn_8 : decode cX7_doesCountOn 8 = .ok (.iload_n 1, 1) := by decide +kernel
theorem dX7_doesCountOn_9 : decode cX7_doesCountOn 9 = .ok (.iconst 0, 1) := by decide +kernel
theorem dX7_doesCountOn_10 : decode cX7_doesCountOn 10 = .ok (.invokevirtual 52, 3) := by decide +kernel
theorem dX7_doesCountOn_13 : decode cX7_doesCountOn 13 = .ok (.tableswitch 102 2 6 #[35, 52, 64, 77, 100], 35) := by decide +kernel
theorem dX7_doesCountOn_48 : decode cX7_doesCountOn 48 = .ok (.iload_n 2, 1) := by decide +kernel
theorem dX7_doesCountOn_49 : decode cX7_doesCountOn 49 = .ok (.iconst 2, 1) := by decide +kernel
theorem dX7_doesCountOn_50 : decode cX7_doesCountOn 50 = .ok (.irem, 1) := by decide +kernel
theorem dX7_doesCountOn_51 : decode cX7_doesCountOn 51 = .ok (.ifCond .eq 8, 3) := by decide +kernel
theorem dX7_doesCountOn_54 : decode cX7_doesCountOn 54 = .ok (.iload_n 3, 1) := by decide +kernel
theorem dX7_doesCountOn_55 : decode cX7_doesCountOn 55 = .ok (.iconst 4, 1) := by decide +kernel
theorem dX7_doesCountOn_56 : decode cX7_doesCountOn 56 = .ok (.if_icmp .le 7, 3) := by decide +kernel
theorem dX7_doesCountOn_59 : decode cX7_doesCountOn 59 = .ok (.iconst 1, 1) := by decide +kernel
theorem dX7_doesCountOn_60 : decode cX7_doesCountOn 60 = .ok (.goto 4, 3) := by decide +kernel
theorem dX7_doesCountOn_63 : decode cX7_doesCountOn 63 = .ok (.iconst 0, 1) := by decide +kernel
theorem dX7_doesCountOn_64 : decode cX7_doesCountOn 64 = .ok (.ireturn, 1) := by decide +kernel
theorem dX7_doesCountOn_65 : decode cX7_doesCountOn 65 = .ok (.iload_n 3, 1) := by decide +kernel
theorem dX7_doesCountOn_66 : decode cX7_doesCountOn 66 = .ok (.bipush 8, 2) := by decide +kernel
theorem dX7_doesCountOn_68 : decode cX7_doesCountOn 68 = .ok (.if_icmp .ge 7, 3) := by decide +kernel
theorem dX7_doesCountOn_71 : decode cX7_doesCountOn 71 = .ok (.iconst 1, 1) := by decide +kernel
theorem dX7_doesCountOn_72 : decode cX7_doesCountOn 72 = .ok (.goto 4, 3) := by decide +kernel
theorem dX7_doesCountOn_75 : decode cX7_doesCountOn 75 = .ok (.iconst 0, 1) := by decide +kernel
theorem dX7_doesCountOn_76 : decode cX7_doesCountOn 76 = .ok (.ireturn, 1) := by decide +kernel
theorem dX7_doesCountOn_77 : decode cX7_doesCountOn 77 = .ok (.aload_n 0, 1) := by decide +kernel
theorem dX7_doesCountOn_78 : decode cX7_doesCountOn 78 = .ok (.invokevirtual 56, 3) := by decide +kernel
theorem dX7_doesCountOn_81 : decode cX7_doesCountOn 81 = .ok (.ifCond .le 7, 3) := by decide +kernel
theorem dX7_doesCountOn_84 : decode cX7_doesCountOn 84 = .ok (.iconst 1, 1) := by decide +kernel
theorem dX7_doesCountOn_85 : decode cX7_doesCountOn 85 = .ok (.goto 4, 3) := by decide +kernel
theorem dX7_doesCountOn_88 : decode cX7_doesCountOn 88 = .ok (.iconst 0, 1) := by decide +kernel
theorem dX7_doesCountOn_89 : decode cX7_doesCountOn 89 = .ok (.ireturn, 1) := by decide +kernel
theorem dX7_doesCountOn_90 : decode cX7_doesCountOn 90 = .ok (.iload_n 2, 1) := by decide +kernel
theorem dX7_doesCountOn_91 : decode cX7_doesCountOn 91 = .ok (.iconst 2, 1) := by decide +kernel
theorem dX7_doesCountOn_92 : decode cX7_doesCountOn 92 = .ok (.irem, 1) := by decide +kernel
theorem dX7_doesCountOn_93 : decode cX7_doesCountOn 93 = .ok (.ifCond .eq 14, 3) := by decide +kernel
theorem dX7_doesCountOn_96 : decode cX7_doesCountOn 96 = .ok (.iload_n 3, 1) := by decide +kernel
theorem dX7_doesCountOn_97 : decode cX7_doesCountOn 97 = .ok (.iconst 4, 1) := by decide +kernel
theorem dX7_doesCountOn_98 : decode cX7_doesCountOn 98 = .ok (.if_icmp .gt 9, 3) := by decide +kernel
theorem dX7_doesCountOn_101 : decode cX7_doesCountOn 101 = .ok (.iload_n 2, 1) := by decide +kernel
theorem dX7_doesCountOn_102 : decode cX7_doesCountOn 102 = .ok (.bipush 100, 2) := by decide +kernel
theorem dX7_doesCountOn_104 : decode cX7_doesCountOn 104 = .ok (.if_icmp .le 7, 3) := by decide +kernel
theorem dX7_doesCountOn_107 : decode cX7_doesCountOn 107 = .ok (.iconst 1, 1) := by decide +kernel
theorem dX7_doesCountOn_108 : decode cX7_doesCountOn 108 = .ok (.goto 4, 3) := by decide +kernel
theorem dX7_doesCountOn_111 : decode cX7_doesCountOn 111 = .ok (.iconst 0, 1) := by decide +kernel
theorem dX7_doesCountOn_112 : decode cX7_doesCountOn 112 = .ok (.ireturn, 1) := by decide +kernel
theorem dX7_doesCountOn_113 : decode cX7_doesCountOn 113 = .ok (.iconst 0, 1) := by decide +kernel
theorem dX7_doesCountOn_114 : decode cX7_doesCountOn 114 = .ok (.ireturn, 1) := by decide +kernel
theorem dX7_doesCountOn_115 : decode cX7_doesCountOn 115 = .ok (.iconst 1, 1) := by decide +kernel
theorem dX7_doesCountOn_116 : decode cX7_doesCountOn 116 = .ok (.ireturn, 1) := by decide +kernel
set_option maxRecDepth 20000 in
theorem ggX7_doesCount_X7_doesCountOn : GoodIn wsX7_doesCount wsX7_doesCountOn := goodIn_r _ [6, 7, 8, 9, 5, 10, 1, 11, 12, 13, 14, 15, 16, 17, 18, 19, 20, 21, 22, 23, 24, 25, 26, 27, 28, 29, 30, 31, 32, 33, 34, 35] (by decide +kernel) (by decide +kernel)
set_option maxRecDepth 20000 in
theorem gX7_doesCount_X7_doesCountOn : GoodIn wsX7_doesCount (wsV RX7 73 RX7 yX7_doesCountOn wsX7_doesCountOn) := goodIn_app (goodIn_of _ (by decide +kernel)) ggX7_doesCount_X7_doesCountOn
theorem dX7_doesCount_0 : decode cX7_doesCount 0 = .ok (.aload_n 0, 1) := by decide +kernel
theorem dX7_doesCount_1 : decode cX7_doesCount 1 = .ok (.iload_n 1, 1) := by decide +kernel
theorem dX7_doesCount_2 : decode cX7_doesCount 2 = .ok (.aload_n 0, 1) := by decide +kernel
theorem dX7_doesCount_3 : decode cX7_doesCount 3 = .ok (.getfield 9, 3) := by decide +kernel
theorem dX7_doesCount_6 : decode cX7_doesCount 6 = .ok (.iconst 0, 1) := by decide +kernel
theorem dX7_doesCount_7 : decode cX7_doesCount 7 = .ok (.iaload, 1) := by decide +kernel
theorem dX7_doesCount_8 : decode cX7_doesCount 8 = .ok (.invokevirtual 73, 3) := by decide +kernel
theorem dX7_doesCount_11 : decode cX7_doesCount 11 = .ok (.ireturn, 1) := by decide +kernel
set_option maxRecDepth 20000 in
theorem ggX7_dueOf_X7_about : GoodIn wsX7_dueOf wsX7_about := goodIn_r _ [5, 6, 7, 8, 9, 10, 11, 12, 13, 14, 15, 16, 17, 18, 19, 20, 21, 22, 23, 24, 25, 26, 27] (by decide +kernel) (by decide +kernel)
set_option maxRecDepth 20000 in
theorem gX7_dueOf_X7_about : GoodIn wsX7_dueOf (wsV RX7 67 RX7 yX7_about wsX7_about) := goodIn_app (goodIn_of _ (by decide +kernel)) ggX7_dueOf_X7_about
theorem dX7_dueOf_0 : decode cX7_dueOf 0 = .ok (.aload_n 0, 1) := by decide +kernel
theorem dX7_dueOf_1 : decode cX7_dueOf 1 = .ok (.iload_n 1, 1) := by decide +kernel
theorem dX7_dueOf_2 : decode cX7_dueOf 2 = .ok (.iconst 1, 1) := by decide +kernel
theorem dX7_dueOf_3 : decode cX7_dueOf 3 = .ok (.invokevirtual 67, 3) := by decide +kernel
theorem dX7_dueOf_6 : decode cX7_dueOf 6 = .ok (.aload_n 0, 1) := by decide +kernel
theorem dX7_dueOf_7 : decode cX7_dueOf 7 = .ok (.iload_n 1, 1) := by decide +kernel
theorem dX7_dueOf_8 : decode cX7_dueOf 8 = .ok (.iconst 2, 1) := by decide +kernel
theorem dX7_dueOf_9 : decode cX7_dueOf 9 = .ok (.invokevirtual 67, 3) := by decide +kernel
theorem dX7_dueOf_12 : decode cX7_dueOf 12 = .ok (.isub, 1) := by decide +kernel
theorem dX7_dueOf_13 : decode cX7_dueOf 13 = .ok (.istore_n 2, 1) := by decide +kernel
theorem dX7_dueOf_14 : decode cX7_dueOf 14 = .ok (.iload_n 2, 1) := by decide +kernel
theorem dX7_dueOf_15 : decode cX7_dueOf 15 = .ok (.ifCond .ge 7, 3) := by decide +kernel
theorem dX7_dueOf_18 : decode cX7_dueOf 18 = .ok (.iconst 0, 1) := by decide +kernel
theorem dX7_dueOf_19 : decode cX7_dueOf 19 = .ok (.goto 4, 3) := by decide +kernel
theorem dX7_dueOf_22 : decode cX7_dueOf 22 = .ok (.iload_n 2, 1) := by decide +kernel
theorem dX7_dueOf_23 : decode cX7_dueOf 23 = .ok (.ireturn, 1) := by decide +kernel
set_option maxRecDepth 20000 in
theorem ggX7_isThrough_X7_about : GoodIn wsX7_isThrough wsX7_about := goodIn_r _ [5, 6, 7, 8, 9, 10, 11, 12, 13, 14, 15, 16, 17, 18, 19, 20, 21, 22, 23, 24, 25, 26, 27] (by decide +kernel) (by decide +kernel)
set_option maxRecDepth 20000 in
theorem gX7_isThrough_X7_about : GoodIn wsX7_isThrough (wsV RX7 67 RX7 yX7_about wsX7_about) := goodIn_app (goodIn_of _ (by decide +kernel)) ggX7_isThrough_X7_about
theorem dX7_isThrough_0 : decode cX7_isThrough 0 = .ok (.aload_n 0, 1) := by decide +kernel
theorem dX7_isThrough_1 : decode cX7_isThrough 1 = .ok (.iload_n 1, 1) := by decide +kernel
theorem dX7_isThrough_2 : decode cX7_isThrough 2 = .ok (.iconst 2, 1) := by decide +kernel
theorem dX7_isThrough_3 : decode cX7_isThrough 3 = .ok (.invokevirtual 67, 3) := by decide +kernel
theorem dX7_isThrough_6 : decode cX7_isThrough 6 = .ok (.aload_n 0, 1) := by decide +kernel
theorem dX7_isThrough_7 : decode cX7_isThrough 7 = .ok (.iload_n 1, 1) := by decide +kernel
theorem dX7_isThrough_8 : decode cX7_isThrough 8 = .ok (.iconst 1, 1) := by decide +kernel
theorem dX7_isThrough_9 : decode cX7_isThrough 9 = .ok (.invokevirtual 67, 3) := by decide +kernel
theorem dX7_isThrough_12 : decode cX7_isThrough 12 = .ok (.if_icmp .lt 7, 3) := by decide +kernel
theorem dX7_isThrough_15 : decode cX7_isThrough 15 = .ok (.iconst 1, 1) := by decide +kernel
theorem dX7_isThrough_16 : decode cX7_isThrough 16 = .ok (.goto 4, 3) := by decide +kernel
theorem dX7_isThrough_19 : decode cX7_isThrough 19 = .ok (.iconst 0, 1) := by decide +kernel
theorem dX7_isThrough_20 : decode cX7_isThrough 20 = .ok (.ireturn, 1) := by decide +kernel
set_option maxRecDepth 20000 in
theorem ggX7_person_X7_in : GoodIn wsX7_person wsX7_in := goodIn_r _ [7] (by decide +kernel) (by decide +kernel)
set_option maxRecDepth 20000 in
theorem gX7_person_X7_in : GoodIn wsX7_person (va_wsS RX7 48 yX7_in wsX7_in) := goodIn_app (goodIn_of _ (by decide +kernel)) ggX7_person_X7_in
set_option maxRecDepth 20000 in
theorem ggX7_person_X7_error : GoodIn wsX7_person wsX7_error := goodIn_r _ [11, 12, 13, 14, 15, 16, 17, 18, 19, 20, 21, 22, 23, 24, 25, 26, 27, 28, 29, 30, 31, 32, 33, 34] (by decide +kernel) (by decide +kernel)
set_option maxRecDepth 20000 in
theorem gX7_person_X7_error : GoodIn wsX7_person (wsV RX7 78 RX7 yX7_error wsX7_error) := goodIn_app (goodIn_of _ (by decide +kernel)) ggX7_person_X7_error

theorem dX7_person_0 : decode cX7_person 0 = .ok (.iload_n 1, 1) := by decide +kernel
theorem dX7_person_1 : decode cX7_person 1 = .ok (.iconst 0, 1) := by decide +kernel
theorem dX7_person_2 : decode cX7_person 2 = .ok (.bipush 9, 2) := by decide +kernel
theorem dX7_person_4 : decode cX7_person 4 = .ok (.invokestatic 48, 3) := by decide +kernel
theorem dX7_person_7 : decode cX7_person 7 = .ok (.ifCond .eq 13, 3) := by decide +kernel
theorem dX7_person_10 : decode cX7_person 10 = .ok (.iload_n 2, 1) := by decide +kernel
theorem dX7_person_11 : decode cX7_person 11 = .ok (.iconst 0, 1) := by decide +kernel
theorem dX7_person_12 : decode cX7_person 12 = .ok (.bipush 9, 2) := by decide +kernel
theorem dX7_person_14 : decode cX7_person 14 = .ok (.invokestatic 48, 3) := by decide +kernel
theorem dX7_person_17 : decode cX7_person 17 = .ok (.ifCond .ne 10, 3) := by decide +kernel
theorem dX7_person_20 : decode cX7_person 20 = .ok (.aload_n 0, 1) := by decide +kernel
theorem dX7_person_21 : decode cX7_person 21 = .ok (.ldc 77, 2) := by decide +kernel
theorem dX7_person_23 : decode cX7_person 23 = .ok (.invokevirtual 78, 3) := by decide +kernel
theorem dX7_person_26 : decode cX7_person 26 = .ok (.ireturn, 1) := by decide +kernel
theorem dX7_person_27 : decode cX7_person 27 = .ok (.aload_n 0, 1) := by decide +kernel
theorem dX7_person_28 : decode cX7_person 28 = .ok (.getfield 9, 3) := by decide +kernel
theorem dX7_person_31 : decode cX7_person 31 = .ok (.iconst 3, 1) := by decide +kernel
theorem dX7_person_32 : decode cX7_person 32 = .ok (.iaload, 1) := by decide +kernel
theorem dX7_person_33 : decode cX7_person 33 = .ok (.istore_n 3, 1) := by decide +kernel
theorem dX7_person_34 : decode cX7_person 34 = .ok (.iload_n 3, 1) := by decide +kernel
theorem dX7_person_35 : decode cX7_person 35 = .ok (.iconst 5, 1) := by decide +kernel
theorem dX7_person_36 : decode cX7_person 36 = .ok (.if_icmp .ne 10, 3) := by decide +kernel
theorem dX7_person_39 : decode cX7_person 39 = .ok (.aload_n 0, 1) := by decide +kernel
theorem dX7_person_40 : decode cX7_person 40 = .ok (.ldc 82, 2) := by decide +kernel
theorem dX7_person_42 : decode cX7_person 42 = .ok (.invokevirtual 78, 3) := by decide +kernel
theorem dX7_person_45 : decode cX7_person 45 = .ok (.ireturn, 1) := by decide +kernel
theorem dX7_person_46 : decode cX7_person 46 = .ok (.aload_n 0, 1) := by decide +kernel
theorem dX7_person_47 : decode cX7_person 47 = .ok (.getfield 9, 3) := by decide +kernel
theorem dX7_person_50 : decode cX7_person 50 = .ok (.iconst 3, 1) := by decide +kernel
theorem dX7_person_51 : decode cX7_person 51 = .ok (.dup2, 1) := by decide +kernel
theorem dX7_person_52 : decode cX7_person 52 = .ok (.iaload, 1) := by decide +kernel
theorem dX7_person_53 : decode cX7_person 53 = .ok (.iconst 1, 1) := by decide +kernel
theorem dX7_person_54 : decode cX7_person 54 = .ok (.iadd, 1) := by decide +kernel
theorem dX7_person_55 : decode cX7_person 55 = .ok (.iastore, 1) := by decide +kernel
theorem dX7_person_56 : decode cX7_person 56 = .ok (.aload_n 0, 1) := by decide +kernel
theorem dX7_person_57 : decode cX7_person 57 = .ok (.getfield 9, 3) := by decide +kernel
theorem dX7_person_60 : decode cX7_person 60 = .ok (.bipush 6, 2) := by decide +kernel
theorem dX7_person_62 : decode cX7_person 62 = .ok (.iconst 3, 1) := by decide +kernel
theorem dX7_person_63 : decode cX7_person 63 = .ok (.iload_n 3, 1) := by decide +kernel
theorem dX7_person_64 : decode cX7_person 64 = .ok (.imul, 1) := by decide +kernel
theorem dX7_person_65 : decode cX7_person 65 = .ok (.iadd, 1) := by decide +kernel
theorem dX7_person_66 : decode cX7_person 66 = .ok (.iload_n 1, 1) := by decide +kernel
theorem dX7_person_67 : decode cX7_person 67 = .ok (.iastore, 1) := by decide +kernel
theorem dX7_person_68 : decode cX7_person 68 = .ok (.aload_n 0, 1) := by decide +kernel
theorem dX7_person_69 : decode cX7_person 69 = .ok (.getfield 9, 3) := by decide +kernel
theorem dX7_person_72 : decode cX7_person 72 = .ok (.bipush 6, 2) := by decide +kernel
theorem dX7_person_74 : decode cX7_person 74 = .ok (.iconst 3, 1) := by decide +kernel
theorem dX7_person_75 : decode cX7_person 75 = .ok (.iload_n 3, 1) := by decide +kernel
theorem dX7_person_76 : decode cX7_person 76 = .ok (.imul, 1) := by decide +kernel
theorem dX7_person_77 : decode cX7_person 77 = .ok (.iadd, 1) := by decide +kernel
theorem dX7_person_78 : decode cX7_person 78 = .ok (.iconst 1, 1) := by decide +kernel
theorem dX7_person_79 : decode cX7_person 79 = .ok (.iadd, 1) := by decide +kernel
theorem dX7_person_80 : decode cX7_person 80 = .ok (.iload_n 2, 1) := by decide +kernel
theorem dX7_person_81 : decode cX7_person 81 = .ok (.iastore, 1) := by decide +kernel
theorem dX7_person_82 : decode cX7_person 82 = .ok (.aload_n 0, 1) := by decide +kernel
theorem dX7_person_83 : decode cX7_person 83 = .ok (.getfield 9, 3) := by decide +kernel
theorem dX7_person_86 : decode cX7_person 86 = .ok (.bipush 6, 2) := by decide +kernel
theorem dX7_person_88 : decode cX7_person 88 = .ok (.iconst 3, 1) := by decide +kernel
theorem dX7_person_89 : decode cX7_person 89 = .ok (.iload_n 3, 1) := by decide +kernel
theorem dX7_person_90 : decode cX7_person 90 = .ok (.imul, 1) := by decide +kernel
theorem dX7_person_91 : decode cX7_person 91 = .ok (.iadd, 1) := by decide +kernel
theorem dX7_person_92 : decode cX7_person 92 = .ok (.iconst 2, 1) := by decide +kernel
theorem dX7_person_93 : decode cX7_person 93 = .ok (.iadd, 1) := by decide +kernel
theorem dX7_person_94 : decode cX7_person 94 = .ok (.iconst 0, 1) := by decide +kernel
theorem dX7_person_95 : decode cX7_person 95 = .ok (.iastore, 1) := by decide +kernel
theorem dX7_person_96 : decode cX7_person 96 = .ok (.iload_n 3, 1) := by decide +kernel
theorem dX7_person_97 : decode cX7_person 97 = .ok (.ireturn, 1) := by decide +kernel
set_option maxRecDepth 20000 in
theorem ggX7_personIs_X7_isPerson : GoodIn wsX7_personIs wsX7_isPerson := goodIn_r _ [6, 7, 8, 9, 5, 10, 53, 54, 55, 56, 57, 58, 59, 60, 61, 62, 63, 64, 65, 66, 67, 68, 69, 70, 71, 72, 73] (by decide +kernel) (by decide +kernel)
set_option maxRecDepth 20000 in
theorem gX7_personIs_X7_isPerson : GoodIn wsX7_personIs (wsV RX7 83 RX7 yX7_isPerson wsX7_isPerson) := goodIn_app (goodIn_of _ (by decide +kernel)) ggX7_personIs_X7_isPerson
set_option maxRecDepth 20000 in
theorem ggX7_personIs_X7_error : GoodIn wsX7_personIs wsX7_error := goodIn_r _ [14, 15, 16, 53, 54, 55, 56, 57, 58, 59, 60, 61, 62, 63, 64, 65, 66, 67, 68, 69, 70, 71, 72, 73] (by decide +kernel) (by decide +kernel)
set_option maxRecDepth 20000 in
theorem gX7_personIs_X7_error : GoodIn wsX7_personIs (wsV RX7 78 RX7 yX7_error wsX7_error) := goodIn_app (goodIn_of _ (by decide +kernel)) ggX7_personIs_X7_error
set_option maxRecDepth 20000 in
theorem ggX7_personIs_X7_about : GoodIn wsX7_personIs wsX7_about := goodIn_r _ [20, 7, 53, 54, 55, 56, 57, 58, 59, 60, 61, 62, 63, 64, 65, 66, 67, 68, 69, 70, 71, 72, 73] (by decide +kernel) (by decide +kernel)
set_option maxRecDepth 20000 in
theorem gX7_personIs_X7_about : GoodIn wsX7_personIs (wsV RX7 67 RX7 yX7_about wsX7_about) := goodIn_app (goodIn_of _ (by decide +kernel)) ggX7_personIs_X7_about
set_option maxRecDepth 20000 in
theorem ggX7_personIs_X7_isThrough : GoodIn wsX7_personIs wsX7_isThrough := goodIn_r _ [24, 17, 18, 19, 5, 20, 7, 53, 54, 55, 56, 57, 58, 59, 60, 61, 62, 63, 64, 65, 66, 67, 68, 69, 70, 71, 72, 73] (by decide +kernel) (by decide +kernel)
set_option maxRecDepth 20000 in
theorem gX7_personIs_X7_isThrough : GoodIn wsX7_personIs (wsV RX7 87 RX7 yX7_isThrough wsX7_isThrough) := goodIn_app (goodIn_of _ (by decide +kernel)) ggX7_personIs_X7_isThrough
set_option maxRecDepth 20000 in
theorem ggX7_personIs_X7_dueOf : GoodIn wsX7_personIs wsX7_dueOf := goodIn_r _ [28, 17, 18, 19, 5, 20, 7, 53, 54, 55, 56, 57, 58, 59, 60, 61, 62, 63, 64, 65, 66, 67, 68, 69, 70, 71, 72, 73] (by decide +kernel) (by decide +kernel)
set_option maxRecDepth 20000 in
theorem gX7_personIs_X7_dueOf : GoodIn wsX7_personIs (wsV RX7 90 RX7 yX7_dueOf wsX7_dueOf) := goodIn_app (goodIn_of _ (by decide +kernel)) ggX7_personIs_X7_dueOf
set_option maxRecDepth 20000 in
theorem ggX7_personIs_X7_shards : GoodIn wsX7_personIs wsX7_shards := goodIn_r _ [32, 7, 33, 34, 35, 5, 36, 53, 54, 55, 56, 57, 58, 59, 60, 61, 62, 63, 64, 65, 66, 67, 68, 69, 70, 71, 72, 73] (by decide +kernel) (by decide +kernel)
set_option maxRecDepth 20000 in
theorem gX7_personIs_X7_shards : GoodIn wsX7_personIs (wsV RX7 56 RX7 yX7_shards wsX7_shards) := goodIn_app (goodIn_of _ (by decide +kernel)) ggX7_personIs_X7_shards
set_option maxRecDepth 20000 in
theorem ggX7_personIs_X7_gives : GoodIn wsX7_personIs wsX7_gives := goodIn_r _ [40, 41, 7, 42, 43, 44, 5, 45, 46, 47, 48, 49, 50, 51, 52, 53, 54, 55, 56, 57, 58, 59, 60, 61, 62, 63, 64, 65, 66, 67, 68, 69, 70, 71, 72, 73] (by decide +kernel) (by decide +kernel)
set_option maxRecDepth 20000 in
theorem gX7_personIs_X7_gives : GoodIn wsX7_personIs (wsV RX7 63 RX7 yX7_gives wsX7_gives) := goodIn_app (goodIn_of _ (by decide +kernel)) ggX7_personIs_X7_gives
theorem dX7_personIs_0 : decode cX7_personIs 0 = .ok (.aload_n 0, 1) := by decide +kernel
theorem dX7_personIs_1 : decode cX7_personIs 1 = .ok (.iload_n 1, 1) := by decide +kernel
theorem dX7_personIs_2 : decode cX7_personIs 2 = .ok (.invokevirtual 83, 3) := by decide +kernel
theorem dX7_personIs_5 : decode cX7_personIs 5 = .ok (.ifCond .ne 10, 3) := by decide +kernel
theorem dX7_personIs_8 : decode cX7_personIs 8 = .ok (.aload_n 0, 1) := by decide +kernel
theorem dX7_personIs_9 : decode cX7_personIs 9 = .ok (.ldc 77, 2) := by decide +kernel
theorem dX7_personIs_11 : decode cX7_personIs 11 = .ok (.invokevirtual 78, 3) := by decide +kernel
theorem dX7_personIs_14 : decode cX7_personIs 14 = .ok (.ireturn, 1) := by decide +kernel
theorem dX7_personIs_15 : decode cX7_personIs 15 = .ok (.iload_n 2, 1) := by decide +kernel
theorem dX7_personIs_16 : decode cX7_personIs 16 = .ok (.tableswitch 73 0 4 #[36, 36, 36, 43, 57], 36) := by decide +kernel
theorem dX7_personIs_52 : decode cX7_personIs 52 = .ok (.aload_n 0, 1) := by decide +kernel
theorem dX7_personIs_53 : decode cX7_personIs 53 = .ok (.iload_n 1, 1) := by decide +kernel
theorem dX7_personIs_54 : decode cX7_personIs 54 = .ok (.iload_n 2, 1) := by decide +kernel
theorem dX7_personIs_55 : decode cX7_personIs 55 = .ok (.invokevirtual 67, 3) := by decide +kernel
theorem dX7_personIs_58 : decode cX7_personIs 58 = .ok (.ireturn, 1) := by decide +kernel
theorem dX7_personIs_59 : decode cX7_personIs 59 = .ok (.aload_n 0, 1) := by decide +kernel
theorem dX7_personIs_60 : decode cX7_personIs 60 = .ok (.iload_n 1, 1) := by decide +kernel
theorem dX7_personIs_61 : decode cX7_personIs 61 = .ok (.invokevirtual 87, 3) := by decide +kernel
theorem dX7_personIs_64 : decode cX7_personIs 64 = .ok (.ifCond .eq 7, 3) := by decide +kernel
theorem dX7_personIs_67 : decode cX7_personIs 67 = .ok (.iconst 1, 1) := by decide +kernel
theorem dX7_personIs_68 : decode cX7_personIs 68 = .ok (.goto 4, 3) := by decide +kernel
theorem dX7_personIs_71 : decode cX7_personIs 71 = .ok (.iconst 0, 1) := by decide +kernel
theorem dX7_personIs_72 : decode cX7_personIs 72 = .ok (.ireturn, 1) := by decide +kernel
theorem dX7_personIs_73 : decode cX7_personIs 73 = .ok (.aload_n 0, 1) := by decide +kernel
theorem dX7_personIs_74 : decode cX7_personIs 74 = .ok (.iconst 1, 1) := by decide +kernel
theorem dX7_personIs_75 : decode cX7_personIs 75 = .ok (.aload_n 0, 1) := by decide +kernel
theorem dX7_personIs_76 : decode cX7_personIs 76 = .ok (.iload_n 1, 1) := by decide +kernel
theorem dX7_personIs_77 : decode cX7_personIs 77 = .ok (.invokevirtual 90, 3) := by decide +kernel
theorem dX7_personIs_80 : decode cX7_personIs 80 = .ok (.aload_n 0, 1) := by decide +kernel
theorem dX7_personIs_81 : decode cX7_personIs 81 = .ok (.invokevirtual 56, 3) := by decide +kernel
theorem dX7_personIs_84 : decode cX7_personIs 84 = .ok (.iload_n 1, 1) := by decide +kernel
theorem dX7_personIs_85 : decode cX7_personIs 85 = .ok (.invokevirtual 63, 3) := by decide +kernel
theorem dX7_personIs_88 : decode cX7_personIs 88 = .ok (.ireturn, 1) := by decide +kernel
theorem dX7_personIs_89 : decode cX7_personIs 89 = .ok (.aload_n 0, 1) := by decide +kernel
theorem dX7_personIs_90 : decode cX7_personIs 90 = .ok (.ldc 77, 2) := by decide +kernel
theorem dX7_personIs_92 : decode cX7_personIs 92 = .ok (.invokevirtual 78, 3) := by decide +kernel
theorem dX7_personIs_95 : decode cX7_personIs 95 = .ok (.ireturn, 1) := by decide +kernel
set_option maxRecDepth 20000 in
theorem ggX7_isKm_X7_in : GoodIn wsX7_isKm wsX7_in := goodIn_r _ [4] (by decide +kernel) (by decide +kernel)
set_option maxRecDepth 20000 in
theorem gX7_isKm_X7_in : GoodIn wsX7_isKm (va_wsS RX7 48 yX7_in wsX7_in) := goodIn_app (goodIn_of _ (by decide +kernel)) ggX7_isKm_X7_in
theorem dX7_isKm_0 : decode cX7_isKm 0 = .ok (.iload_n 0, 1) := by decide +kernel
theorem dX7_isKm_1 : decode cX7_isKm 1 = .ok (.iconst 0, 1) := by decide +kernel
theorem dX7_isKm_2 : decode cX7_isKm 2 = .ok (.bipush 69, 2) := by decide +kernel
theorem dX7_isKm_4 : decode cX7_isKm 4 = .ok (.invokestatic 48, 3) := by decide +kernel
theorem dX7_isKm_7 : decode cX7_isKm 7 = .ok (.ireturn, 1) := by decide +kernel
set_option maxRecDepth 20000 in
theorem ggX7_piece_X7_isKm : GoodIn wsX7_piece wsX7_isKm := goodIn_r _ [7, 8, 9, 6, 10] (by decide +kernel) (by decide +kernel)
set_option maxRecDepth 20000 in
theorem gX7_piece_X7_isKm : GoodIn wsX7_piece (va_wsS RX7 93 yX7_isKm wsX7_isKm) := goodIn_app (goodIn_of _ (by decide +kernel)) ggX7_piece_X7_isKm
set_option maxRecDepth 20000 in
theorem ggX7_piece_X7_isPerson : GoodIn wsX7_piece wsX7_isPerson := goodIn_r _ [14, 2, 8, 9, 6, 10, 25, 26, 27, 28, 29, 30, 31, 32, 33, 34, 35, 36, 37, 38, 39, 40, 41, 42, 43, 44, 45] (by decide +kernel) (by decide +kernel)
set_option maxRecDepth 20000 in
theorem gX7_piece_X7_isPerson : GoodIn wsX7_piece (wsV RX7 83 RX7 yX7_isPerson wsX7_isPerson) := goodIn_app (goodIn_of _ (by decide +kernel)) ggX7_piece_X7_isPerson
set_option maxRecDepth 20000 in
theorem ggX7_piece_X7_error : GoodIn wsX7_piece wsX7_error := goodIn_r _ [18, 19, 20, 25, 26, 27, 28, 29, 30, 31, 32, 33, 34, 35, 36, 37, 38, 39, 40, 41, 42, 43, 44, 45] (by decide +kernel) (by decide +kernel)
set_option maxRecDepth 20000 in
theorem gX7_piece_X7_error : GoodIn wsX7_piece (wsV RX7 78 RX7 yX7_error wsX7_error) := goodIn_app (goodIn_of _ (by decide +kernel)) ggX7_piece_X7_error
set_option maxRecDepth 20000 in
theorem ggX7_piece_X7_lets : GoodIn wsX7_piece wsX7_lets := goodIn_r _ [24, 2, 25, 26, 27, 28, 29, 30, 31, 32, 33, 34, 35, 36, 37, 38, 39, 40, 41, 42, 43, 44, 45] (by decide +kernel) (by decide +kernel)
set_option maxRecDepth 20000 in
theorem gX7_piece_X7_lets : GoodIn wsX7_piece (wsV RX7 96 RX7 yX7_lets wsX7_lets) := goodIn_app (goodIn_of _ (by decide +kernel)) ggX7_piece_X7_lets
theorem dX7_piece_0 : decode cX7_piece 0 = .ok (.iload_n 1, 1) := by decide +kernel
theorem dX7_piece_1 : decode cX7_piece 1 = .ok (.invokestatic 93, 3) := by decide +kernel
theorem dX7_piece_4 : decode cX7_piece 4 = .ok (.ifCond .eq 11, 3) := by decide +kernel
theorem dX7_piece_7 : decode cX7_piece 7 = .ok (.aload_n 0, 1) := by decide +kernel
theorem dX7_piece_8 : decode cX7_piece 8 = .ok (.iload_n 2, 1) := by decide +kernel
theorem dX7_piece_9 : decode cX7_piece 9 = .ok (.invokevirtual 83, 3) := by decide +kernel
theorem dX7_piece_12 : decode cX7_piece 12 = .ok (.ifCond .ne 10, 3) := by decide +kernel
theorem dX7_piece_15 : decode cX7_piece 15 = .ok (.aload_n 0, 1) := by decide +kernel
theorem dX7_piece_16 : decode cX7_piece 16 = .ok (.ldc 77, 2) := by decide +kernel
theorem dX7_piece_18 : decode cX7_piece 18 = .ok (.invokevirtual 78, 3) := by decide +kernel
theorem dX7_piece_21 : decode cX7_piece 21 = .ok (.ireturn, 1) := by decide +kernel
theorem dX7_piece_22 : decode cX7_piece 22 = .ok (.aload_n 0, 1) := by decide +kernel
theorem dX7_piece_23 : decode cX7_piece 23 = .ok (.getfield 9, 3) := by decide +kernel
theorem dX7_piece_26 : decode cX7_piece 26 = .ok (.iconst 2, 1) := by decide +kernel
theorem dX7_piece_27 : decode cX7_piece 27 = .ok (.iaload, 1) := by decide +kernel
theorem dX7_piece_28 : decode cX7_piece 28 = .ok (.istore_n 3, 1) := by decide +kernel
theorem dX7_piece_29 : decode cX7_piece 29 = .ok (.iload_n 3, 1) := by decide +kernel
theorem dX7_piece_30 : decode cX7_piece 30 = .ok (.bipush 9, 2) := by decide +kernel
theorem dX7_piece_32 : decode cX7_piece 32 = .ok (.if_icmp .ne 10, 3) := by decide +kernel
theorem dX7_piece_35 : decode cX7_piece 35 = .ok (.aload_n 0, 1) := by decide +kernel
theorem dX7_piece_36 : decode cX7_piece 36 = .ok (.ldc 82, 2) := by decide +kernel
theorem dX7_piece_38 : decode cX7_piece 38 = .ok (.invokevirtual 78, 3) := by decide +kernel
theorem dX7_piece_41 : decode cX7_piece 41 = .ok (.ireturn, 1) := by decide +kernel
theorem dX7_piece_42 : decode cX7_piece 42 = .ok (.aload_n 0, 1) := by decide +kernel
theorem dX7_piece_43 : decode cX7_piece 43 = .ok (.getfield 9, 3) := by decide +kernel
theorem dX7_piece_46 : decode cX7_piece 46 = .ok (.iconst 2, 1) := by decide +kernel
theorem dX7_piece_47 : decode cX7_piece 47 = .ok (.dup2, 1) := by decide +kernel
theorem dX7_piece_48 : decode cX7_piece 48 = .ok (.iaload, 1) := by decide +kernel
theorem dX7_piece_49 : decode cX7_piece 49 = .ok (.iconst 1, 1) := by decide +kernel
theorem dX7_piece_50 : decode cX7_piece 50 = .ok (.iadd, 1) := by decide +kernel
theorem dX7_piece_51 : decode cX7_piece 51 = .ok (.iastore, 1) := by decide +kernel
theorem dX7_piece_52 : decode cX7_piece 52 = .ok (.aload_n 0, 1) := by decide +kernel
theorem dX7_piece_53 : decode cX7_piece 53 = .ok (.iload_n 3, 1) := by decide +kernel
theorem dX7_piece_54 : decode cX7_piece 54 = .ok (.iconst 0, 1) := by decide +kernel
theorem dX7_piece_55 : decode cX7_piece 55 = .ok (.iload_n 1, 1) := by decide +kernel
theorem dX7_piece_56 : decode cX7_piece 56 = .ok (.bipush 10, 2) := by decide +kernel
theorem dX7_piece_58 : decode cX7_piece 58 = .ok (.idiv, 1) := by decide +kernel
theorem dX7_piece_59 : decode cX7_piece 59 = .ok (.invokevirtual 96, 3) := by decide +kernel
theorem dX7_piece_62 : decode cX7_piece 62 = .ok (.aload_n 0, 1) := by decide +kernel
theorem dX7_piece_63 : decode cX7_piece 63 = .ok (.iload_n 3, 1) := by decide +kernel
theorem dX7_piece_64 : decode cX7_piece 64 = .ok (.iconst 1, 1) := by decide +kernel
theorem dX7_piece_65 : decode cX7_piece 65 = .ok (.iload_n 1, 1) := by decide +kernel
theorem dX7_piece_66 : decode cX7_piece 66 = .ok (.bipush 10, 2) := by decide +kernel
theorem dX7_piece_68 : decode cX7_piece 68 = .ok (.irem, 1) := by decide +kernel
theorem dX7_piece_69 : decode cX7_piece 69 = .ok (.invokevirtual 96, 3) := by decide +kernel
theorem dX7_piece_72 : decode cX7_piece 72 = .ok (.aload_n 0, 1) := by decide +kernel
theorem dX7_piece_73 : decode cX7_piece 73 = .ok (.iload_n 3, 1) := by decide +kernel
theorem dX7_piece_74 : decode cX7_piece 74 = .ok (.iconst 2, 1) := by decide +kernel
theorem dX7_piece_75 : decode cX7_piece 75 = .ok (.iload_n 2, 1) := by decide +kernel
theorem dX7_piece_76 : decode cX7_piece 76 = .ok (.invokevirtual 96, 3) := by decide +kernel
theorem dX7_piece_79 : decode cX7_piece 79 = .ok (.aload_n 0, 1) := by decide +kernel
theorem dX7_piece_80 : decode cX7_piece 80 = .ok (.iload_n 3, 1) := by decide +kernel
theorem dX7_piece_81 : decode cX7_piece 81 = .ok (.iconst 3, 1) := by decide +kernel
theorem dX7_piece_82 : decode cX7_piece 82 = .ok (.iconst 0, 1) := by decide +kernel
theorem dX7_piece_83 : decode cX7_piece 83 = .ok (.invokevirtual 96, 3) := by decide +kernel
theorem dX7_piece_86 : decode cX7_piece 86 = .ok (.iload_n 3, 1) := by decide +kernel
theorem dX7_piece_87 : decode cX7_piece 87 = .ok (.ireturn, 1) := by decide +kernel
set_option maxRecDepth 20000 in
theorem ggX7_pieceIs_X7_isPiece : GoodIn wsX7_pieceIs wsX7_isPiece := goodIn_r _ [6, 7, 8, 9, 5, 10, 65, 66, 67, 68, 69, 70, 71, 72, 73, 74, 75, 76, 77, 78, 79, 80, 81, 82, 83, 84, 85] (by decide +kernel) (by decide +kernel)
set_option maxRecDepth 20000 in
theorem gX7_pieceIs_X7_isPiece : GoodIn wsX7_pieceIs (wsV RX7 100 RX7 yX7_isPiece wsX7_isPiece) := goodIn_app (goodIn_of _ (by decide +kernel)) ggX7_pieceIs_X7_isPiece
set_option maxRecDepth 20000 in
theorem ggX7_pieceIs_X7_in : GoodIn wsX7_pieceIs wsX7_in := goodIn_r _ [10] (by decide +kernel) (by decide +kernel)
set_option maxRecDepth 20000 in
theorem gX7_pieceIs_X7_in : GoodIn wsX7_pieceIs (va_wsS RX7 48 yX7_in wsX7_in) := goodIn_app (goodIn_of _ (by decide +kernel)) ggX7_pieceIs_X7_in
set_option maxRecDepth 20000 in
theorem ggX7_pieceIs_X7_error : GoodIn wsX7_pieceIs wsX7_error := goodIn_r _ [14, 15, 16, 65, 66, 67, 68, 69, 70, 71, 72, 73, 74, 75, 76, 77, 78, 79, 80, 81, 82, 83, 84, 85] (by decide +kernel) (by decide +kernel)
set_option maxRecDepth 20000 in
theorem gX7_pieceIs_X7_error : GoodIn wsX7_pieceIs (wsV RX7 78 RX7 yX7_error wsX7_error) := goodIn_app (goodIn_of _ (by decide +kernel)) ggX7_pieceIs_X7_error
set_option maxRecDepth 20000 in
theorem ggX7_pieceIs_X7_of : GoodIn wsX7_pieceIs wsX7_of := goodIn_r _ [20, 7, 65, 66, 67, 68, 69, 70, 71, 72, 73, 74, 75, 76, 77, 78, 79, 80, 81, 82, 83, 84, 85] (by decide +kernel) (by decide +kernel)
set_option maxRecDepth 20000 in
theorem gX7_pieceIs_X7_of : GoodIn wsX7_pieceIs (wsV RX7 52 RX7 yX7_of wsX7_of) := goodIn_app (goodIn_of _ (by decide +kernel)) ggX7_pieceIs_X7_of
set_option maxRecDepth 20000 in
theorem ggX7_pieceIs_X7_riskOf : GoodIn wsX7_pieceIs wsX7_riskOf := goodIn_r _ [24, 25, 26, 27, 5, 28, 7, 29, 30, 31, 32, 33, 34, 35, 36, 17, 18, 19, 20, 37, 38, 39, 40, 41, 42, 43, 44, 45, 46, 47, 48, 49, 50, 51, 52, 53, 54, 55, 56, 65, 66, 67, 68, 69, 70, 71, 72, 73, 74, 75, 76, 77, 78, 79, 80, 81, 82, 83, 84, 85] (by decide +kernel) (by decide +kernel)
set_option maxRecDepth 20000 in
theorem gX7_pieceIs_X7_riskOf : GoodIn wsX7_pieceIs (wsV RX7 103 RX7 yX7_riskOf wsX7_riskOf) := goodIn_app (goodIn_of _ (by decide +kernel)) ggX7_pieceIs_X7_riskOf
set_option maxRecDepth 20000 in
theorem ggX7_pieceIs_X7_doesCount : GoodIn wsX7_pieceIs wsX7_doesCount := goodIn_r _ [60, 7, 61, 62, 63, 5, 64, 17, 18, 19, 20, 37, 38, 39, 40, 65, 66, 67, 68, 69, 70, 71, 72, 73, 74, 75, 76, 77, 78, 79, 80, 81, 82, 83, 84, 85] (by decide +kernel) (by decide +kernel)
set_option maxRecDepth 20000 in
theorem gX7_pieceIs_X7_doesCount : GoodIn wsX7_pieceIs (wsV RX7 106 RX7 yX7_doesCount wsX7_doesCount) := goodIn_app (goodIn_of _ (by decide +kernel)) ggX7_pieceIs_X7_doesCount
theorem dX7_pieceIs_0 : decode cX7_pieceIs 0 = .ok (.aload_n 0, 1) := by decide +kernel
theorem dX7_pieceIs_1 : decode cX7_pieceIs 1 = .ok (.iload_n 1, 1) := by decide +kernel
theorem dX7_pieceIs_2 : decode cX7_pieceIs 2 = .ok (.invokevirtual 100, 3) := by decide +kernel
theorem dX7_pieceIs_5 : decode cX7_pieceIs 5 = .ok (.ifCond .eq 12, 3) := by decide +kernel
theorem dX7_pieceIs_8 : decode cX7_pieceIs 8 = .ok (.iload_n 2, 1) := by decide +kernel
theorem dX7_pieceIs_9 : decode cX7_pieceIs 9 = .ok (.iconst 0, 1) := by decide +kernel
theorem dX7_pieceIs_10 : decode cX7_pieceIs 10 = .ok (.iconst 5, 1) := by decide +kernel
theorem dX7_pieceIs_11 : decode cX7_pieceIs 11 = .ok (.invokestatic 48, 3) := by decide +kernel
theorem dX7_pieceIs_14 : decode cX7_pieceIs 14 = .ok (.ifCond .ne 10, 3) := by decide +kernel
theorem dX7_pieceIs_17 : decode cX7_pieceIs 17 = .ok (.aload_n 0, 1) := by decide +kernel
theorem dX7_pieceIs_18 : decode cX7_pieceIs 18 = .ok (.ldc 77, 2) := by decide +kernel
theorem dX7_pieceIs_20 : decode cX7_pieceIs 20 = .ok (.invokevirtual 78, 3) := by decide +kernel
theorem dX7_pieceIs_23 : decode cX7_pieceIs 23 = .ok (.ireturn, 1) := by decide +kernel
theorem dX7_pieceIs_24 : decode cX7_pieceIs 24 = .ok (.iload_n 2, 1) := by decide +kernel
theorem dX7_pieceIs_25 : decode cX7_pieceIs 25 = .ok (.iconst 4, 1) := by decide +kernel
theorem dX7_pieceIs_26 : decode cX7_pieceIs 26 = .ok (.if_icmp .ge 12, 3) := by decide +kernel
theorem dX7_pieceIs_29 : decode cX7_pieceIs 29 = .ok (.aload_n 0, 1) := by decide +kernel
theorem dX7_pieceIs_30 : decode cX7_pieceIs 30 = .ok (.iload_n 1, 1) := by decide +kernel
theorem dX7_pieceIs_31 : decode cX7_pieceIs 31 = .ok (.iload_n 2, 1) := by decide +kernel
theorem dX7_pieceIs_32 : decode cX7_pieceIs 32 = .ok (.invokevirtual 52, 3) := by decide +kernel
theorem dX7_pieceIs_35 : decode cX7_pieceIs 35 = .ok (.goto 35, 3) := by decide +kernel
theorem dX7_pieceIs_38 : decode cX7_pieceIs 38 = .ok (.iload_n 2, 1) := by decide +kernel
theorem dX7_pieceIs_39 : decode cX7_pieceIs 39 = .ok (.iconst 5, 1) := by decide +kernel
theorem dX7_pieceIs_40 : decode cX7_pieceIs 40 = .ok (.if_icmp .ne 17, 3) := by decide +kernel
theorem dX7_pieceIs_43 : decode cX7_pieceIs 43 = .ok (.aload_n 0, 1) := by decide +kernel
theorem dX7_pieceIs_44 : decode cX7_pieceIs 44 = .ok (.iload_n 1, 1) := by decide +kernel
theorem dX7_pieceIs_45 : decode cX7_pieceIs 45 = .ok (.aload_n 0, 1) := by decide +kernel
theorem dX7_pieceIs_46 : decode cX7_pieceIs 46 = .ok (.iload_n 1, 1) := by decide +kernel
theorem dX7_pieceIs_47 : decode cX7_pieceIs 47 = .ok (.iconst 2, 1) := by decide +kernel
theorem dX7_pieceIs_48 : decode cX7_pieceIs 48 = .ok (.invokevirtual 52, 3) := by decide +kernel
theorem dX7_pieceIs_51 : decode cX7_pieceIs 51 = .ok (.invokevirtual 103, 3) := by decide +kernel
theorem dX7_pieceIs_54 : decode cX7_pieceIs 54 = .ok (.goto 16, 3) := by decide +kernel
theorem dX7_pieceIs_57 : decode cX7_pieceIs 57 = .ok (.aload_n 0, 1) := by decide +kernel
theorem dX7_pieceIs_58 : decode cX7_pieceIs 58 = .ok (.iload_n 1, 1) := by decide +kernel
theorem dX7_pieceIs_59 : decode cX7_pieceIs 59 = .ok (.invokevirtual 106, 3) := by decide +kernel
theorem dX7_pieceIs_62 : decode cX7_pieceIs 62 = .ok (.ifCond .eq 7, 3) := by decide +kernel
theorem dX7_pieceIs_65 : decode cX7_pieceIs 65 = .ok (.iconst 1, 1) := by decide +kernel
theorem dX7_pieceIs_66 : decode cX7_pieceIs 66 = .ok (.goto 4, 3) := by decide +kernel
theorem dX7_pieceIs_69 : decode cX7_pieceIs 69 = .ok (.iconst 0, 1) := by decide +kernel
theorem dX7_pieceIs_70 : decode cX7_pieceIs 70 = .ok (.ireturn, 1) := by decide +kernel
set_option maxRecDepth 20000 in
theorem ggX7_become_X7_isPiece : GoodIn wsX7_become wsX7_isPiece := goodIn_r _ [6, 7, 8, 9, 5, 10, 28, 29, 30, 31, 32, 33, 34, 35, 36, 37, 38, 39, 40, 41, 42, 43, 44, 45, 46, 47, 48] (by decide +kernel) (by decide +kernel)
set_option maxRecDepth 20000 in
theorem gX7_become_X7_isPiece : GoodIn wsX7_become (wsV RX7 100 RX7 yX7_isPiece wsX7_isPiece) := goodIn_app (goodIn_of _ (by decide +kernel)) ggX7_become_X7_isPiece
set_option maxRecDepth 20000 in
theorem ggX7_become_X7_isKm : GoodIn wsX7_become wsX7_isKm := goodIn_r _ [13, 8, 9, 5, 10] (by decide +kernel) (by decide +kernel)
set_option maxRecDepth 20000 in
theorem gX7_become_X7_isKm : GoodIn wsX7_become (va_wsS RX7 93 yX7_isKm wsX7_isKm) := goodIn_app (goodIn_of _ (by decide +kernel)) ggX7_become_X7_isKm
set_option maxRecDepth 20000 in
theorem ggX7_become_X7_error : GoodIn wsX7_become wsX7_error := goodIn_r _ [17, 18, 19, 28, 29, 30, 31, 32, 33, 34, 35, 36, 37, 38, 39, 40, 41, 42, 43, 44, 45, 46, 47, 48] (by decide +kernel) (by decide +kernel)
set_option maxRecDepth 20000 in
theorem gX7_become_X7_error : GoodIn wsX7_become (wsV RX7 78 RX7 yX7_error wsX7_error) := goodIn_app (goodIn_of _ (by decide +kernel)) ggX7_become_X7_error
set_option maxRecDepth 20000 in
theorem ggX7_become_X7_lets : GoodIn wsX7_become wsX7_lets := goodIn_r _ [23, 7, 28, 29, 30, 31, 32, 33, 34, 35, 36, 37, 38, 39, 40, 41, 42, 43, 44, 45, 46, 47, 48] (by decide +kernel) (by decide +kernel)
set_option maxRecDepth 20000 in
theorem gX7_become_X7_lets : GoodIn wsX7_become (wsV RX7 96 RX7 yX7_lets wsX7_lets) := goodIn_app (goodIn_of _ (by decide +kernel)) ggX7_become_X7_lets
set_option maxRecDepth 20000 in
theorem ggX7_become_X7_becomes : GoodIn wsX7_become wsX7_becomes := goodIn_r _ [27, 7, 28, 29, 30, 31, 32, 33, 34, 35, 36, 37, 38, 39, 40, 41, 42, 43, 44, 45, 46, 47, 48] (by decide +kernel) (by decide +kernel)
set_option maxRecDepth 20000 in
theorem gX7_become_X7_becomes : GoodIn wsX7_become (wsV RX7 109 RX7 yX7_becomes wsX7_becomes) := goodIn_app (goodIn_of _ (by decide +kernel)) ggX7_become_X7_becomes
theorem dX7_become_0 : decode cX7_become 0 = .ok (.aload_n 0, 1) := by decide +kernel
theorem dX7_become_1 : decode cX7_become 1 = .ok (.iload_n 1, 1) := by decide +kernel
theorem dX7_become_2 : decode cX7_become 2 = .ok (.invokevirtual 100, 3) := by decide +kernel
theorem dX7_become_5 : decode cX7_become 5 = .ok (.ifCond .eq 10, 3) := by decide +kernel
theorem dX7_become_8 : decode cX7_become 8 = .ok (.iload_n 2, 1) := by decide +kernel
theorem dX7_become_9 : decode cX7_become 9 = .ok (.invokestatic 93, 3) := by decide +kernel
theorem dX7_become_12 : decode cX7_become 12 = .ok (.ifCond .ne 10, 3) := by decide +kernel
theorem dX7_become_15 : decode cX7_become 15 = .ok (.aload_n 0, 1) := by decide +kernel
theorem dX7_become_16 : decode cX7_become 16 = .ok (.ldc 77, 2) := by decide +kernel
theorem dX7_become_18 : decode cX7_become 18 = .ok (.invokevirtual 78, 3) := by decide +kernel
theorem dX7_become_21 : decode cX7_become 21 = .ok (.ireturn, 1) := by decide +kernel
theorem dX7_become_22 : decode cX7_become 22 = .ok (.aload_n 0, 1) := by decide +kernel
theorem dX7_become_23 : decode cX7_become 23 = .ok (.iload_n 1, 1) := by decide +kernel
theorem dX7_become_24 : decode cX7_become 24 = .ok (.iconst 1, 1) := by decide +kernel
theorem dX7_become_25 : decode cX7_become 25 = .ok (.iload_n 2, 1) := by decide +kernel
theorem dX7_become_26 : decode cX7_become 26 = .ok (.bipush 10, 2) := by decide +kernel
theorem dX7_become_28 : decode cX7_become 28 = .ok (.irem, 1) := by decide +kernel
theorem dX7_become_29 : decode cX7_become 29 = .ok (.invokevirtual 96, 3) := by decide +kernel
theorem dX7_become_32 : decode cX7_become 32 = .ok (.aload_n 0, 1) := by decide +kernel
theorem dX7_become_33 : decode cX7_become 33 = .ok (.bipush 21, 2) := by decide +kernel
theorem dX7_become_35 : decode cX7_become 35 = .ok (.iconst 4, 1) := by decide +kernel
theorem dX7_become_36 : decode cX7_become 36 = .ok (.iload_n 1, 1) := by decide +kernel
theorem dX7_become_37 : decode cX7_become 37 = .ok (.imul, 1) := by decide +kernel
theorem dX7_become_38 : decode cX7_become 38 = .ok (.iadd, 1) := by decide +kernel
theorem dX7_become_39 : decode cX7_become 39 = .ok (.iload_n 2, 1) := by decide +kernel
theorem dX7_become_40 : decode cX7_become 40 = .ok (.bipush 10, 2) := by decide +kernel
theorem dX7_become_42 : decode cX7_become 42 = .ok (.idiv, 1) := by decide +kernel
theorem dX7_become_43 : decode cX7_become 43 = .ok (.invokevirtual 109, 3) := by decide +kernel
theorem dX7_become_46 : decode cX7_become 46 = .ok (.ireturn, 1) := by decide +kernel
set_option maxRecDepth 20000 in
theorem ggX7_as_X7_isPiece : GoodIn wsX7_as wsX7_isPiece := goodIn_r _ [7, 8, 9, 10, 6, 11, 22, 23, 24, 25, 26, 27, 28, 29, 30, 31, 32, 33, 34, 35, 36, 37, 38, 39, 40, 41, 42] (by decide +kernel) (by decide +kernel)
set_option maxRecDepth 20000 in
theorem gX7_as_X7_isPiece : GoodIn wsX7_as (wsV RX7 100 RX7 yX7_isPiece wsX7_isPiece) := goodIn_app (goodIn_of _ (by decide +kernel)) ggX7_as_X7_isPiece
set_option maxRecDepth 20000 in
theorem ggX7_as_X7_in : GoodIn wsX7_as wsX7_in := goodIn_r _ [11] (by decide +kernel) (by decide +kernel)
set_option maxRecDepth 20000 in
theorem gX7_as_X7_in : GoodIn wsX7_as (va_wsS RX7 48 yX7_in wsX7_in) := goodIn_app (goodIn_of _ (by decide +kernel)) ggX7_as_X7_in
set_option maxRecDepth 20000 in
theorem ggX7_as_X7_error : GoodIn wsX7_as wsX7_error := goodIn_r _ [15, 16, 17, 22, 23, 24, 25, 26, 27, 28, 29, 30, 31, 32, 33, 34, 35, 36, 37, 38, 39, 40, 41, 42] (by decide +kernel) (by decide +kernel)
set_option maxRecDepth 20000 in
theorem gX7_as_X7_error : GoodIn wsX7_as (wsV RX7 78 RX7 yX7_error wsX7_error) := goodIn_app (goodIn_of _ (by decide +kernel)) ggX7_as_X7_error
set_option maxRecDepth 20000 in
theorem ggX7_as_X7_of : GoodIn wsX7_as wsX7_of := goodIn_r _ [21, 8, 22, 23, 24, 25, 26, 27, 28, 29, 30, 31, 32, 33, 34, 35, 36, 37, 38, 39, 40, 41, 42] (by decide +kernel) (by decide +kernel)
set_option maxRecDepth 20000 in
theorem gX7_as_X7_of : GoodIn wsX7_as (wsV RX7 52 RX7 yX7_of wsX7_of) := goodIn_app (goodIn_of _ (by decide +kernel)) ggX7_as_X7_of
theorem dX7_as_0 : decode cX7_as 0 = .ok (.aload_n 0, 1) := by decide +kernel
theorem dX7_as_1 : decode cX7_as 1 = .ok (.iload_n 1, 1) := by decide +kernel
theorem dX7_as_2 : decode cX7_as 2 = .ok (.invokevirtual 100, 3) := by decide +kernel
theorem dX7_as_5 : decode cX7_as 5 = .ok (.ifCond .eq 13, 3) := by decide +kernel
theorem dX7_as_8 : decode cX7_as 8 = .ok (.iload_n 2, 1) := by decide +kernel
theorem dX7_as_9 : decode cX7_as 9 = .ok (.iconst 0, 1) := by decide +kernel
theorem dX7_as_10 : decode cX7_as 10 = .ok (.bipush 6, 2) := by decide +kernel
theorem dX7_as_12 : decode cX7_as 12 = .ok (.invokestatic 48, 3) := by decide +kernel
theorem dX7_as_15 : decode cX7_as 15 = .ok (.ifCond .ne 10, 3) := by decide +kernel
theorem dX7_as_18 : decode cX7_as 18 = .ok (.aload_n 0, 1) := by decide +kernel
theorem dX7_as_19 : decode cX7_as 19 = .ok (.ldc 77, 2) := by decide +kernel
theorem dX7_as_21 : decode cX7_as 21 = .ok (.invokevirtual 78, 3) := by decide +kernel
theorem dX7_as_24 : decode cX7_as 24 = .ok (.ireturn, 1) := by decide +kernel
theorem dX7_as_25 : decode cX7_as 25 = .ok (.aload_n 0, 1) := by decide +kernel
theorem dX7_as_26 : decode cX7_as 26 = .ok (.iload_n 1, 1) := by decide +kernel
theorem dX7_as_27 : decode cX7_as 27 = .ok (.iconst 0, 1) := by decide +kernel
theorem dX7_as_28 : decode cX7_as 28 = .ok (.invokevirtual 52, 3) := by decide +kernel
theorem dX7_as_31 : decode cX7_as 31 = .ok (.istore_n 3, 1) := by decide +kernel
theorem dX7_as_32 : decode cX7_as 32 = .ok (.iload_n 2, 1) := by decide +kernel
theorem dX7_as_33 : decode cX7_as 33 = .ok (.ifCond .eq 28, 3) := by decide +kernel
theorem dX7_as_36 : decode cX7_as 36 = .ok (.iload_n 2, 1) := by decide +kernel
theorem dX7_as_37 : decode cX7_as 37 = .ok (.iload_n 3, 1) := by decide +kernel
theorem dX7_as_38 : decode cX7_as 38 = .ok (.if_icmp .eq 23, 3) := by decide +kernel
theorem dX7_as_41 : decode cX7_as 41 = .ok (.iload_n 2, 1) := by decide +kernel
theorem dX7_as_42 : decode cX7_as 42 = .ok (.iconst 1, 1) := by decide +kernel
theorem dX7_as_43 : decode cX7_as 43 = .ok (.if_icmp .ne 8, 3) := by decide +kernel
theorem dX7_as_46 : decode cX7_as 46 = .ok (.iload_n 3, 1) := by decide +kernel
theorem dX7_as_47 : decode cX7_as 47 = .ok (.iconst 4, 1) := by decide +kernel
theorem dX7_as_48 : decode cX7_as 48 = .ok (.if_icmp .eq 13, 3) := by decide +kernel
theorem dX7_as_51 : decode cX7_as 51 = .ok (.iload_n 2, 1) := by decide +kernel
theorem dX7_as_52 : decode cX7_as 52 = .ok (.iconst 2, 1) := by decide +kernel
theorem dX7_as_53 : decode cX7_as 53 = .ok (.if_icmp .ne 12, 3) := by decide +kernel
theorem dX7_as_56 : decode cX7_as 56 = .ok (.iload_n 3, 1) := by decide +kernel
theorem dX7_as_57 : decode cX7_as 57 = .ok (.iconst 5, 1) := by decide +kernel
theorem dX7_as_58 : decode cX7_as 58 = .ok (.if_icmp .ne 7, 3) := by decide +kernel
theorem dX7_as_61 : decode cX7_as 61 = .ok (.iconst 1, 1) := by decide +kernel
theorem dX7_as_62 : decode cX7_as 62 = .ok (.goto 4, 3) := by decide +kernel
theorem dX7_as_65 : decode cX7_as 65 = .ok (.iconst 0, 1) := by decide +kernel
theorem dX7_as_66 : decode cX7_as 66 = .ok (.istore 4, 2) := by decide +kernel
theorem dX7_as_68 : decode cX7_as 68 = .ok (.iload 4, 2) := by decide +kernel
theorem dX7_as_70 : decode cX7_as 70 = .ok (.ifCond .eq 12, 3) := by decide +kernel
theorem dX7_as_73 : decode cX7_as 73 = .ok (.aload_n 0, 1) := by decide +kernel
theorem dX7_as_74 : decode cX7_as 74 = .ok (.iload_n 1, 1) := by decide +kernel
theorem dX7_as_75 : decode cX7_as 75 = .ok (.iconst 1, 1) := by decide +kernel
theorem dX7_as_76 : decode cX7_as 76 = .ok (.invokevirtual 52, 3) := by decide +kernel
theorem dX7_as_79 : decode cX7_as 79 = .ok (.goto 9, 3) := by decide +kernel
theorem dX7_as_82 : decode cX7_as 82 = .ok (.aload_n 0, 1) := by decide +kernel
theorem dX7_as_83 : decode cX7_as 83 = .ok (.ldc 112, 2) := by decide +kernel
theorem dX7_as_85 : decode cX7_as 85 = .ok (.invokevirtual 78, 3) := by decide +kernel
theorem dX7_as_88 : decode cX7_as 88 = .ok (.ireturn, 1) := by decide +kernel
set_option maxRecDepth 20000 in
theorem ggX7_minds_X7_isPerson : GoodIn wsX7_minds wsX7_isPerson := goodIn_r _ [6, 7, 8, 9, 5, 10, 21, 22, 23, 24, 25, 26, 27, 28, 29, 30, 31, 32, 33, 34, 35, 36, 37, 38, 39, 40, 41] (by decide +kernel) (by decide +kernel)
set_option maxRecDepth 20000 in
theorem gX7_minds_X7_isPerson : GoodIn wsX7_minds (wsV RX7 83 RX7 yX7_isPerson wsX7_isPerson) := goodIn_app (goodIn_of _ (by decide +kernel)) ggX7_minds_X7_isPerson
set_option maxRecDepth 20000 in
theorem ggX7_minds_X7_in : GoodIn wsX7_minds wsX7_in := goodIn_r _ [10] (by decide +kernel) (by decide +kernel)
set_option maxRecDepth 20000 in
theorem gX7_minds_X7_in : GoodIn wsX7_minds (va_wsS RX7 48 yX7_in wsX7_in) := goodIn_app (goodIn_of _ (by decide +kernel)) ggX7_minds_X7_in
set_option maxRecDepth 20000 in
theorem ggX7_minds_X7_becomes : GoodIn wsX7_minds wsX7_becomes := goodIn_r _ [14, 7, 21, 22, 23, 24, 25, 26, 27, 28, 29, 30, 31, 32, 33, 34, 35, 36, 37, 38, 39, 40, 41] (by decide +kernel) (by decide +kernel)
set_option maxRecDepth 20000 in
theorem gX7_minds_X7_becomes : GoodIn wsX7_minds (wsV RX7 109 RX7 yX7_becomes wsX7_becomes) := goodIn_app (goodIn_of _ (by decide +kernel)) ggX7_minds_X7_becomes
set_option maxRecDepth 20000 in
theorem ggX7_minds_X7_error : GoodIn wsX7_minds wsX7_error := goodIn_r _ [18, 19, 20, 21, 22, 23, 24, 25, 26, 27, 28, 29, 30, 31, 32, 33, 34, 35, 36, 37, 38, 39, 40, 41] (by decide +kernel) (by decide +kernel)
set_option maxRecDepth 20000 in
theorem gX7_minds_X7_error : GoodIn wsX7_minds (wsV RX7 78 RX7 yX7_error wsX7_error) := goodIn_app (goodIn_of _ (by decide +kernel)) ggX7_minds_X7_error
theorem dX7_minds_0 : decode cX7_minds 0 = .ok (.aload_n 0, 1) := by decide +kernel
theorem dX7_minds_1 : decode cX7_minds 1 = .ok (.iload_n 1, 1) := by decide +kernel
theorem dX7_minds_2 : decode cX7_minds 2 = .ok (.invokevirtual 83, 3) := by decide +kernel
theorem dX7_minds_5 : decode cX7_minds 5 = .ok (.ifCond .eq 27, 3) := by decide +kernel
theorem dX7_minds_8 : decode cX7_minds 8 = .ok (.iload_n 2, 1) := by decide +kernel
theorem dX7_minds_9 : decode cX7_minds 9 = .ok (.iconst 0, 1) := by decide +kernel
theorem dX7_minds_10 : decode cX7_minds 10 = .ok (.bipush 9, 2) := by decide +kernel
theorem dX7_minds_12 : decode cX7_minds 12 = .ok (.invokestatic 48, 3) := by decide +kernel
theorem dX7_minds_15 : decode cX7_minds 15 = .ok (.ifCond .eq 17, 3) := by decide +kernel
theorem dX7_minds_18 : decode cX7_minds 18 = .ok (.aload_n 0, 1) := by decide +kernel
theorem dX7_minds_19 : decode cX7_minds 19 = .ok (.bipush 6, 2) := by decide +kernel
theorem dX7_minds_21 : decode cX7_minds 21 = .ok (.iconst 3, 1) := by decide +kernel
theorem dX7_minds_22 : decode cX7_minds 22 = .ok (.iload_n 1, 1) := by decide +kernel
theorem dX7_minds_23 : decode cX7_minds 23 = .ok (.imul, 1) := by decide +kernel
theorem dX7_minds_24 : decode cX7_minds 24 = .ok (.iadd, 1) := by decide +kernel
theorem dX7_minds_25 : decode cX7_minds 25 = .ok (.iload_n 2, 1) := by decide +kernel
theorem dX7_minds_26 : decode cX7_minds 26 = .ok (.invokevirtual 109, 3) := by decide +kernel
theorem dX7_minds_29 : decode cX7_minds 29 = .ok (.goto 9, 3) := by decide +kernel
theorem dX7_minds_32 : decode cX7_minds 32 = .ok (.aload_n 0, 1) := by decide +kernel
theorem dX7_minds_33 : decode cX7_minds 33 = .ok (.ldc 77, 2) := by decide +kernel
theorem dX7_minds_35 : decode cX7_minds 35 = .ok (.invokevirtual 78, 3) := by decide +kernel
theorem dX7_minds_38 : decode cX7_minds 38 = .ok (.ireturn, 1) := by decide +kernel
set_option maxRecDepth 20000 in
theorem ggX7_lend_X7_isPiece : GoodIn wsX7_lend wsX7_isPiece := goodIn_r _ [6, 7, 8, 9, 5, 10, 25, 26, 27, 28, 29, 30, 31, 32, 33, 34, 35, 36, 37, 38, 39, 40, 41, 42, 43, 44, 45] (by decide +kernel) (by decide +kernel)
set_option maxRecDepth 20000 in
theorem gX7_lend_X7_isPiece : GoodIn wsX7_lend (wsV RX7 100 RX7 yX7_isPiece wsX7_isPiece) := goodIn_app (goodIn_of _ (by decide +kernel)) ggX7_lend_X7_isPiece
set_option maxRecDepth 20000 in
theorem ggX7_lend_X7_isPerson : GoodIn wsX7_lend wsX7_isPerson := goodIn_r _ [14, 7, 8, 9, 5, 10, 25, 26, 27, 28, 29, 30, 31, 32, 33, 34, 35, 36, 37, 38, 39, 40, 41, 42, 43, 44, 45] (by decide +kernel) (by decide +kernel)
set_option maxRecDepth 20000 in
theorem gX7_lend_X7_isPerson : GoodIn wsX7_lend (wsV RX7 83 RX7 yX7_isPerson wsX7_isPerson) := goodIn_app (goodIn_of _ (by decide +kernel)) ggX7_lend_X7_isPerson
set_option maxRecDepth 20000 in
theorem ggX7_lend_X7_becomes : GoodIn wsX7_lend wsX7_becomes := goodIn_r _ [18, 7, 25, 26, 27, 28, 29, 30, 31, 32, 33, 34, 35, 36, 37, 38, 39, 40, 41, 42, 43, 44, 45] (by decide +kernel) (by decide +kernel)
set_option maxRecDepth 20000 in
theorem gX7_lend_X7_becomes : GoodIn wsX7_lend (wsV RX7 109 RX7 yX7_becomes wsX7_becomes) := goodIn_app (goodIn_of _ (by decide +kernel)) ggX7_lend_X7_becomes
set_option maxRecDepth 20000 in
theorem ggX7_lend_X7_error : GoodIn wsX7_lend wsX7_error := goodIn_r _ [22, 23, 24, 25, 26, 27, 28, 29, 30, 31, 32, 33, 34, 35, 36, 37, 38, 39, 40, 41, 42, 43, 44, 45] (by decide +kernel) (by decide +kernel)
set_option maxRecDepth 20000 in
theorem gX7_lend_X7_error : GoodIn wsX7_lend (wsV RX7 78 RX7 yX7_error wsX7_error) := goodIn_app (goodIn_of _ (by decide +kernel)) ggX7_lend_X7_error
theorem dX7_lend_0 : decode cX7_lend 0 = .ok (.aload_n 0, 1) := by decide +kernel
theorem dX7_lend_1 : decode cX7_lend 1 = .ok (.iload_n 1, 1) := by decide +kernel
theorem dX7_lend_2 : decode cX7_lend 2 = .ok (.invokevirtual 100, 3) := by decide +kernel
theorem dX7_lend_5 : decode cX7_lend 5 = .ok (.ifCond .eq 27, 3) := by decide +kernel
theorem dX7_lend_8 : decode cX7_lend 8 = .ok (.aload_n 0, 1) := by decide +kernel
theorem dX7_lend_9 : decode cX7_lend 9 = .ok (.iload_n 2, 1) := by decide +kernel
theorem dX7_lend_10 : decode cX7_lend 10 = .ok (.invokevirtual 83, 3) := by decide +kernel
theorem dX7_lend_13 : decode cX7_lend 13 = .ok (.ifCond .eq 19, 3) := by decide +kernel
theorem dX7_lend_16 : decode cX7_lend 16 = .ok (.aload_n 0, 1) := by decide +kernel
theorem dX7_lend_17 : decode cX7_lend 17 = .ok (.bipush 21, 2) := by decide +kernel
theorem dX7_lend_19 : decode cX7_lend 19 = .ok (.iconst 4, 1) := by decide +kernel
theorem dX7_lend_20 : decode cX7_lend 20 = .ok (.iload_n 1, 1) := by decide +kernel
theorem dX7_lend_21 : decode cX7_lend 21 = .ok (.imul, 1) := by decide +kernel
theorem dX7_lend_22 : decode cX7_lend 22 = .ok (.iadd, 1) := by decide +kernel
theorem dX7_lend_23 : decode cX7_lend 23 = .ok (.iconst 2, 1) := by decide +kernel
theorem dX7_lend_24 : decode cX7_lend 24 = .ok (.iadd, 1) := by decide +kernel
theorem dX7_lend_25 : decode cX7_lend 25 = .ok (.iload_n 2, 1) := by decide +kernel
theorem dX7_lend_26 : decode cX7_lend 26 = .ok (.invokevirtual 109, 3) := by decide +kernel
theorem dX7_lend_29 : decode cX7_lend 29 = .ok (.goto 9, 3) := by decide +kernel
theorem dX7_lend_32 : decode cX7_lend 32 = .ok (.aload_n 0, 1) := by decide +kernel
theorem dX7_lend_33 : decode cX7_lend 33 = .ok (.ldc 77, 2) := by decide +kernel
theorem dX7_lend_35 : decode cX7_lend 35 = .ok (.invokevirtual 78, 3) := by decide +kernel
theorem dX7_lend_38 : decode cX7_lend 38 = .ok (.ireturn, 1) := by decide +kernel
set_option maxRecDepth 20000 in
theorem ggX7_wall_X7_isPiece : GoodIn wsX7_wall wsX7_isPiece := goodIn_r _ [7, 8, 9, 10, 6, 11, 26, 27, 28, 29, 30, 31, 32, 33, 34, 35, 36, 37, 38, 39, 40, 41, 42, 43, 44, 45, 46] (by decide +kernel) (by decide +kernel)
set_option maxRecDepth 20000 in
theorem gX7_wall_X7_isPiece : GoodIn wsX7_wall (wsV RX7 100 RX7 yX7_isPiece wsX7_isPiece) := goodIn_app (goodIn_of _ (by decide +kernel)) ggX7_wall_X7_isPiece
set_option maxRecDepth 20000 in
theorem ggX7_wall_X7_in : GoodIn wsX7_wall wsX7_in := goodIn_r _ [11] (by decide +kernel) (by decide +kernel)
set_option maxRecDepth 20000 in
theorem gX7_wall_X7_in : GoodIn wsX7_wall (va_wsS RX7 48 yX7_in wsX7_in) := goodIn_app (goodIn_of _ (by decide +kernel)) ggX7_wall_X7_in
set_option maxRecDepth 20000 in
theorem ggX7_wall_X7_error : GoodIn wsX7_wall wsX7_error := goodIn_r _ [15, 16, 17, 26, 27, 28, 29, 30, 31, 32, 33, 34, 35, 36, 37, 38, 39, 40, 41, 42, 43, 44, 45, 46] (by decide +kernel) (by decide +kernel)
set_option maxRecDepth 20000 in
theorem gX7_wall_X7_error : GoodIn wsX7_wall (wsV RX7 78 RX7 yX7_error wsX7_error) := goodIn_app (goodIn_of _ (by decide +kernel)) ggX7_wall_X7_error
set_option maxRecDepth 20000 in
theorem ggX7_wall_X7_of : GoodIn wsX7_wall wsX7_of := goodIn_r _ [21, 8, 26, 27, 28, 29, 30, 31, 32, 33, 34, 35, 36, 37, 38, 39, 40, 41, 42, 43, 44, 45, 46] (by decide +kernel) (by decide +kernel)
set_option maxRecDepth 20000 in
theorem gX7_wall_X7_of : GoodIn wsX7_wall (wsV RX7 52 RX7 yX7_of wsX7_of) := goodIn_app (goodIn_of _ (by decide +kernel)) ggX7_wall_X7_of
set_option maxRecDepth 20000 in
theorem ggX7_wall_X7_lets : GoodIn wsX7_wall wsX7_lets := goodIn_r _ [25, 8, 26, 27, 28, 29, 30, 31, 32, 33, 34, 35, 36, 37, 38, 39, 40, 41, 42, 43, 44, 45, 46] (by decide +kernel) (by decide +kernel)
set_option maxRecDepth 20000 in
theorem gX7_wall_X7_lets : GoodIn wsX7_wall (wsV RX7 96 RX7 yX7_lets wsX7_lets) := goodIn_app (goodIn_of _ (by decide +kernel)) ggX7_wall_X7_lets
theorem dX7_wall_0 : decode cX7_wall 0 = .ok (.aload_n 0, 1) := by decide +kernel
theorem dX7_wall_1 : decode cX7_wall 1 = .ok (.iload_n 1, 1) := by decide +kernel
theorem dX7_wall_2 : decode cX7_wall 2 = .ok (.invokevirtual 100, 3) := by decide +kernel
theorem dX7_wall_5 : decode cX7_wall 5 = .ok (.ifCond .eq 12, 3) := by decide +kernel
theorem dX7_wall_8 : decode cX7_wall 8 = .ok (.iload_n 2, 1) := by decide +kernel
theorem dX7_wall_9 : decode cX7_wall 9 = .ok (.iconst 0, 1) := by decide +kernel
theorem dX7_wall_10 : decode cX7_wall 10 = .ok (.iconst 1, 1) := by decide +kernel
theorem dX7_wall_11 : decode cX7_wall 11 = .ok (.invokestatic 48, 3) := by decide +kernel
theorem dX7_wall_14 : decode cX7_wall 14 = .ok (.ifCond .ne 10, 3) := by decide +kernel
theorem dX7_wall_17 : decode cX7_wall 17 = .ok (.aload_n 0, 1) := by decide +kernel
theorem dX7_wall_18 : decode cX7_wall 18 = .ok (.ldc 77, 2) := by decide +kernel
theorem dX7_wall_20 : decode cX7_wall 20 = .ok (.invokevirtual 78, 3) := by decide +kernel
theorem dX7_wall_23 : decode cX7_wall 23 = .ok (.ireturn, 1) := by decide +kernel
theorem dX7_wall_24 : decode cX7_wall 24 = .ok (.aload_n 0, 1) := by decide +kernel
theorem dX7_wall_25 : decode cX7_wall 25 = .ok (.iload_n 1, 1) := by decide +kernel
theorem dX7_wall_26 : decode cX7_wall 26 = .ok (.iconst 3, 1) := by decide +kernel
theorem dX7_wall_27 : decode cX7_wall 27 = .ok (.invokevirtual 52, 3) := by decide +kernel
theorem dX7_wall_30 : decode cX7_wall 30 = .ok (.iconst 1, 1) := by decide +kernel
theorem dX7_wall_31 : decode cX7_wall 31 = .ok (.if_icmp .ne 10, 3) := by decide +kernel
theorem dX7_wall_34 : decode cX7_wall 34 = .ok (.aload_n 0, 1) := by decide +kernel
theorem dX7_wall_35 : decode cX7_wall 35 = .ok (.ldc 113, 2) := by decide +kernel
theorem dX7_wall_37 : decode cX7_wall 37 = .ok (.invokevirtual 78, 3) := by decide +kernel
theorem dX7_wall_40 : decode cX7_wall 40 = .ok (.ireturn, 1) := by decide +kernel
theorem dX7_wall_41 : decode cX7_wall 41 = .ok (.aload_n 0, 1) := by decide +kernel
theorem dX7_wall_42 : decode cX7_wall 42 = .ok (.iload_n 1, 1) := by decide +kernel
theorem dX7_wall_43 : decode cX7_wall 43 = .ok (.iconst 3, 1) := by decide +kernel
theorem dX7_wall_44 : decode cX7_wall 44 = .ok (.invokevirtual 52, 3) := by decide +kernel
theorem dX7_wall_47 : decode cX7_wall 47 = .ok (.iconst 2, 1) := by decide +kernel
theorem dX7_wall_48 : decode cX7_wall 48 = .ok (.if_icmp .ne 7, 3) := by decide +kernel
theorem dX7_wall_51 : decode cX7_wall 51 = .ok (.iconst 1, 1) := by decide +kernel
theorem dX7_wall_52 : decode cX7_wall 52 = .ok (.goto 4, 3) := by decide +kernel
theorem dX7_wall_55 : decode cX7_wall 55 = .ok (.iconst 0, 1) := by decide +kernel
theorem dX7_wall_56 : decode cX7_wall 56 = .ok (.istore_n 3, 1) := by decide +kernel
theorem dX7_wall_57 : decode cX7_wall 57 = .ok (.aload_n 0, 1) := by decide +kernel
theorem dX7_wall_58 : decode cX7_wall 58 = .ok (.iload_n 1, 1) := by decide +kernel
theorem dX7_wall_59 : decode cX7_wall 59 = .ok (.iconst 3, 1) := by decide +kernel
theorem dX7_wall_60 : decode cX7_wall 60 = .ok (.iload_n 2, 1) := by decide +kernel
theorem dX7_wall_61 : decode cX7_wall 61 = .ok (.iconst 1, 1) := by decide +kernel
theorem dX7_wall_62 : decode cX7_wall 62 = .ok (.if_icmp .ne 7, 3) := by decide +kernel
theorem dX7_wall_65 : decode cX7_wall 65 = .ok (.iconst 2, 1) := by decide +kernel
theorem dX7_wall_66 : decode cX7_wall 66 = .ok (.goto 4, 3) := by decide +kernel
theorem dX7_wall_69 : decode cX7_wall 69 = .ok (.iconst 0, 1) := by decide +kernel
theorem dX7_wall_70 : decode cX7_wall 70 = .ok (.invokevirtual 96, 3) := by decide +kernel
theorem dX7_wall_73 : decode cX7_wall 73 = .ok (.iload_n 3, 1) := by decide +kernel
theorem dX7_wall_74 : decode cX7_wall 74 = .ok (.ireturn, 1) := by decide +kernel
set_option maxRecDepth 20000 in
theorem ggX7_risk_X7_isPiece : GoodIn wsX7_risk wsX7_isPiece := goodIn_r _ [6, 7, 8, 9, 5, 10, 61, 62, 63, 64, 65, 66, 67, 68, 69, 70, 71, 72, 73, 74, 75, 76, 77, 78, 79, 80, 81] (by decide +kernel) (by decide +kernel)
set_option maxRecDepth 20000 in
theorem gX7_risk_X7_isPiece : GoodIn wsX7_risk (wsV RX7 100 RX7 yX7_isPiece wsX7_isPiece) := goodIn_app (goodIn_of _ (by decide +kernel)) ggX7_risk_X7_isPiece
set_option maxRecDepth 20000 in
theorem ggX7_risk_X7_isPerson : GoodIn wsX7_risk wsX7_isPerson := goodIn_r _ [14, 7, 8, 9, 5, 10, 61, 62, 63, 64, 65, 66, 67, 68, 69, 70, 71, 72, 73, 74, 75, 76, 77, 78, 79, 80, 81] (by decide +kernel) (by decide +kernel)
set_option maxRecDepth 20000 in
theorem gX7_risk_X7_isPerson : GoodIn wsX7_risk (wsV RX7 83 RX7 yX7_isPerson wsX7_isPerson) := goodIn_app (goodIn_of _ (by decide +kernel)) ggX7_risk_X7_isPerson
set_option maxRecDepth 20000 in
theorem ggX7_risk_X7_riskOf : GoodIn wsX7_risk wsX7_riskOf := goodIn_r _ [18, 19, 20, 21, 5, 22, 7, 23, 24, 25, 26, 27, 28, 29, 30, 31, 32, 33, 34, 35, 36, 37, 38, 39, 40, 41, 42, 43, 44, 45, 46, 47, 48, 49, 50, 51, 52, 53, 54, 61, 62, 63, 64, 65, 66, 67, 68, 69, 70, 71, 72, 73, 74, 75, 76, 77, 78, 79, 80, 81] (by decide +kernel) (by decide +kernel)
set_option maxRecDepth 20000 in
theorem gX7_risk_X7_riskOf : GoodIn wsX7_risk (wsV RX7 103 RX7 yX7_riskOf wsX7_riskOf) := goodIn_app (goodIn_of _ (by decide +kernel)) ggX7_risk_X7_riskOf
set_option maxRecDepth 20000 in
theorem ggX7_risk_X7_error : GoodIn wsX7_risk wsX7_error := goodIn_r _ [58, 59, 60, 61, 62, 63, 64, 65, 66, 67, 68, 69, 70, 71, 72, 73, 74, 75, 76, 77, 78, 79, 80, 81] (by decide +kernel) (by decide +kernel)
set_option maxRecDepth 20000 in
theorem gX7_risk_X7_error : GoodIn wsX7_risk (wsV RX7 78 RX7 yX7_error wsX7_error) := goodIn_app (goodIn_of _ (by decide +kernel)) ggX7_risk_X7_error
theorem dX7_risk_0 : decode cX7_risk 0 = .ok (.aload_n 0, 1) := by decide +kernel
theorem dX7_risk_1 : decode cX7_risk 1 = .ok (.iload_n 1, 1) := by decide +kernel
theorem dX7_risk_2 : decode cX7_risk 2 = .ok (.invokevirtual 100, 3) := by decide +kernel
theorem dX7_risk_5 : decode cX7_risk 5 = .ok (.ifCond .eq 20, 3) := by decide +kernel
theorem dX7_risk_8 : decode cX7_risk 8 = .ok (.aload_n 0, 1) := by decide +kernel
theorem dX7_risk_9 : decode cX7_risk 9 = .ok (.iload_n 2, 1) := by decide +kernel
theorem dX7_risk_10 : decode cX7_risk 10 = .ok (.invokevirtual 83, 3) := by decide +kernel
theorem dX7_risk_13 : decode cX7_risk 13 = .ok (.ifCond .eq 12, 3) := by decide +kernel
theorem dX7_risk_16 : decode cX7_risk 16 = .ok (.aload_n 0, 1) := by decide +kernel
theorem dX7_risk_17 : decode cX7_risk 17 = .ok (.iload_n 1, 1) := by decide +kernel
theorem dX7_risk_18 : decode cX7_risk 18 = .ok (.iload_n 2, 1) := by decide +kernel
theorem dX7_risk_19 : decode cX7_risk 19 = .ok (.invokevirtual 103, 3) := by decide +kernel
theorem dX7_risk_22 : decode cX7_risk 22 = .ok (.goto 9, 3) := by decide +kernel
theorem dX7_risk_25 : decode cX7_risk 25 = .ok (.aload_n 0, 1) := by decide +kernel
theorem dX7_risk_26 : decode cX7_risk 26 = .ok (.ldc 77, 2) := by decide +kernel
theorem dX7_risk_28 : decode cX7_risk 28 = .ok (.invokevirtual 78, 3) := by decide +kernel
theorem dX7_risk_31 : decode cX7_risk 31 = .ok (.ireturn, 1) := by decide +kernel
set_option maxRecDepth 20000 in
theorem ggX7_breaksDown_X7_doesCount : GoodIn wsX7_breaksDown wsX7_doesCount := goodIn_r _ [6, 1, 7, 8, 9, 5, 10, 11, 12, 13, 14, 15, 16, 17, 18, 26, 27, 28, 29, 30, 31, 32, 33, 34, 35, 36, 37, 38, 39, 40, 41, 42, 43, 44, 45, 46] (by decide +kernel) (by decide +kernel)
set_option maxRecDepth 20000 in
theorem gX7_breaksDown_X7_doesCount : GoodIn wsX7_breaksDown (wsV RX7 106 RX7 yX7_doesCount wsX7_doesCount) := goodIn_app (goodIn_of _ (by decide +kernel)) ggX7_breaksDown_X7_doesCount
set_option maxRecDepth 20000 in
theorem ggX7_breaksDown_X7_of : GoodIn wsX7_breaksDown wsX7_of := goodIn_r _ [14, 1, 26, 27, 28, 29, 30, 31, 32, 33, 34, 35, 36, 37, 38, 39, 40, 41, 42, 43, 44, 45, 46] (by decide +kernel) (by decide +kernel)
set_option maxRecDepth 20000 in
theorem gX7_breaksDown_X7_of : GoodIn wsX7_breaksDown (wsV RX7 52 RX7 yX7_of wsX7_of) := goodIn_app (goodIn_of _ (by decide +kernel)) ggX7_breaksDown_X7_of
set_option maxRecDepth 20000 in
theorem ggX7_breaksDown_X7_held : GoodIn wsX7_breaksDown wsX7_held := goodIn_r _ [21] (by decide +kernel) (by decide +kernel)
set_option maxRecDepth 20000 in
theorem gX7_breaksDown_X7_held : GoodIn wsX7_breaksDown (va_wsS RX7 114 yX7_held wsX7_held) := goodIn_app (goodIn_of _ (by decide +kernel)) ggX7_breaksDown_X7_held
set_option maxRecDepth 20000 in
theorem ggX7_breaksDown_X7_lets : GoodIn wsX7_breaksDown wsX7_lets := goodIn_r _ [25, 1, 26, 27, 28, 29, 30, 31, 32, 33, 34, 35, 36, 37, 38, 39, 40, 41, 42, 43, 44, 45, 46] (by decide +kernel) (by decide +kernel)
set_option maxRecDepth 20000 in
theorem gX7_breaksDown_X7_lets : GoodIn wsX7_breaksDown (wsV RX7 96 RX7 yX7_lets wsX7_lets) := goodIn_app (goodIn_of _ (by decide +kernel)) ggX7_breaksDown_X7_lets
theorem dX7_breaksDown_0 : decode cX7_breaksDown 0 = .ok (.aload_n 0, 1) := by decide +kernel
theorem dX7_breaksDown_1 : decode cX7_breaksDown 1 = .ok (.iload_n 1, 1) := by decide +kernel
theorem dX7_breaksDown_2 : decode cX7_breaksDown 2 = .ok (.invokevirtual 106, 3) := by decide +kernel
theorem dX7_breaksDown_5 : decode cX7_breaksDown 5 = .ok (.istore_n 2, 1) := by decide +kernel
theorem dX7_breaksDown_6 : decode cX7_breaksDown 6 = .ok (.bipush 6, 2) := by decide +kernel
theorem dX7_breaksDown_8 : decode cX7_breaksDown 8 = .ok (.iconst 3, 1) := by decide +kernel
theorem dX7_breaksDown_9 : decode cX7_breaksDown 9 = .ok (.aload_n 0, 1) := by decide +kernel
theorem dX7_breaksDown_10 : decode cX7_breaksDown 10 = .ok (.iload_n 1, 1) := by decide +kernel
theorem dX7_breaksDown_11 : decode cX7_breaksDown 11 = .ok (.iconst 2, 1) := by decide +kernel
theorem dX7_breaksDown_12 : decode cX7_breaksDown 12 = .ok (.invokevirtual 52, 3) := by decide +kernel
theorem dX7_breaksDown_15 : decode cX7_breaksDown 15 = .ok (.imul, 1) := by decide +kernel
theorem dX7_breaksDown_16 : decode cX7_breaksDown 16 = .ok (.iadd, 1) := by decide +kernel
theorem dX7_breaksDown_17 : decode cX7_breaksDown 17 = .ok (.iconst 2, 1) := by decide +kernel
theorem dX7_breaksDown_18 : decode cX7_breaksDown 18 = .ok (.iadd, 1) := by decide +kernel
theorem dX7_breaksDown_19 : decode cX7_breaksDown 19 = .ok (.istore_n 3, 1) := by decide +kernel
theorem dX7_breaksDown_20 : decode cX7_breaksDown 20 = .ok (.aload_n 0, 1) := by decide +kernel
theorem dX7_breaksDown_21 : decode cX7_breaksDown 21 = .ok (.getfield 9, 3) := by decide +kernel
theorem dX7_breaksDown_24 : decode cX7_breaksDown 24 = .ok (.iload_n 3, 1) := by decide +kernel
theorem dX7_breaksDown_25 : decode cX7_breaksDown 25 = .ok (.aload_n 0, 1) := by decide +kernel
theorem dX7_breaksDown_26 : decode cX7_breaksDown 26 = .ok (.getfield 9, 3) := by decide +kernel
theorem dX7_breaksDown_29 : decode cX7_breaksDown 29 = .ok (.iload_n 3, 1) := by decide +kernel
theorem dX7_breaksDown_30 : decode cX7_breaksDown 30 = .ok (.iaload, 1) := by decide +kernel
theorem dX7_breaksDown_31 : decode cX7_breaksDown 31 = .ok (.iload_n 2, 1) := by decide +kernel
theorem dX7_breaksDown_32 : decode cX7_breaksDown 32 = .ok (.ifCond .eq 7, 3) := by decide +kernel
theorem dX7_breaksDown_35 : decode cX7_breaksDown 35 = .ok (.iconst 1, 1) := by decide +kernel
theorem dX7_breaksDown_36 : decode cX7_breaksDown 36 = .ok (.goto 4, 3) := by decide +kernel
theorem dX7_breaksDown_39 : decode cX7_breaksDown 39 = .ok (.iconst 0, 1) := by decide +kernel
theorem dX7_breaksDown_40 : decode cX7_breaksDown 40 = .ok (.iadd, 1) := by decide +kernel
theorem dX7_breaksDown_41 : decode cX7_breaksDown 41 = .ok (.iconst 0, 1) := by decide +kernel
theorem dX7_breaksDown_42 : decode cX7_breaksDown 42 = .ok (.sipush 9999, 3) := by decide +kernel
theorem dX7_breaksDown_45 : decode cX7_breaksDown 45 = .ok (.invokestatic 114, 3) := by decide +kernel
theorem dX7_breaksDown_48 : decode cX7_breaksDown 48 = .ok (.iastore, 1) := by decide +kernel
theorem dX7_breaksDown_49 : decode cX7_breaksDown 49 = .ok (.aload_n 0, 1) := by decide +kernel
theorem dX7_breaksDown_50 : decode cX7_breaksDown 50 = .ok (.iload_n 1, 1) := by decide +kernel
theorem dX7_breaksDown_51 : decode cX7_breaksDown 51 = .ok (.iconst 3, 1) := by decide +kernel
theorem dX7_breaksDown_52 : decode cX7_breaksDown 52 = .ok (.iconst 1, 1) := by decide +kernel
theorem dX7_breaksDown_53 : decode cX7_breaksDown 53 = .ok (.invokevirtual 96, 3) := by decide +kernel
theorem dX7_breaksDown_56 : decode cX7_breaksDown 56 = .ok (.iload_n 2, 1) := by decide +kernel
theorem dX7_breaksDown_57 : decode cX7_breaksDown 57 = .ok (.ireturn, 1) := by decide +kernel
set_option maxRecDepth 20000 in
theorem ggX7_drop_X7_isPiece : GoodIn wsX7_drop wsX7_isPiece := goodIn_r _ [7, 8, 9, 10, 6, 11, 45, 46, 47, 48, 49, 50, 51, 52, 53, 54, 55, 56, 57, 58, 59, 60, 61, 62, 63, 64, 65] (by decide +kernel) (by decide +kernel)
set_option maxRecDepth 20000 in
theorem gX7_drop_X7_isPiece : GoodIn wsX7_drop (wsV RX7 100 RX7 yX7_isPiece wsX7_isPiece) := goodIn_app (goodIn_of _ (by decide +kernel)) ggX7_drop_X7_isPiece
set_option maxRecDepth 20000 in
theorem ggX7_drop_X7_error : GoodIn wsX7_drop wsX7_error := goodIn_r _ [15, 16, 17, 45, 46, 47, 48, 49, 50, 51, 52, 53, 54, 55, 56, 57, 58, 59, 60, 61, 62, 63, 64, 65] (by decide +kernel) (by decide +kernel)
set_option maxRecDepth 20000 in
theorem gX7_drop_X7_error : GoodIn wsX7_drop (wsV RX7 78 RX7 yX7_error wsX7_error) := goodIn_app (goodIn_of _ (by decide +kernel)) ggX7_drop_X7_error
set_option maxRecDepth 20000 in
theorem ggX7_drop_X7_of : GoodIn wsX7_drop wsX7_of := goodIn_r _ [21, 8, 45, 46, 47, 48, 49, 50, 51, 52, 53, 54, 55, 56, 57, 58, 59, 60, 61, 62, 63, 64, 65] (by decide +kernel) (by decide +kernel)
set_option maxRecDepth 20000 in
theorem gX7_drop_X7_of : GoodIn wsX7_drop (wsV RX7 52 RX7 yX7_of wsX7_of) := goodIn_app (goodIn_of _ (by decide +kernel)) ggX7_drop_X7_of
set_option maxRecDepth 20000 in
theorem ggX7_drop_X7_breaksDown : GoodIn wsX7_drop wsX7_breaksDown := goodIn_r _ [25, 8, 26, 27, 28, 6, 29, 30, 31, 32, 33, 18, 19, 20, 21, 34, 35, 36, 37, 38, 39, 40, 41, 42, 43, 44, 45, 46, 47, 48, 49, 50, 51, 52, 53, 54, 55, 56, 57, 58, 59, 60, 61, 62, 63, 64, 65] (by decide +kernel) (by decide +kernel)
set_option maxRecDepth 20000 in
theorem gX7_drop_X7_breaksDown : GoodIn wsX7_drop (wsV RX7 118 RX7 yX7_breaksDown wsX7_breaksDown) := goodIn_app (goodIn_of _ (by decide +kernel)) ggX7_drop_X7_breaksDown
theorem dX7_drop_0 : decode cX7_drop 0 = .ok (.aload_n 0, 1) := by decide +kernel
theorem dX7_drop_1 : decode cX7_drop 1 = .ok (.iload_n 1, 1) := by decide +kernel
theorem dX7_drop_2 : decode cX7_drop 2 = .ok (.invokevirtual 100, 3) := by decide +kernel
theorem dX7_drop_5 : decode cX7_drop 5 = .ok (.ifCond .ne 10, 3) := by decide +kernel
theorem dX7_drop_8 : decode cX7_drop 8 = .ok (.aload_n 0, 1) := by decide +kernel
theorem dX7_drop_9 : decode cX7_drop 9 = .ok (.ldc 77, 2) := by decide +kernel
theorem dX7_drop_11 : decode cX7_drop 11 = .ok (.invokevirtual 78, 3) := by decide +kernel
theorem dX7_drop_14 : decode cX7_drop 14 = .ok (.ireturn, 1) := by decide +kernel
theorem dX7_drop_15 : decode cX7_drop 15 = .ok (.aload_n 0, 1) := by decide +kernel
theorem dX7_drop_16 : decode cX7_drop 16 = .ok (.iload_n 1, 1) := by decide +kernel
theorem dX7_drop_17 : decode cX7_drop 17 = .ok (.iconst 3, 1) := by decide +kernel
theorem dX7_drop_18 : decode cX7_drop 18 = .ok (.invokevirtual 52, 3) := by decide +kernel
theorem dX7_drop_21 : decode cX7_drop 21 = .ok (.ifCond .eq 10, 3) := by decide +kernel
theorem dX7_drop_24 : decode cX7_drop 24 = .ok (.aload_n 0, 1) := by decide +kernel
theorem dX7_drop_25 : decode cX7_drop 25 = .ok (.ldc 113, 2) := by decide +kernel
theorem dX7_drop_27 : decode cX7_drop 27 = .ok (.invokevirtual 78, 3) := by decide +kernel
theorem dX7_drop_30 : decode cX7_drop 30 = .ok (.ireturn, 1) := by decide +kernel
theorem dX7_drop_31 : decode cX7_drop 31 = .ok (.aload_n 0, 1) := by decide +kernel
theorem dX7_drop_32 : decode cX7_drop 32 = .ok (.iload_n 1, 1) := by decide +kernel
theorem dX7_drop_33 : decode cX7_drop 33 = .ok (.invokevirtual 118, 3) := by decide +kernel
theorem dX7_drop_36 : decode cX7_drop 36 = .ok (.ifCond .eq 7, 3) := by decide +kernel
theorem dX7_drop_39 : decode cX7_drop 39 = .ok (.iconst 1, 1) := by decide +kernel
theorem dX7_drop_40 : decode cX7_drop 40 = .ok (.goto 4, 3) := by decide +kernel
theorem dX7_drop_43 : decode cX7_drop 43 = .ok (.iconst 0, 1) := by decide +kernel
theorem dX7_drop_44 : decode cX7_drop 44 = .ok (.ireturn, 1) := by decide +kernel
set_option maxRecDepth 20000 in
theorem ggX7_feed_X7_in : GoodIn wsX7_feed wsX7_in := goodIn_r _ [8] (by decide +kernel) (by decide +kernel)
set_option maxRecDepth 20000 in
theorem gX7_feed_X7_in : GoodIn wsX7_feed (va_wsS RX7 48 yX7_in wsX7_in) := goodIn_app (goodIn_of _ (by decide +kernel)) ggX7_feed_X7_in
set_option maxRecDepth 20000 in
theorem ggX7_feed_X7_error : GoodIn wsX7_feed wsX7_error := goodIn_r _ [12, 13, 14, 15, 16, 17, 18, 19, 20, 21, 22, 23, 24, 25, 26, 27, 28, 29, 30, 31, 32, 33, 34, 35] (by decide +kernel) (by decide +kernel)
set_option maxRecDepth 20000 in
theorem gX7_feed_X7_error : GoodIn wsX7_feed (wsV RX7 78 RX7 yX7_error wsX7_error) := goodIn_app (goodIn_of _ (by decide +kernel)) ggX7_feed_X7_error
theorem dX7_feed_0 : decode cX7_feed 0 = .ok (.iload_n 3, 1) := by decide +kernel
theorem dX7_feed_1 : decode cX7_feed 1 = .ok (.iconst 1, 1) := by decide +kernel
theorem dX7_feed_2 : decode cX7_feed 2 = .ok (.bipush 8, 2) := by decide +kernel
theorem dX7_feed_4 : decode cX7_feed 4 = .ok (.invokestatic 48, 3) := by decide +kernel
theorem dX7_feed_7 : decode cX7_feed 7 = .ok (.ifCond .ne 10, 3) := by decide +kernel
theorem dX7_feed_10 : decode cX7_feed 10 = .ok (.aload_n 0, 1) := by decide +kernel
theorem dX7_feed_11 : decode cX7_feed 11 = .ok (.ldc 77, 2) := by decide +kernel
theorem dX7_feed_13 : decode cX7_feed 13 = .ok (.invokevirtual 78, 3) := by decide +kernel
theorem dX7_feed_16 : decode cX7_feed 16 = .ok (.ireturn, 1) := by decide +kernel
theorem dX7_feed_17 : decode cX7_feed 17 = .ok (.aload_n 0, 1) := by decide +kernel
theorem dX7_feed_18 : decode cX7_feed 18 = .ok (.getfield 9, 3) := by decide +kernel
theorem dX7_feed_21 : decode cX7_feed 21 = .ok (.iconst 4, 1) := by decide +kernel
theorem dX7_feed_22 : decode cX7_feed 22 = .ok (.iaload, 1) := by decide +kernel
theorem dX7_feed_23 : decode cX7_feed 23 = .ok (.iload_n 3, 1) := by decide +kernel
theorem dX7_feed_24 : decode cX7_feed 24 = .ok (.iadd, 1) := by decide +kernel
theorem dX7_feed_25 : decode cX7_feed 25 = .ok (.bipush 60, 2) := by decide +kernel
theorem dX7_feed_27 : decode cX7_feed 27 = .ok (.if_icmp .le 10, 3) := by decide +kernel
theorem dX7_feed_30 : decode cX7_feed 30 = .ok (.aload_n 0, 1) := by decide +kernel
theorem dX7_feed_31 : decode cX7_feed 31 = .ok (.ldc 82, 2) := by decide +kernel
theorem dX7_feed_33 : decode cX7_feed 33 = .ok (.invokevirtual 78, 3) := by decide +kernel
theorem dX7_feed_36 : decode cX7_feed 36 = .ok (.ireturn, 1) := by decide +kernel
theorem dX7_feed_37 : decode cX7_feed 37 = .ok (.iconst 0, 1) := by decide +kernel
theorem dX7_feed_38 : decode cX7_feed 38 = .ok (.istore 4, 2) := by decide +kernel
theorem dX7_feed_40 : decode cX7_feed 40 = .ok (.iload 4, 2) := by decide +kernel
theorem dX7_feed_42 : decode cX7_feed 42 = .ok (.iload_n 3, 1) := by decide +kernel
theorem dX7_feed_43 : decode cX7_feed 43 = .ok (.if_icmp .ge 45, 3) := by decide +kernel
theorem dX7_feed_46 : decode cX7_feed 46 = .ok (.aload_n 0, 1) := by decide +kernel
theorem dX7_feed_47 : decode cX7_feed 47 = .ok (.getfield 9, 3) := by decide +kernel
theorem dX7_feed_50 : decode cX7_feed 50 = .ok (.bipush 57, 2) := by decide +kernel
theorem dX7_feed_52 : decode cX7_feed 52 = .ok (.aload_n 0, 1) := by decide +kernel
theorem dX7_feed_53 : decode cX7_feed 53 = .ok (.getfield 9, 3) := by decide +kernel
theorem dX7_feed_56 : decode cX7_feed 56 = .ok (.iconst 4, 1) := by decide +kernel
theorem dX7_feed_57 : decode cX7_feed 57 = .ok (.iaload, 1) := by decide +kernel
theorem dX7_feed_58 : decode cX7_feed 58 = .ok (.iadd, 1) := by decide +kernel
theorem dX7_feed_59 : decode cX7_feed 59 = .ok (.lload_n 1, 1) := by decide +kernel
theorem dX7_feed_60 : decode cX7_feed 60 = .ok (.bipush 8, 2) := by decide +kernel
theorem dX7_feed_62 : decode cX7_feed 62 = .ok (.iload 4, 2) := by decide +kernel
theorem dX7_feed_64 : decode cX7_feed 64 = .ok (.imul, 1) := by decide +kernel
theorem dX7_feed_65 : decode cX7_feed 65 = .ok (.lshr, 1) := by decide +kernel
theorem dX7_feed_66 : decode cX7_feed 66 = .ok (.ldc2_w 121, 3) := by decide +kernel
theorem dX7_feed_69 : decode cX7_feed 69 = .ok (.land, 1) := by decide +kernel
theorem dX7_feed_70 : decode cX7_feed 70 = .ok (.l2i, 1) := by decide +kernel
theorem dX7_feed_71 : decode cX7_feed 71 = .ok (.iastore, 1) := by decide +kernel
theorem dX7_feed_72 : decode cX7_feed 72 = .ok (.aload_n 0, 1) := by decide +kernel
theorem dX7_feed_73 : decode cX7_feed 73 = .ok (.getfield 9, 3) := by decide +kernel
theorem dX7_feed_76 : decode cX7_feed 76 = .ok (.iconst 4, 1) := by decide +kernel
theorem dX7_feed_77 : decode cX7_feed 77 = .ok (.dup2, 1) := by decide +kernel
theorem dX7_feed_78 : decode cX7_feed 78 = .ok (.iaload, 1) := by decide +kernel
theorem dX7_feed_79 : decode cX7_feed 79 = .ok (.iconst 1, 1) := by decide +kernel
theorem dX7_feed_80 : decode cX7_feed 80 = .ok (.iadd, 1) := by decide +kernel
theorem dX7_feed_81 : decode cX7_feed 81 = .ok (.iastore, 1) := by decide +kernel
theorem dX7_feed_82 : decode cX7_feed 82 = .ok (.iinc 4 1, 3) := by decide +kernel
theorem dX7_feed_85 : decode cX7_feed 85 = .ok (.goto (-45), 3) := by decide +kernel
theorem dX7_feed_88 : decode cX7_feed 88 = .ok (.aload_n 0, 1) := by decide +kernel
theorem dX7_feed_89 : decode cX7_feed 89 = .ok (.getfield 9, 3) := by decide +kernel
theorem dX7_feed_92 : decode cX7_feed 92 = .ok (.iconst 4, 1) := by decide +kernel
theorem dX7_feed_93 : decode cX7_feed 93 = .ok (.iaload, 1) := by decide +kernel
theorem dX7_feed_94 : decode cX7_feed 94 = .ok (.ireturn, 1) := by decide +kernel
theorem dX7_look_0 : decode cX7_look 0 = .ok (.aload_n 0, 1) := by decide +kernel
theorem dX7_look_1 : decode cX7_look 1 = .ok (.getfield 123, 3) := by decide +kernel
theorem dX7_look_4 : decode cX7_look 4 = .ok (.aload_n 0, 1) := by decide +kernel
theorem dX7_look_5 : decode cX7_look 5 = .ok (.getfield 9, 3) := by decide +kernel
theorem dX7_look_8 : decode cX7_look 8 = .ok (.iconst 4, 1) := by decide +kernel
theorem dX7_look_9 : decode cX7_look 9 = .ok (.iaload, 1) := by decide +kernel
theorem dX7_look_10 : decode cX7_look 10 = .ok (.if_icmp .ge 18, 3) := by decide +kernel
theorem dX7_look_13 : decode cX7_look 13 = .ok (.aload_n 0, 1) := by decide +kernel
theorem dX7_look_14 : decode cX7_look 14 = .ok (.getfield 9, 3) := by decide +kernel
theorem dX7_look_17 : decode cX7_look 17 = .ok (.bipush 57, 2) := by decide +kernel
theorem dX7_look_19 : decode cX7_look 19 = .ok (.aload_n 0, 1) := by decide +kernel
theorem dX7_look_20 : decode cX7_look 20 = .ok (.getfield 123, 3) := by decide +kernel
theorem dX7_look_23 : decode cX7_look 23 = .ok (.iadd, 1) := by decide +kernel
theorem dX7_look_24 : decode cX7_look 24 = .ok (.iaload, 1) := by decide +kernel
theorem dX7_look_25 : decode cX7_look 25 = .ok (.goto 4, 3) := by decide +kernel
theorem dX7_look_28 : decode cX7_look 28 = .ok (.iconst (-1), 1) := by decide +kernel
theorem dX7_look_29 : decode cX7_look 29 = .ok (.ireturn, 1) := by decide +kernel
theorem dX7_lays_0 : decode cX7_lays 0 = .ok (.aload_n 0, 1) := by decide +kernel
theorem dX7_lays_1 : decode cX7_lays 1 = .ok (.getfield 127, 3) := by decide +kernel
theorem dX7_lays_4 : decode cX7_lays 4 = .ok (.aload_n 0, 1) := by decide +kernel
theorem dX7_lays_5 : decode cX7_lays 5 = .ok (.getfield 28, 3) := by decide +kernel
theorem dX7_lays_8 : decode cX7_lays 8 = .ok (.arraylength, 1) := by decide +kernel
theorem dX7_lays_9 : decode cX7_lays 9 = .ok (.if_icmp .ge 33, 3) := by decide +kernel
theorem dX7_lays_12 : decode cX7_lays 12 = .ok (.aload_n 0, 1) := by decide +kernel
theorem dX7_lays_13 : decode cX7_lays 13 = .ok (.getfield 28, 3) := by decide +kernel
theorem dX7_lays_16 : decode cX7_lays 16 = .ok (.aload_n 0, 1) := by decide +kernel
theorem dX7_lays_17 : decode cX7_lays 17 = .ok (.getfield 127, 3) := by decide +kernel
theorem dX7_lays_20 : decode cX7_lays 20 = .ok (.iload_n 1, 1) := by decide +kernel
theorem dX7_lays_21 : decode cX7_lays 21 = .ok (.iastore, 1) := by decide +kernel
theorem dX7_lays_22 : decode cX7_lays 22 = .ok (.aload_n 0, 1) := by decide +kernel
theorem dX7_lays_23 : decode cX7_lays 23 = .ok (.getfield 31, 3) := by decide +kernel
theorem dX7_lays_26 : decode cX7_lays 26 = .ok (.aload_n 0, 1) := by decide +kernel
theorem dX7_lays_27 : decode cX7_lays 27 = .ok (.getfield 127, 3) := by decide +kernel
theorem dX7_lays_30 : decode cX7_lays 30 = .ok (.iload_n 2, 1) := by decide +kernel
theorem dX7_lays_31 : decode cX7_lays 31 = .ok (.iastore, 1) := by decide +kernel
theorem dX7_lays_32 : decode cX7_lays 32 = .ok (.aload_n 0, 1) := by decide +kernel
theorem dX7_lays_33 : decode cX7_lays 33 = .ok (.dup, 1) := by decide +kernel
theorem dX7_lays_34 : decode cX7_lays 34 = .ok (.getfield 127, 3) := by decide +kernel
theorem dX7_lays_37 : decode cX7_lays 37 = .ok (.iconst 1, 1) := by decide +kernel
theorem dX7_lays_38 : decode cX7_lays 38 = .ok (.iadd, 1) := by decide +kernel
theorem dX7_lays_39 : decode cX7_lays 39 = .ok (.putfield 127, 3) := by decide +kernel
theorem dX7_lays_42 : decode cX7_lays 42 = .ok (.return_, 1) := by decide +kernel
theorem dX7_nameOf_0 : decode cX7_nameOf 0 = .ok (.iload_n 1, 1) := by decide +kernel
theorem dX7_nameOf_1 : decode cX7_nameOf 1 = .ok (.lookupswitch 111 #[(98, 87), (99, 51), (100, 64), (112, 87), (114, 64)], 51) := by decide +kernel
theorem dX7_nameOf_52 : decode cX7_nameOf 52 = .ok (.aload_n 0, 1) := by decide +kernel
theorem dX7_nameOf_53 : decode cX7_nameOf 53 = .ok (.getfield 130, 3) := by decide +kernel
theorem dX7_nameOf_56 : decode cX7_nameOf 56 = .ok (.ifCond .ne 7, 3) := by decide +kernel
theorem dX7_nameOf_59 : decode cX7_nameOf 59 = .ok (.iconst 1, 1) := by decide +kernel
theorem dX7_nameOf_60 : decode cX7_nameOf 60 = .ok (.goto 4, 3) := by decide +kernel
theorem dX7_nameOf_63 : decode cX7_nameOf 63 = .ok (.iconst 0, 1) := by decide +kernel
theorem dX7_nameOf_64 : decode cX7_nameOf 64 = .ok (.ireturn, 1) := by decide +kernel
theorem dX7_nameOf_65 : decode cX7_nameOf 65 = .ok (.aload_n 0, 1) := by decide +kernel
theorem dX7_nameOf_66 : decode cX7_nameOf 66 = .ok (.getfield 130, 3) := by decide +kernel
theorem dX7_nameOf_69 : decode cX7_nameOf 69 = .ok (.ifCond .eq 7, 3) := by decide +kernel
theorem dX7_nameOf_72 : decode cX7_nameOf 72 = .ok (.iconst (-1), 1) := by decide +kernel
theorem dX7_nameOf_73 : decode cX7_nameOf 73 = .ok (.goto 14, 3) := by decide +kernel
theorem dX7_nameOf_76 : decode cX7_nameOf 76 = .ok (.iload_n 1, 1) := by decide +kernel
theorem dX7_nameOf_77 : decode cX7_nameOf 77 = .ok (.bipush 114, 2) := by decide +kernel
theorem dX7_nameOf_79 : decode cX7_nameOf 79 = .ok (.if_icmp .ne 7, 3) := by decide +kernel
theorem dX7_nameOf_82 : decode cX7_nameOf 82 = .ok (.iconst 0, 1) := by decide +kernel
theorem dX7_nameOf_83 : decode cX7_nameOf 83 = .ok (.goto 4, 3) := by decide +kernel
theorem dX7_nameOf_86 : decode cX7_nameOf 86 = .ok (.iconst 2, 1) := by decide +kernel
theorem dX7_nameOf_87 : decode cX7_nameOf 87 = .ok (.ireturn, 1) := by decide +kernel
theorem dX7_nameOf_88 : decode cX7_nameOf 88 = .ok (.aload_n 0, 1) := by decide +kernel
theorem dX7_nameOf_89 : decode cX7_nameOf 89 = .ok (.getfield 130, 3) := by decide +kernel
theorem dX7_nameOf_92 : decode cX7_nameOf 92 = .ok (.iconst 1, 1) := by decide +kernel
theorem dX7_nameOf_93 : decode cX7_nameOf 93 = .ok (.if_icmp .eq 7, 3) := by decide +kernel
theorem dX7_nameOf_96 : decode cX7_nameOf 96 = .ok (.iconst (-1), 1) := by decide +kernel
theorem dX7_nameOf_97 : decode cX7_nameOf 97 = .ok (.goto 14, 3) := by decide +kernel
theorem dX7_nameOf_100 : decode cX7_nameOf 100 = .ok (.iload_n 1, 1) := by decide +kernel
theorem dX7_nameOf_101 : decode cX7_nameOf 101 = .ok (.bipush 98, 2) := by decide +kernel
theorem dX7_nameOf_103 : decode cX7_nameOf 103 = .ok (.if_icmp .ne 7, 3) := by decide +kernel
theorem dX7_nameOf_106 : decode cX7_nameOf 106 = .ok (.iconst 1, 1) := by decide +kernel
theorem dX7_nameOf_107 : decode cX7_nameOf 107 = .ok (.goto 4, 3) := by decide +kernel
theorem dX7_nameOf_110 : decode cX7_nameOf 110 = .ok (.iconst 2, 1) := by decide +kernel
theorem dX7_nameOf_111 : decode cX7_nameOf 111 = .ok (.ireturn, 1) := by decide +kernel
theorem dX7_nameOf_112 : decode cX7_nameOf 112 = .ok (.iconst (-1), 1) := by decide +kernel
theorem dX7_nameOf_113 : decode cX7_nameOf 113 = .ok (.ireturn, 1) := by decide +kernel
set_option maxRecDepth 20000 in
theorem ggX7_number_X7_look : GoodIn wsX7_number wsX7_look := goodIn_r _ [7, 1, 8, 19, 20, 21, 22, 23, 24, 25, 26, 27, 28, 29, 30, 31, 32, 33, 34, 35, 36, 37, 38, 39] (by decide +kernel) (by decide +kernel)
set_option maxRecDepth 20000 in
theorem gX7_number_X7_look : GoodIn wsX7_number (wsV RX7 133 RX7 yX7_look wsX7_look) := goodIn_app (goodIn_of _ (by decide +kernel)) ggX7_number_X7_look
set_option maxRecDepth 20000 in
theorem ggX7_number_X7_in : GoodIn wsX7_number wsX7_in := goodIn_r _ [11] (by decide +kernel) (by decide +kernel)
set_option maxRecDepth 20000 in
theorem gX7_number_X7_in : GoodIn wsX7_number (va_wsS RX7 48 yX7_in wsX7_in) := goodIn_app (goodIn_of _ (by decide +kernel)) ggX7_number_X7_in
set_option maxRecDepth 20000 in
theorem ggX7_number_X7_lays : GoodIn wsX7_number wsX7_lays := goodIn_r _ [15, 16, 17, 18, 19, 20, 21, 22, 23, 24, 25, 26, 27, 28, 29, 30, 31, 32, 33, 34, 35, 36, 37, 38, 39] (by decide +kernel) (by decide +kernel)
set_option maxRecDepth 20000 in
theorem gX7_number_X7_lays : GoodIn wsX7_number (wsV RX7 140 RX7 yX7_lays wsX7_lays) := goodIn_app (goodIn_of _ (by decide +kernel)) ggX7_number_X7_lays
theorem dX7_number_0 : decode cX7_number 0 = .ok (.iconst 0, 1) := by decide +kernel
theorem dX7_number_1 : decode cX7_number 1 = .ok (.istore_n 1, 1) := by decide +kernel
theorem dX7_number_2 : decode cX7_number 2 = .ok (.iconst 0, 1) := by decide +kernel
theorem dX7_number_3 : decode cX7_number 3 = .ok (.istore_n 2, 1) := by decide +kernel
theorem dX7_number_4 : decode cX7_number 4 = .ok (.iload_n 2, 1) := by decide +kernel
theorem dX7_number_5 : decode cX7_number 5 = .ok (.iconst 4, 1) := by decide +kernel
theorem dX7_number_6 : decode cX7_number 6 = .ok (.if_icmp .ge 46, 3) := by decide +kernel
theorem dX7_number_9 : decode cX7_number 9 = .ok (.aload_n 0, 1) := by decide +kernel
theorem dX7_number_10 : decode cX7_number 10 = .ok (.invokevirtual 133, 3) := by decide +kernel
theorem dX7_number_13 : decode cX7_number 13 = .ok (.bipush 48, 2) := by decide +kernel
theorem dX7_number_15 : decode cX7_number 15 = .ok (.bipush 57, 2) := by decide +kernel
theorem dX7_number_17 : decode cX7_number 17 = .ok (.invokestatic 48, 3) := by decide +kernel
theorem dX7_number_20 : decode cX7_number 20 = .ok (.ifCond .eq 32, 3) := by decide +kernel
theorem dX7_number_23 : decode cX7_number 23 = .ok (.bipush 10, 2) := by decide +kernel
theorem dX7_number_25 : decode cX7_number 25 = .ok (.iload_n 1, 1) := by decide +kernel
theorem dX7_number_26 : decode cX7_number 26 = .ok (.imul, 1) := by decide +kernel
theorem dX7_number_27 : decode cX7_number 27 = .ok (.aload_n 0, 1) := by decide +kernel
theorem dX7_number_28 : decode cX7_number 28 = .ok (.invokevirtual 133, 3) := by decide +kernel
theorem dX7_number_31 : decode cX7_number 31 = .ok (.iadd, 1) := by decide +kernel
theorem dX7_number_32 : decode cX7_number 32 = .ok (.bipush 48, 2) := by decide +kernel
theorem dX7_number_34 : decode cX7_number 34 = .ok (.isub, 1) := by decide +kernel
theorem dX7_number_35 : decode cX7_number 35 = .ok (.istore_n 1, 1) := by decide +kernel
theorem dX7_number_36 : decode cX7_number 36 = .ok (.aload_n 0, 1) := by decide +kernel
theorem dX7_number_37 : decode cX7_number 37 = .ok (.dup, 1) := by decide +kernel
theorem dX7_number_38 : decode cX7_number 38 = .ok (.getfield 123, 3) := by decide +kernel
theorem dX7_number_41 : decode cX7_number 41 = .ok (.iconst 1, 1) := by decide +kernel
theorem dX7_number_42 : decode cX7_number 42 = .ok (.iadd, 1) := by decide +kernel
theorem dX7_number_43 : decode cX7_number 43 = .ok (.putfield 123, 3) := by decide +kernel
theorem dX7_number_46 : decode cX7_number 46 = .ok (.iinc 2 1, 3) := by decide +kernel
theorem dX7_number_49 : decode cX7_number 49 = .ok (.goto (-45), 3) := by decide +kernel
theorem dX7_number_52 : decode cX7_number 52 = .ok (.aload_n 0, 1) := by decide +kernel
theorem dX7_number_53 : decode cX7_number 53 = .ok (.iload_n 2, 1) := by decide +kernel
theorem dX7_number_54 : decode cX7_number 54 = .ok (.ifCond .ne 7, 3) := by decide +kernel
theorem dX7_number_57 : decode cX7_number 57 = .ok (.iconst 1, 1) := by decide +kernel
theorem dX7_number_58 : decode cX7_number 58 = .ok (.goto 4, 3) := by decide +kernel
theorem dX7_number_61 : decode cX7_number 61 = .ok (.iconst 0, 1) := by decide +kernel
theorem dX7_number_62 : decode cX7_number 62 = .ok (.putfield 136, 3) := by decide +kernel
theorem dX7_number_65 : decode cX7_number 65 = .ok (.aload_n 0, 1) := by decide +kernel
theorem dX7_number_66 : decode cX7_number 66 = .ok (.iconst 1, 1) := by decide +kernel
theorem dX7_number_67 : decode cX7_number 67 = .ok (.iload_n 1, 1) := by decide +kernel
theorem dX7_number_68 : decode cX7_number 68 = .ok (.invokevirtual 140, 3) := by decide +kernel
theorem dX7_number_71 : decode cX7_number 71 = .ok (.return_, 1) := by decide +kernel
set_option maxRecDepth 20000 in
theorem ggX7_opens_X7_one : GoodIn wsX7_opens wsX7_one := goodIn_r _ [35, 3, 18, 19, 20, 7, 21, 22, 36, 37, 38, 39, 40, 8, 9, 10, 11, 12, 13, 14, 41, 42, 43, 44, 45, 46, 47, 2, 48, 49, 50, 23, 24, 25, 26, 27, 28, 29, 30, 31, 32, 33, 34, 0, 1, 4, 5, 6, 15, 16, 17, 51, 52, 53, 54, 55, 56, 57, 58, 59, 60, 61, 62, 63, 64, 65, 66, 67, 68, 69, 70, 71, 72, 73, 74, 75, 76] (by decide +kernel) (by decide +kernel)
set_option maxRecDepth 20000 in
theorem gX7_opens_X7_one : GoodIn wsX7_opens (wsV RX7 147 RX7 yX7_one wsX7_one) := goodIn_app (goodIn_of _ (by decide +kernel)) ggX7_opens_X7_one
set_option maxRecDepth 20000 in
theorem ggX7_opens_X7_lays : GoodIn wsX7_opens wsX7_lays := goodIn_r _ [11, 12, 13, 14, 56, 57, 58, 59, 60, 61, 62, 63, 64, 65, 66, 67, 68, 69, 70, 71, 72, 73, 74, 75, 76] (by decide +kernel) (by decide +kernel)
set_option maxRecDepth 20000 in
theorem gX7_opens_X7_lays : GoodIn wsX7_opens (wsV RX7 140 RX7 yX7_lays wsX7_lays) := goodIn_app (goodIn_of _ (by decide +kernel)) ggX7_opens_X7_lays
set_option maxRecDepth 20000 in
theorem ggX7_opens_X7_any : GoodIn wsX7_opens wsX7_any := goodIn_r _ [27, 2, 3, 28, 29, 30, 7, 18, 19, 20, 21, 22, 8, 9, 10, 11, 12, 13, 14, 23, 24, 25, 26, 31, 32, 33, 34, 35, 36, 37, 38, 39, 40, 41, 42, 43, 44, 45, 46, 47, 48, 49, 50, 0, 1, 4, 5, 6, 15, 16, 17, 51, 52, 53, 54, 55, 56, 57, 58, 59, 60, 61, 62, 63, 64, 65, 66, 67, 68, 69, 70, 71, 72, 73, 74, 75, 76] (by decide +kernel) (by decide +kernel)
set_option maxRecDepth 20000 in
theorem gX7_opens_X7_any : GoodIn wsX7_opens (wsV RX7 150 RX7 yX7_any wsX7_any) := goodIn_app (goodIn_of _ (by decide +kernel)) ggX7_opens_X7_any
set_option maxRecDepth 20000 in
theorem ggX7_opens_X7_look : GoodIn wsX7_opens wsX7_look := goodIn_r _ [21, 3, 22, 56, 57, 58, 59, 60, 61, 62, 63, 64, 65, 66, 67, 68, 69, 70, 71, 72, 73, 74, 75, 76] (by decide +kernel) (by decide +kernel)
set_option maxRecDepth 20000 in
theorem gX7_opens_X7_look : GoodIn wsX7_opens (wsV RX7 133 RX7 yX7_look wsX7_look) := goodIn_app (goodIn_of _ (by decide +kernel)) ggX7_opens_X7_look
theorem dX7_opens_0 : decode cX7_opens 0 = .ok (.aload_n 0, 1) := by decide +kernel
theorem dX7_opens_1 : decode cX7_opens 1 = .ok (.getfield 144, 3) := by decide +kernel
theorem dX7_opens_4 : decode cX7_opens 4 = .ok (.iconst 5, 1) := by decide +kernel
theorem dX7_opens_5 : decode cX7_opens 5 = .ok (.if_icmp .ne 9, 3) := by decide +kernel
theorem dX7_opens_8 : decode cX7_opens 8 = .ok (.aload_n 0, 1) := by decide +kernel
theorem dX7_opens_9 : decode cX7_opens 9 = .ok (.iconst 1, 1) := by decide +kernel
theorem dX7_opens_10 : decode cX7_opens 10 = .ok (.putfield 136, 3) := by decide +kernel
theorem dX7_opens_13 : decode cX7_opens 13 = .ok (.return_, 1) := by decide +kernel
theorem dX7_opens_14 : decode cX7_opens 14 = .ok (.aload_n 0, 1) := by decide +kernel
theorem dX7_opens_15 : decode cX7_opens 15 = .ok (.dup, 1) := by decide +kernel
theorem dX7_opens_16 : decode cX7_opens 16 = .ok (.getfield 144, 3) := by decide +kernel
theorem dX7_opens_19 : decode cX7_opens 19 = .ok (.iconst 1, 1) := by decide +kernel
theorem dX7_opens_20 : decode cX7_opens 20 = .ok (.iadd, 1) := by decide +kernel
theorem dX7_opens_21 : decode cX7_opens 21 = .ok (.putfield 144, 3) := by decide +kernel
theorem dX7_opens_24 : decode cX7_opens 24 = .ok (.aload_n 0, 1) := by decide +kernel
theorem dX7_opens_25 : decode cX7_opens 25 = .ok (.dup, 1) := by decide +kernel
theorem dX7_opens_26 : decode cX7_opens 26 = .ok (.getfield 123, 3) := by decide +kernel
theorem dX7_opens_29 : decode cX7_opens 29 = .ok (.iconst 1, 1) := by decide +kernel
theorem dX7_opens_30 : decode cX7_opens 30 = .ok (.iadd, 1) := by decide +kernel
theorem dX7_opens_31 : decode cX7_opens 31 = .ok (.putfield 123, 3) := by decide +kernel
theorem dX7_opens_34 : decode cX7_opens 34 = .ok (.iload_n 1, 1) := by decide +kernel
theorem dX7_opens_35 : decode cX7_opens 35 = .ok (.bipush 33, 2) := by decide +kernel
theorem dX7_opens_37 : decode cX7_opens 37 = .ok (.if_icmp .ne 16, 3) := by decide +kernel
theorem dX7_opens_40 : decode cX7_opens 40 = .ok (.aload_n 0, 1) := by decide +kernel
theorem dX7_opens_41 : decode cX7_opens 41 = .ok (.invokevirtual 147, 3) := by decide +kernel
theorem dX7_opens_44 : decode cX7_opens 44 = .ok (.aload_n 0, 1) := by decide +kernel
theorem dX7_opens_45 : decode cX7_opens 45 = .ok (.iconst 3, 1) := by decide +kernel
theorem dX7_opens_46 : decode cX7_opens 46 = .ok (.iconst 0, 1) := by decide +kernel
theorem dX7_opens_47 : decode cX7_opens 47 = .ok (.invokevirtual 140, 3) := by decide +kernel
theorem dX7_opens_50 : decode cX7_opens 50 = .ok (.goto 53, 3) := by decide +kernel
theorem dX7_opens_53 : decode cX7_opens 53 = .ok (.aload_n 0, 1) := by decide +kernel
theorem dX7_opens_54 : decode cX7_opens 54 = .ok (.invokevirtual 150, 3) := by decide +kernel
theorem dX7_opens_57 : decode cX7_opens 57 = .ok (.aload_n 0, 1) := by decide +kernel
theorem dX7_opens_58 : decode cX7_opens 58 = .ok (.aload_n 0, 1) := by decide +kernel
theorem dX7_opens_59 : decode cX7_opens 59 = .ok (.getfield 136, 3) := by decide +kernel
theorem dX7_opens_62 : decode cX7_opens 62 = .ok (.ifCond .ne 12, 3) := by decide +kernel
theorem dX7_opens_65 : decode cX7_opens 65 = .ok (.aload_n 0, 1) := by decide +kernel
theorem dX7_opens_66 : decode cX7_opens 66 = .ok (.invokevirtual 133, 3) := by decide +kernel
theorem dX7_opens_69 : decode cX7_opens 69 = .ok (.bipush 41, 2) := by decide +kernel
theorem dX7_opens_71 : decode cX7_opens 71 = .ok (.if_icmp .eq 7, 3) := by decide +kernel
theorem dX7_opens_74 : decode cX7_opens 74 = .ok (.iconst 1, 1) := by decide +kernel
theorem dX7_opens_75 : decode cX7_opens 75 = .ok (.goto 4, 3) := by decide +kernel
theorem dX7_opens_78 : decode cX7_opens 78 = .ok (.iconst 0, 1) := by decide +kernel
theorem dX7_opens_79 : decode cX7_opens 79 = .ok (.putfield 136, 3) := by decide +kernel
theorem dX7_opens_82 : decode cX7_opens 82 = .ok (.aload_n 0, 1) := by decide +kernel
theorem dX7_opens_83 : decode cX7_opens 83 = .ok (.dup, 1) := by decide +kernel
theorem dX7_opens_84 : decode cX7_opens 84 = .ok (.getfield 123, 3) := by decide +kernel
theorem dX7_opens_87 : decode cX7_opens 87 = .ok (.aload_n 0, 1) := by decide +kernel
theorem dX7_opens_88 : decode cX7_opens 88 = .ok (.getfield 136, 3) := by decide +kernel
theorem dX7_opens_91 : decode cX7_opens 91 = .ok (.ifCond .eq 7, 3) := by decide +kernel
theorem dX7_opens_94 : decode cX7_opens 94 = .ok (.iconst 0, 1) := by decide +kernel
theorem dX7_opens_95 : decode cX7_opens 95 = .ok (.goto 4, 3) := by decide +kernel
theorem dX7_opens_98 : decode cX7_opens 98 = .ok (.iconst 1, 1) := by decide +kernel
theorem dX7_opens_99 : decode cX7_opens 99 = .ok (.iadd, 1) := by decide +kernel
theorem dX7_opens_100 : decode cX7_opens 100 = .ok (.putfield 123, 3) := by decide +kernel
theorem dX7_opens_103 : decode cX7_opens 103 = .ok (.aload_n 0, 1) := by decide +kernel
theorem dX7_opens_104 : decode cX7_opens 104 = .ok (.dup, 1) := by decide +kernel
theorem dX7_opens_105 : decode cX7_opens 105 = .ok (.getfield 144, 3) := by decide +kernel
theorem dX7_opens_108 : decode cX7_opens 108 = .ok (.iconst 1, 1) := by decide +kernel
theorem dX7_opens_109 : decode cX7_opens 109 = .ok (.isub, 1) := by decide +kernel
theorem dX7_opens_110 : decode cX7_opens 110 = .ok (.putfield 144, 3) := by decide +kernel
theorem dX7_opens_113 : decode cX7_opens 113 = .ok (.return_, 1) := by decide +kernel
set_option maxRecDepth 20000 in
theorem ggX7_one_X7_look : GoodIn wsX7_one wsX7_look := goodIn_r _ [6, 1, 7, 56, 57, 58, 59, 60, 61, 62, 63, 64, 65, 66, 67, 68, 69, 70, 71, 72, 73, 74, 75, 76] (by decide +kernel) (by decide +kernel)
set_option maxRecDepth 20000 in
theorem gX7_one_X7_look : GoodIn wsX7_one (wsV RX7 133 RX7 yX7_look wsX7_look) := goodIn_app (goodIn_of _ (by decide +kernel)) ggX7_one_X7_look
set_option maxRecDepth 20000 in
theorem ggX7_one_X7_nameOf : GoodIn wsX7_one wsX7_nameOf := goodIn_r _ [11, 12, 56, 57, 58, 59, 60, 61, 62, 63, 64, 65, 66, 67, 68, 69, 70, 71, 72, 73, 74, 75, 76] (by decide +kernel) (by decide +kernel)
set_option maxRecDepth 20000 in
theorem gX7_one_X7_nameOf : GoodIn wsX7_one (wsV RX7 153 RX7 yX7_nameOf wsX7_nameOf) := goodIn_app (goodIn_of _ (by decide +kernel)) ggX7_one_X7_nameOf
set_option maxRecDepth 20000 in
theorem ggX7_one_X7_lays : GoodIn wsX7_one wsX7_lays := goodIn_r _ [16, 17, 18, 19, 56, 57, 58, 59, 60, 61, 62, 63, 64, 65, 66, 67, 68, 69, 70, 71, 72, 73, 74, 75, 76] (by decide +kernel) (by decide +kernel)
set_option maxRecDepth 20000 in
theorem gX7_one_X7_lays : GoodIn wsX7_one (wsV RX7 140 RX7 yX7_lays wsX7_lays) := goodIn_app (goodIn_of _ (by decide +kernel)) ggX7_one_X7_lays
set_option maxRecDepth 20000 in
theorem ggX7_one_X7_opens : GoodIn wsX7_one wsX7_opens := goodIn_r _ [43, 44, 27, 1, 45, 46, 47, 5, 13, 14, 15, 16, 17, 18, 19, 48, 49, 50, 2, 3, 4, 6, 7, 31, 32, 33, 34, 35, 36, 37, 38, 39, 40, 41, 42, 0, 8, 9, 10, 11, 12, 20, 21, 22, 23, 24, 25, 26, 28, 29, 30, 51, 52, 53, 54, 55, 56, 57, 58, 59, 60, 61, 62, 63, 64, 65, 66, 67, 68, 69, 70, 71, 72, 73, 74, 75, 76] (by decide +kernel) (by decide +kernel)
set_option maxRecDepth 20000 in
theorem gX7_one_X7_opens : GoodIn wsX7_one (wsV RX7 156 RX7 yX7_opens wsX7_opens) := goodIn_app (goodIn_of _ (by decide +kernel)) ggX7_one_X7_opens
set_option maxRecDepth 20000 in
theorem ggX7_one_X7_number : GoodIn wsX7_one wsX7_number := goodIn_r _ [26, 1, 27, 2, 3, 4, 5, 6, 7, 28, 29, 30, 13, 14, 15, 16, 17, 18, 19, 56, 57, 58, 59, 60, 61, 62, 63, 64, 65, 66, 67, 68, 69, 70, 71, 72, 73, 74, 75, 76] (by decide +kernel) (by decide +kernel)
set_option maxRecDepth 20000 in
theorem gX7_one_X7_number : GoodIn wsX7_one (wsV RX7 160 RX7 yX7_number wsX7_number) := goodIn_app (goodIn_of _ (by decide +kernel)) ggX7_one_X7_number
theorem dX7_one_0 : decode cX7_one 0 = .ok (.aload_n 0, 1) := by decide +kernel
theorem dX7_one_1 : decode cX7_one 1 = .ok (.invokevirtual 133, 3) := by decide +kernel
theorem dX7_one_4 : decode cX7_one 4 = .ok (.istore_n 1, 1) := by decide +kernel
theorem dX7_one_5 : decode cX7_one 5 = .ok (.aload_n 0, 1) := by decide +kernel
theorem dX7_one_6 : decode cX7_one 6 = .ok (.iload_n 1, 1) := by decide +kernel
theorem dX7_one_7 : decode cX7_one 7 = .ok (.invokevirtual 153, 3) := by decide +kernel
theorem dX7_one_10 : decode cX7_one 10 = .ok (.istore_n 2, 1) := by decide +kernel
theorem dX7_one_11 : decode cX7_one 11 = .ok (.iload_n 2, 1) := by decide +kernel
theorem dX7_one_12 : decode cX7_one 12 = .ok (.ifCond .lt 22, 3) := by decide +kernel
theorem dX7_one_15 : decode cX7_one 15 = .ok (.aload_n 0, 1) := by decide +kernel
theorem dX7_one_16 : decode cX7_one 16 = .ok (.dup, 1) := by decide +kernel
theorem dX7_one_17 : decode cX7_one 17 = .ok (.getfield 123, 3) := by decide +kernel
theorem dX7_one_20 : decode cX7_one 20 = .ok (.iconst 1, 1) := by decide +kernel
theorem dX7_one_21 : decode cX7_one 21 = .ok (.iadd, 1) := by decide +kernel
theorem dX7_one_22 : decode cX7_one 22 = .ok (.putfield 123, 3) := by decide +kernel
theorem dX7_one_25 : decode cX7_one 25 = .ok (.aload_n 0, 1) := by decide +kernel
theorem dX7_one_26 : decode cX7_one 26 = .ok (.iconst 2, 1) := by decide +kernel
theorem dX7_one_27 : decode cX7_one 27 = .ok (.iload_n 2, 1) := by decide +kernel
theorem dX7_one_28 : decode cX7_one 28 = .ok (.invokevirtual 140, 3) := by decide +kernel
theorem dX7_one_31 : decode cX7_one 31 = .ok (.goto 27, 3) := by decide +kernel
theorem dX7_one_34 : decode cX7_one 34 = .ok (.iload_n 1, 1) := by decide +kernel
theorem dX7_one_35 : decode cX7_one 35 = .ok (.bipush 33, 2) := by decide +kernel
theorem dX7_one_37 : decode cX7_one 37 = .ok (.if_icmp .eq 9, 3) := by decide +kernel
theorem dX7_one_40 : decode cX7_one 40 = .ok (.iload_n 1, 1) := by decide +kernel
theorem dX7_one_41 : decode cX7_one 41 = .ok (.bipush 40, 2) := by decide +kernel
theorem dX7_one_43 : decode cX7_one 43 = .ok (.if_icmp .ne 11, 3) := by decide +kernel
theorem dX7_one_46 : decode cX7_one 46 = .ok (.aload_n 0, 1) := by decide +kernel
theorem dX7_one_47 : decode cX7_one 47 = .ok (.iload_n 1, 1) := by decide +kernel
theorem dX7_one_48 : decode cX7_one 48 = .ok (.invokevirtual 156, 3) := by decide +kernel
theorem dX7_one_51 : decode cX7_one 51 = .ok (.goto 7, 3) := by decide +kernel
theorem dX7_one_54 : decode cX7_one 54 = .ok (.aload_n 0, 1) := by decide +kernel
theorem dX7_one_55 : decode cX7_one 55 = .ok (.invokevirtual 160, 3) := by decide +kernel
theorem dX7_one_58 : decode cX7_one 58 = .ok (.return_, 1) := by decide +kernel
set_option maxRecDepth 20000 in
theorem ggX7_times_X7_one : GoodIn wsX7_times wsX7_one := goodIn_r _ [31, 2, 7, 8, 9, 6, 10, 11, 32, 33, 34, 35, 36, 12, 13, 14, 15, 16, 17, 18, 37, 38, 39, 40, 41, 42, 43, 1, 44, 45, 46, 19, 20, 21, 22, 23, 24, 25, 26, 27, 28, 29, 30, 47, 48, 3, 4, 5, 49, 50, 51, 52, 53, 54, 55, 0, 56, 57, 58, 59, 60, 61, 62, 63, 64, 65, 66, 67, 68, 69, 70, 71, 72, 73, 74, 75, 76] (by decide +kernel) (by decide +kernel)
set_option maxRecDepth 20000 in
theorem gX7_times_X7_one : GoodIn wsX7_times (wsV RX7 147 RX7 yX7_one wsX7_one) := goodIn_app (goodIn_of _ (by decide +kernel)) ggX7_times_X7_one
set_option maxRecDepth 20000 in
theorem ggX7_times_X7_look : GoodIn wsX7_times wsX7_look := goodIn_r _ [10, 2, 11, 56, 57, 58, 59, 60, 61, 62, 63, 64, 65, 66, 67, 68, 69, 70, 71, 72, 73, 74, 75, 76] (by decide +kernel) (by decide +kernel)
set_option maxRecDepth 20000 in
theorem gX7_times_X7_look : GoodIn wsX7_times (wsV RX7 133 RX7 yX7_look wsX7_look) := goodIn_app (goodIn_of _ (by decide +kernel)) ggX7_times_X7_look
set_option maxRecDepth 20000 in
theorem ggX7_times_X7_lays : GoodIn wsX7_times wsX7_lays := goodIn_r _ [15, 16, 17, 18, 56, 57, 58, 59, 60, 61, 62, 63, 64, 65, 66, 67, 68, 69, 70, 71, 72, 73, 74, 75, 76] (by decide +kernel) (by decide +kernel)
set_option maxRecDepth 20000 in
theorem gX7_times_X7_lays : GoodIn wsX7_times (wsV RX7 140 RX7 yX7_lays wsX7_lays) := goodIn_app (goodIn_of _ (by decide +kernel)) ggX7_times_X7_lays
theorem dX7_times_0 : decode cX7_times 0 = .ok (.aload_n 0, 1) := by decide +kernel
theorem dX7_times_1 : decode cX7_times 1 = .ok (.invokevirtual 147, 3) := by decide +kernel
theorem dX7_times_4 : decode cX7_times 4 = .ok (.aload_n 0, 1) := by decide +kernel
theorem dX7_times_5 : decode cX7_times 5 = .ok (.getfield 136, 3) := by decide +kernel
theorem dX7_times_8 : decode cX7_times 8 = .ok (.ifCond .ne 58, 3) := by decide +kernel
theorem dX7_times_11 : decode cX7_times 11 = .ok (.aload_n 0, 1) := by decide +kernel
theorem dX7_times_12 : decode cX7_times 12 = .ok (.invokevirtual 133, 3) := by decide +kernel
theorem dX7_times_15 : decode cX7_times 15 = .ok (.bipush 42, 2) := by decide +kernel
theorem dX7_times_17 : decode cX7_times 17 = .ok (.if_icmp .eq 21, 3) := by decide +kernel
theorem dX7_times_20 : decode cX7_times 20 = .ok (.aload_n 0, 1) := by decide +kernel
theorem dX7_times_21 : decode cX7_times 21 = .ok (.invokevirtual 133, 3) := by decide +kernel
theorem dX7_times_24 : decode cX7_times 24 = .ok (.bipush 47, 2) := by decide +kernel
theorem dX7_times_26 : decode cX7_times 26 = .ok (.if_icmp .eq 12, 3) := by decide +kernel
theorem dX7_times_29 : decode cX7_times 29 = .ok (.aload_n 0, 1) := by decide +kernel
theorem dX7_times_30 : decode cX7_times 30 = .ok (.invokevirtual 133, 3) := by decide +kernel
theorem dX7_times_33 : decode cX7_times 33 = .ok (.bipush 37, 2) := by decide +kernel
theorem dX7_times_35 : decode cX7_times 35 = .ok (.if_icmp .ne 31, 3) := by decide +kernel
theorem dX7_times_38 : decode cX7_times 38 = .ok (.aload_n 0, 1) := by decide +kernel
theorem dX7_times_39 : decode cX7_times 39 = .ok (.invokevirtual 133, 3) := by decide +kernel
theorem dX7_times_42 : decode cX7_times 42 = .ok (.istore_n 1, 1) := by decide +kernel
theorem dX7_times_43 : decode cX7_times 43 = .ok (.aload_n 0, 1) := by decide +kernel
theorem dX7_times_44 : decode cX7_times 44 = .ok (.dup, 1) := by decide +kernel
theorem dX7_times_45 : decode cX7_times 45 = .ok (.getfield 123, 3) := by decide +kernel
theorem dX7_times_48 : decode cX7_times 48 = .ok (.iconst 1, 1) := by decide +kernel
theorem dX7_times_49 : decode cX7_times 49 = .ok (.iadd, 1) := by decide +kernel
theorem dX7_times_50 : decode cX7_times 50 = .ok (.putfield 123, 3) := by decide +kernel
theorem dX7_times_53 : decode cX7_times 53 = .ok (.aload_n 0, 1) := by decide +kernel
theorem dX7_times_54 : decode cX7_times 54 = .ok (.invokevirtual 147, 3) := by decide +kernel
theorem dX7_times_57 : decode cX7_times 57 = .ok (.aload_n 0, 1) := by decide +kernel
theorem dX7_times_58 : decode cX7_times 58 = .ok (.iload_n 1, 1) := by decide +kernel
theorem dX7_times_59 : decode cX7_times 59 = .ok (.iconst 0, 1) := by decide +kernel
theorem dX7_times_60 : decode cX7_times 60 = .ok (.invokevirtual 140, 3) := by decide +kernel
theorem dX7_times_63 : decode cX7_times 63 = .ok (.goto (-59), 3) := by decide +kernel
theorem dX7_times_66 : decode cX7_times 66 = .ok (.return_, 1) := by decide +kernel
set_option maxRecDepth 20000 in
theorem ggX7_sum_X7_times : GoodIn wsX7_sum wsX7_times := goodIn_r _ [55, 1, 2, 49, 50, 51, 6, 7, 8, 9, 10, 11, 12, 13, 14, 15, 16, 17, 18, 19, 20, 21, 22, 23, 24, 25, 26, 27, 28, 29, 30, 31, 32, 33, 34, 35, 36, 37, 38, 39, 40, 41, 42, 43, 44, 45, 46, 47, 48, 52, 53, 54, 0, 3, 4, 5, 56, 57, 58, 59, 60, 61, 62, 63, 64, 65, 66, 67, 68, 69, 70, 71, 72, 73, 74, 75, 76] (by decide +kernel) (by decide +kernel)
set_option maxRecDepth 20000 in
theorem gX7_sum_X7_times : GoodIn wsX7_sum (wsV RX7 163 RX7 yX7_times wsX7_times) := goodIn_app (goodIn_of _ (by decide +kernel)) ggX7_sum_X7_times
set_option maxRecDepth 20000 in
theorem ggX7_sum_X7_look : GoodIn wsX7_sum wsX7_look := goodIn_r _ [10, 2, 11, 56, 57, 58, 59, 60, 61, 62, 63, 64, 65, 66, 67, 68, 69, 70, 71, 72, 73, 74, 75, 76] (by decide +kernel) (by decide +kernel)
set_option maxRecDepth 20000 in
theorem gX7_sum_X7_look : GoodIn wsX7_sum (wsV RX7 133 RX7 yX7_look wsX7_look) := goodIn_app (goodIn_of _ (by decide +kernel)) ggX7_sum_X7_look
set_option maxRecDepth 20000 in
theorem ggX7_sum_X7_lays : GoodIn wsX7_sum wsX7_lays := goodIn_r _ [15, 16, 17, 18, 56, 57, 58, 59, 60, 61, 62, 63, 64, 65, 66, 67, 68, 69, 70, 71, 72, 73, 74, 75, 76] (by decide +kernel) (by decide +kernel)
set_option maxRecDepth 20000 in
theorem gX7_sum_X7_lays : GoodIn wsX7_sum (wsV RX7 140 RX7 yX7_lays wsX7_lays) := goodIn_app (goodIn_of _ (by decide +kernel)) ggX7_sum_X7_lays
theorem dX7_sum_0 : decode cX7_sum 0 = .ok (.aload_n 0, 1) := by decide +kernel
theorem dX7_sum_1 : decode cX7_sum 1 = .ok (.invokevirtual 163, 3) := by decide +kernel
theorem dX7_sum_4 : decode cX7_sum 4 = .ok (.aload_n 0, 1) := by decide +kernel
theorem dX7_sum_5 : decode cX7_sum 5 = .ok (.getfield 136, 3) := by decide +kernel
theorem dX7_sum_8 : decode cX7_sum 8 = .ok (.ifCond .ne 49, 3) := by decide +kernel
theorem dX7_sum_11 : decode cX7_sum 11 = .ok (.aload_n 0, 1) := by decide +kernel
theorem dX7_sum_12 : decode cX7_sum 12 = .ok (.invokevirtual 133, 3) := by decide +kernel
theorem dX7_sum_15 : decode cX7_sum 15 = .ok (.bipush 43, 2) := by decide +kernel
theorem dX7_sum_17 : decode cX7_sum 17 = .ok (.if_icmp .eq 12, 3) := by decide +kernel
theorem dX7_sum_20 : decode cX7_sum 20 = .ok (.aload_n 0, 1) := by decide +kernel
theorem dX7_sum_21 : decode cX7_sum 21 = .ok (.invokevirtual 133, 3) := by decide +kernel
theorem dX7_sum_24 : decode cX7_sum 24 = .ok (.bipush 45, 2) := by decide +kernel
theorem dX7_sum_26 : decode cX7_sum 26 = .ok (.if_icmp .ne 31, 3) := by decide +kernel
theorem dX7_sum_29 : decode cX7_sum 29 = .ok (.aload_n 0, 1) := by decide +kernel
theorem dX7_sum_30 : decode cX7_sum 30 = .ok (.invokevirtual 133, 3) := by decide +kernel
theorem dX7_sum_33 : decode cX7_sum 33 = .ok (.istore_n 1, 1) := by decide +kernel
theorem dX7_sum_34 : decode cX7_sum 34 = .ok (.aload_n 0, 1) := by decide +kernel
theorem dX7_sum_35 : decode cX7_sum 35 = .ok (.dup, 1) := by decide +kernel
theorem dX7_sum_36 : decode cX7_sum 36 = .ok (.getfield 123, 3) := by decide +kernel
theorem dX7_sum_39 : decode cX7_sum 39 = .ok (.iconst 1, 1) := by decide +kernel
theorem dX7_sum_40 : decode cX7_sum 40 = .ok (.iadd, 1) := by decide +kernel
theorem dX7_sum_41 : decode cX7_sum 41 = .ok (.putfield 123, 3) := by decide +kernel
theorem dX7_sum_44 : decode cX7_sum 44 = .ok (.aload_n 0, 1) := by decide +kernel
theorem dX7_sum_45 : decode cX7_sum 45 = .ok (.invokevirtual 163, 3) := by decide +kernel
theorem dX7_sum_48 : decode cX7_sum 48 = .ok (.aload_n 0, 1) := by decide +kernel
theorem dX7_sum_49 : decode cX7_sum 49 = .ok (.iload_n 1, 1) := by decide +kernel
theorem dX7_sum_50 : decode cX7_sum 50 = .ok (.iconst 0, 1) := by decide +kernel
theorem dX7_sum_51 : decode cX7_sum 51 = .ok (.invokevirtual 140, 3) := by decide +kernel
theorem dX7_sum_54 : decode cX7_sum 54 = .ok (.goto (-50), 3) := by decide +kernel
theorem dX7_sum_57 : decode cX7_sum 57 = .ok (.return_, 1) := by decide +kernel
set_option maxRecDepth 20000 in
theorem ggX7_compares_X7_sum : GoodIn wsX7_compares wsX7_sum := goodIn_r _ [51, 1, 2, 52, 53, 54, 6, 7, 8, 9, 10, 11, 12, 13, 14, 15, 16, 17, 18, 19, 20, 21, 22, 23, 24, 25, 26, 0, 3, 4, 5, 27, 28, 29, 30, 31, 32, 33, 34, 35, 36, 37, 38, 39, 40, 41, 42, 43, 44, 45, 46, 47, 48, 49, 50, 55, 56, 57, 58, 59, 60, 61, 62, 63, 64, 65, 66, 67, 68, 69, 70, 71, 72, 73, 74, 75, 76] (by decide +kernel) (by decide +kernel)
set_option maxRecDepth 20000 in
theorem gX7_compares_X7_sum : GoodIn wsX7_compares (wsV RX7 166 RX7 yX7_sum wsX7_sum) := goodIn_app (goodIn_of _ (by decide +kernel)) ggX7_compares_X7_sum
set_option maxRecDepth 20000 in
theorem ggX7_compares_X7_look : GoodIn wsX7_compares wsX7_look := goodIn_r _ [10, 2, 11, 56, 57, 58, 59, 60, 61, 62, 63, 64, 65, 66, 67, 68, 69, 70, 71, 72, 73, 74, 75, 76] (by decide +kernel) (by decide +kernel)
set_option maxRecDepth 20000 in
theorem gX7_compares_X7_look : GoodIn wsX7_compares (wsV RX7 133 RX7 yX7_look wsX7_look) := goodIn_app (goodIn_of _ (by decide +kernel)) ggX7_compares_X7_look
set_option maxRecDepth 20000 in
theorem ggX7_compares_X7_lays : GoodIn wsX7_compares wsX7_lays := goodIn_r _ [15, 16, 17, 18, 56, 57, 58, 59, 60, 61, 62, 63, 64, 65, 66, 67, 68, 69, 70, 71, 72, 73, 74, 75, 76] (by decide +kernel) (by decide +kernel)
set_option maxRecDepth 20000 in
theorem gX7_compares_X7_lays : GoodIn wsX7_compares (wsV RX7 140 RX7 yX7_lays wsX7_lays) := goodIn_app (goodIn_of _ (by decide +kernel)) ggX7_compares_X7_lays
theorem dX7_compares_0 : decode cX7_compares 0 = .ok (.aload_n 0, 1) := by decide +kernel
theorem dX7_compares_1 : decode cX7_compares 1 = .ok (.invokevirtual 166, 3) := by decide +kernel
theorem dX7_compares_4 : decode cX7_compares 4 = .ok (.aload_n 0, 1) := by decide +kernel
theorem dX7_compares_5 : decode cX7_compares 5 = .ok (.invokevirtual 133, 3) := by decide +kernel
theorem dX7_compares_8 : decode cX7_compares 8 = .ok (.istore_n 1, 1) := by decide +kernel
theorem dX7_compares_9 : decode cX7_compares 9 = .ok (.aload_n 0, 1) := by decide +kernel
theorem dX7_compares_10 : decode cX7_compares 10 = .ok (.getfield 136, 3) := by decide +kernel
theorem dX7_compares_13 : decode cX7_compares 13 = .ok (.ifCond .ne 41, 3) := by decide +kernel
theorem dX7_compares_16 : decode cX7_compares 16 = .ok (.iload_n 1, 1) := by decide +kernel
theorem dX7_compares_17 : decode cX7_compares 17 = .ok (.bipush 60, 2) := by decide +kernel
theorem dX7_compares_19 : decode cX7_compares 19 = .ok (.if_icmp .eq 15, 3) := by decide +kernel
theorem dX7_compares_22 : decode cX7_compares 22 = .ok (.iload_n 1, 1) := by decide +kernel
theorem dX7_compares_23 : decode cX7_compares 23 = .ok (.bipush 61, 2) := by decide +kernel
theorem dX7_compares_25 : decode cX7_compares 25 = .ok (.if_icmp .eq 9, 3) := by decide +kernel
theorem dX7_compares_28 : decode cX7_compares 28 = .ok (.iload_n 1, 1) := by decide +kernel
theorem dX7_compares_29 : decode cX7_compares 29 = .ok (.bipush 62, 2) := by decide +kernel
theorem dX7_compares_31 : decode cX7_compares 31 = .ok (.if_icmp .ne 23, 3) := by decide +kernel
theorem dX7_compares_34 : decode cX7_compares 34 = .ok (.aload_n 0, 1) := by decide +kernel
theorem dX7_compares_35 : decode cX7_compares 35 = .ok (.dup, 1) := by decide +kernel
theorem dX7_compares_36 : decode cX7_compares 36 = .ok (.getfield 123, 3) := by decide +kernel
theorem dX7_compares_39 : decode cX7_compares 39 = .ok (.iconst 1, 1) := by decide +kernel
theorem dX7_compares_40 : decode cX7_compares 40 = .ok (.iadd, 1) := by decide +kernel
theorem dX7_compares_41 : decode cX7_compares 41 = .ok (.putfield 123, 3) := by decide +kernel
theorem dX7_compares_44 : decode cX7_compares 44 = .ok (.aload_n 0, 1) := by decide +kernel
theorem dX7_compares_45 : decode cX7_compares 45 = .ok (.invokevirtual 166, 3) := by decide +kernel
theorem dX7_compares_48 : decode cX7_compares 48 = .ok (.aload_n 0, 1) := by decide +kernel
theorem dX7_compares_49 : decode cX7_compares 49 = .ok (.iload_n 1, 1) := by decide +kernel
theorem dX7_compares_50 : decode cX7_compares 50 = .ok (.iconst 0, 1) := by decide +kernel
theorem dX7_compares_51 : decode cX7_compares 51 = .ok (.invokevirtual 140, 3) := by decide +kernel
theorem dX7_compares_54 : decode cX7_compares 54 = .ok (.return_, 1) := by decide +kernel
set_option maxRecDepth 20000 in
theorem ggX7_all_X7_compares : GoodIn wsX7_all wsX7_compares := goodIn_r _ [23, 1, 2, 24, 25, 26, 6, 7, 8, 9, 10, 11, 12, 13, 14, 15, 16, 17, 18, 0, 3, 4, 5, 19, 20, 21, 22, 27, 28, 29, 30, 31, 32, 33, 34, 35, 36, 37, 38, 39, 40, 41, 42, 43, 44, 45, 46, 47, 48, 49, 50, 51, 52, 53, 54, 55, 56, 57, 58, 59, 60, 61, 62, 63, 64, 65, 66, 67, 68, 69, 70, 71, 72, 73, 74, 75, 76] (by decide +kernel) (by decide +kernel)
set_option maxRecDepth 20000 in
theorem gX7_all_X7_compares : GoodIn wsX7_all (wsV RX7 169 RX7 yX7_compares wsX7_compares) := goodIn_app (goodIn_of _ (by decide +kernel)) ggX7_all_X7_compares
set_option maxRecDepth 20000 in
theorem ggX7_all_X7_look : GoodIn wsX7_all wsX7_look := goodIn_r _ [10, 2, 11, 56, 57, 58, 59, 60, 61, 62, 63, 64, 65, 66, 67, 68, 69, 70, 71, 72, 73, 74, 75, 76] (by decide +kernel) (by decide +kernel)
set_option maxRecDepth 20000 in
theorem gX7_all_X7_look : GoodIn wsX7_all (wsV RX7 133 RX7 yX7_look wsX7_look) := goodIn_app (goodIn_of _ (by decide +kernel)) ggX7_all_X7_look
set_option maxRecDepth 20000 in
theorem ggX7_all_X7_lays : GoodIn wsX7_all wsX7_lays := goodIn_r _ [15, 16, 17, 18, 56, 57, 58, 59, 60, 61, 62, 63, 64, 65, 66, 67, 68, 69, 70, 71, 72, 73, 74, 75, 76] (by decide +kernel) (by decide +kernel)
set_option maxRecDepth 20000 in
theorem gX7_all_X7_lays : GoodIn wsX7_all (wsV RX7 140 RX7 yX7_lays wsX7_lays) := goodIn_app (goodIn_of _ (by decide +kernel)) ggX7_all_X7_lays
theorem dX7_all_0 : decode cX7_all 0 = .ok (.aload_n 0, 1) := by decide +kernel
theorem dX7_all_1 : decode cX7_all 1 = .ok (.invokevirtual 169, 3) := by decide +kernel
theorem dX7_all_4 : decode cX7_all 4 = .ok (.aload_n 0, 1) := by decide +kernel
theorem dX7_all_5 : decode cX7_all 5 = .ok (.getfield 136, 3) := by decide +kernel
theorem dX7_all_8 : decode cX7_all 8 = .ok (.ifCond .ne 36, 3) := by decide +kernel
theorem dX7_all_11 : decode cX7_all 11 = .ok (.aload_n 0, 1) := by decide +kernel
theorem dX7_all_12 : decode cX7_all 12 = .ok (.invokevirtual 133, 3) := by decide +kernel
theorem dX7_all_15 : decode cX7_all 15 = .ok (.bipush 38, 2) := by decide +kernel
theorem dX7_all_17 : decode cX7_all 17 = .ok (.if_icmp .ne 27, 3) := by decide +kernel
theorem dX7_all_20 : decode cX7_all 20 = .ok (.aload_n 0, 1) := by decide +kernel
theorem dX7_all_21 : decode cX7_all 21 = .ok (.dup, 1) := by decide +kernel
theorem dX7_all_22 : decode cX7_all 22 = .ok (.getfield 123, 3) := by decide +kernel
theorem dX7_all_25 : decode cX7_all 25 = .ok (.iconst 1, 1) := by decide +kernel
theorem dX7_all_26 : decode cX7_all 26 = .ok (.iadd, 1) := by decide +kernel
theorem dX7_all_27 : decode cX7_all 27 = .ok (.putfield 123, 3) := by decide +kernel
theorem dX7_all_30 : decode cX7_all 30 = .ok (.aload_n 0, 1) := by decide +kernel
theorem dX7_all_31 : decode cX7_all 31 = .ok (.invokevirtual 169, 3) := by decide +kernel
theorem dX7_all_34 : decode cX7_all 34 = .ok (.aload_n 0, 1) := by decide +kernel
theorem dX7_all_35 : decode cX7_all 35 = .ok (.bipush 38, 2) := by decide +kernel
theorem dX7_all_37 : decode cX7_all 37 = .ok (.iconst 0, 1) := by decide +kernel
theorem dX7_all_38 : decode cX7_all 38 = .ok (.invokevirtual 140, 3) := by decide +kernel
theorem dX7_all_41 : decode cX7_all 41 = .ok (.goto (-37), 3) := by decide +kernel
theorem dX7_all_44 : decode cX7_all 44 = .ok (.return_, 1) := by decide +kernel
set_option maxRecDepth 20000 in
theorem ggX7_any_X7_all : GoodIn wsX7_any wsX7_all := goodIn_r _ [19, 1, 2, 20, 21, 22, 6, 7, 8, 9, 10, 11, 12, 13, 14, 15, 16, 17, 18, 0, 3, 4, 5, 23, 24, 25, 26, 27, 28, 29, 30, 31, 32, 33, 34, 35, 36, 37, 38, 39, 40, 41, 42, 43, 44, 45, 46, 47, 48, 49, 50, 51, 52, 53, 54, 55, 56, 57, 58, 59, 60, 61, 62, 63, 64, 65, 66, 67, 68, 69, 70, 71, 72, 73, 74, 75, 76] (by decide +kernel) (by decide +kernel)
set_option maxRecDepth 20000 in
theorem gX7_any_X7_all : GoodIn wsX7_any (wsV RX7 172 RX7 yX7_all wsX7_all) := goodIn_app (goodIn_of _ (by decide +kernel)) ggX7_any_X7_all
set_option maxRecDepth 20000 in
theorem ggX7_any_X7_look : GoodIn wsX7_any wsX7_look := goodIn_r _ [10, 2, 11, 56, 57, 58, 59, 60, 61, 62, 63, 64, 65, 66, 67, 68, 69, 70, 71, 72, 73, 74, 75, 76] (by decide +kernel) (by decide +kernel)
set_option maxRecDepth 20000 in
theorem gX7_any_X7_look : GoodIn wsX7_any (wsV RX7 133 RX7 yX7_look wsX7_look) := goodIn_app (goodIn_of _ (by decide +kernel)) ggX7_any_X7_look
set_option maxRecDepth 20000 in
theorem ggX7_any_X7_lays : GoodIn wsX7_any wsX7_lays := goodIn_r _ [15, 16, 17, 18, 56, 57, 58, 59, 60, 61, 62, 63, 64, 65, 66, 67, 68, 69, 70, 71, 72, 73, 74, 75, 76] (by decide +kernel) (by decide +kernel)
set_option maxRecDepth 20000 in
theorem gX7_any_X7_lays : GoodIn wsX7_any (wsV RX7 140 RX7 yX7_lays wsX7_lays) := goodIn_app (goodIn_of _ (by decide +kernel)) ggX7_any_X7_lays
theorem dX7_any_0 : decode cX7_any 0 = .ok (.aload_n 0, 1) := by decide +kernel
theorem dX7_any_1 : decode cX7_any 1 = .ok (.invokevirtual 172, 3) := by decide +kernel
theorem dX7_any_4 : decode cX7_any 4 = .ok (.aload_n 0, 1) := by decide +kernel
theorem dX7_any_5 : decode cX7_any 5 = .ok (.getfield 136, 3) := by decide +kernel
theorem dX7_any_8 : decode cX7_any 8 = .ok (.ifCond .ne 36, 3) := by decide +kernel
theorem dX7_any_11 : decode cX7_any 11 = .ok (.aload_n 0, 1) := by decide +kernel
theorem dX7_any_12 : decode cX7_any 12 = .ok (.invokevirtual 133, 3) := by decide +kernel
theorem dX7_any_15 : decode cX7_any 15 = .ok (.bipush 124, 2) := by decide +kernel
theorem dX7_any_17 : decode cX7_any 17 = .ok (.if_icmp .ne 27, 3) := by decide +kernel
theorem dX7_any_20 : decode cX7_any 20 = .ok (.aload_n 0, 1) := by decide +kernel
theorem dX7_any_21 : decode cX7_any 21 = .ok (.dup, 1) := by decide +kernel
theorem dX7_any_22 : decode cX7_any 22 = .ok (.getfield 123, 3) := by decide +kernel
theorem dX7_any_25 : decode cX7_any 25 = .ok (.iconst 1, 1) := by decide +kernel
theorem dX7_any_26 : decode cX7_any 26 = .ok (.iadd, 1) := by decide +kernel
theorem dX7_any_27 : decode cX7_any 27 = .ok (.putfield 123, 3) := by decide +kernel
theorem dX7_any_30 : decode cX7_any 30 = .ok (.aload_n 0, 1) := by decide +kernel
theorem dX7_any_31 : decode cX7_any 31 = .ok (.invokevirtual 172, 3) := by decide +kernel
theorem dX7_any_34 : decode cX7_any 34 = .ok (.aload_n 0, 1) := by decide +kernel
theorem dX7_any_35 : decode cX7_any 35 = .ok (.bipush 124, 2) := by decide +kernel
theorem dX7_any_37 : decode cX7_any 37 = .ok (.iconst 0, 1) := by decide +kernel
theorem dX7_any_38 : decode cX7_any 38 = .ok (.invokevirtual 140, 3) := by decide +kernel
theorem dX7_any_41 : decode cX7_any 41 = .ok (.goto (-37), 3) := by decide +kernel
theorem dX7_any_44 : decode cX7_any 44 = .ok (.return_, 1) := by decide +kernel
set_option maxRecDepth 20000 in
theorem ggX7_text_X7_in : GoodIn wsX7_text wsX7_in := goodIn_r _ [13] (by decide +kernel) (by decide +kernel)
set_option maxRecDepth 20000 in
theorem gX7_text_X7_in : GoodIn wsX7_text (va_wsS RX7 48 yX7_in wsX7_in) := goodIn_app (goodIn_of _ (by decide +kernel)) ggX7_text_X7_in
set_option maxRecDepth 20000 in
theorem ggX7_text_X7_error : GoodIn wsX7_text wsX7_error := goodIn_r _ [17, 18, 19, 64, 65, 66, 67, 68, 69, 70, 71, 72, 73, 74, 75, 76, 77, 78, 79, 80, 81, 82, 83, 84] (by decide +kernel) (by decide +kernel)
set_option maxRecDepth 20000 in
theorem gX7_text_X7_error : GoodIn wsX7_text (wsV RX7 78 RX7 yX7_error wsX7_error) := goodIn_app (goodIn_of _ (by decide +kernel)) ggX7_text_X7_error
set_option maxRecDepth 20000 in
theorem ggX7_text_X7_any : GoodIn wsX7_text wsX7_any := goodIn_r _ [23, 6, 4, 24, 25, 26, 12, 27, 28, 29, 30, 7, 31, 32, 33, 34, 3, 8, 9, 35, 36, 37, 38, 39, 40, 41, 42, 43, 44, 45, 46, 47, 2, 48, 49, 50, 51, 52, 53, 54, 10, 11, 13, 55, 5, 56, 57, 58, 20, 21, 22, 59, 60, 61, 62, 63, 64, 65, 66, 67, 68, 69, 70, 71, 72, 73, 74, 75, 76, 77, 78, 79, 80, 81, 82, 83, 84] (by decide +kernel) (by decide +kernel)
set_option maxRecDepth 20000 in
theorem gX7_text_X7_any : GoodIn wsX7_text (wsV RX7 150 RX7 yX7_any wsX7_any) := goodIn_app (goodIn_of _ (by decide +kernel)) ggX7_text_X7_any
theorem dX7_text_0 : decode cX7_text 0 = .ok (.iload_n 1, 1) := by decide +kernel
theorem dX7_text_1 : decode cX7_text 1 = .ok (.iconst 0, 1) := by decide +kernel
theorem dX7_text_2 : decode cX7_text 2 = .ok (.iconst 1, 1) := by decide +kernel
theorem dX7_text_3 : decode cX7_text 3 = .ok (.invokestatic 48, 3) := by decide +kernel
theorem dX7_text_6 : decode cX7_text 6 = .ok (.ifCond .ne 10, 3) := by decide +kernel
theorem dX7_text_9 : decode cX7_text 9 = .ok (.aload_n 0, 1) := by decide +kernel
theorem dX7_text_10 : decode cX7_text 10 = .ok (.ldc 77, 2) := by decide +kernel
theorem dX7_text_12 : decode cX7_text 12 = .ok (.invokevirtual 78, 3) := by decide +kernel
theorem dX7_text_15 : decode cX7_text 15 = .ok (.ireturn, 1) := by decide +kernel
theorem dX7_text_16 : decode cX7_text 16 = .ok (.aload_n 0, 1) := by decide +kernel
theorem dX7_text_17 : decode cX7_text 17 = .ok (.iload_n 1, 1) := by decide +kernel
theorem dX7_text_18 : decode cX7_text 18 = .ok (.putfield 130, 3) := by decide +kernel
theorem dX7_text_21 : decode cX7_text 21 = .ok (.aload_n 0, 1) := by decide +kernel
theorem dX7_text_22 : decode cX7_text 22 = .ok (.iconst 0, 1) := by decide +kernel
theorem dX7_text_23 : decode cX7_text 23 = .ok (.putfield 127, 3) := by decide +kernel
theorem dX7_text_26 : decode cX7_text 26 = .ok (.aload_n 0, 1) := by decide +kernel
theorem dX7_text_27 : decode cX7_text 27 = .ok (.iconst 0, 1) := by decide +kernel
theorem dX7_text_28 : decode cX7_text 28 = .ok (.putfield 123, 3) := by decide +kernel
theorem dX7_text_31 : decode cX7_text 31 = .ok (.aload_n 0, 1) := by decide +kernel
theorem dX7_text_32 : decode cX7_text 32 = .ok (.iconst 0, 1) := by decide +kernel
theorem dX7_text_33 : decode cX7_text 33 = .ok (.putfield 144, 3) := by decide +kernel
theorem dX7_text_36 : decode cX7_text 36 = .ok (.aload_n 0, 1) := by decide +kernel
theorem dX7_text_37 : decode cX7_text 37 = .ok (.iconst 0, 1) := by decide +kernel
theorem dX7_text_38 : decode cX7_text 38 = .ok (.putfield 136, 3) := by decide +kernel
theorem dX7_text_41 : decode cX7_text 41 = .ok (.aload_n 0, 1) := by decide +kernel
theorem dX7_text_42 : decode cX7_text 42 = .ok (.invokevirtual 150, 3) := by decide +kernel
theorem dX7_text_45 : decode cX7_text 45 = .ok (.aload_n 0, 1) := by decide +kernel
theorem dX7_text_46 : decode cX7_text 46 = .ok (.aload_n 0, 1) := by decide +kernel
theorem dX7_text_47 : decode cX7_text 47 = .ok (.getfield 136, 3) := by decide +kernel
theorem dX7_text_50 : decode cX7_text 50 = .ok (.ifCond .ne 16, 3) := by decide +kernel
theorem dX7_text_53 : decode cX7_text 53 = .ok (.aload_n 0, 1) := by decide +kernel
theorem dX7_text_54 : decode cX7_text 54 = .ok (.getfield 123, 3) := by decide +kernel
theorem dX7_text_57 : decode cX7_text 57 = .ok (.aload_n 0, 1) := by decide +kernel
theorem dX7_text_58 : decode cX7_text 58 = .ok (.getfield 9, 3) := by decide +kernel
theorem dX7_text_61 : decode cX7_text 61 = .ok (.iconst 4, 1) := by decide +kernel
theorem dX7_text_62 : decode cX7_text 62 = .ok (.iaload, 1) := by decide +kernel
theorem dX7_text_63 : decode cX7_text 63 = .ok (.if_icmp .ge 7, 3) := by decide +kernel
theorem dX7_text_66 : decode cX7_text 66 = .ok (.iconst 1, 1) := by decide +kernel
theorem dX7_text_67 : decode cX7_text 67 = .ok (.goto 4, 3) := by decide +kernel
theorem dX7_text_70 : decode cX7_text 70 = .ok (.iconst 0, 1) := by decide +kernel
theorem dX7_text_71 : decode cX7_text 71 = .ok (.putfield 136, 3) := by decide +kernel
theorem dX7_text_74 : decode cX7_text 74 = .ok (.aload_n 0, 1) := by decide +kernel
theorem dX7_text_75 : decode cX7_text 75 = .ok (.getfield 9, 3) := by decide +kernel
theorem dX7_text_78 : decode cX7_text 78 = .ok (.iconst 4, 1) := by decide +kernel
theorem dX7_text_79 : decode cX7_text 79 = .ok (.iconst 0, 1) := by decide +kernel
theorem dX7_text_80 : decode cX7_text 80 = .ok (.iastore, 1) := by decide +kernel
theorem dX7_text_81 : decode cX7_text 81 = .ok (.aload_n 0, 1) := by decide +kernel
theorem dX7_text_82 : decode cX7_text 82 = .ok (.getfield 136, 3) := by decide +kernel
theorem dX7_text_85 : decode cX7_text 85 = .ok (.ifCond .eq 11, 3) := by decide +kernel
theorem dX7_text_88 : decode cX7_text 88 = .ok (.bipush (-10), 2) := by decide +kernel
theorem dX7_text_90 : decode cX7_text 90 = .ok (.aload_n 0, 1) := by decide +kernel
theorem dX7_text_91 : decode cX7_text 91 = .ok (.getfield 123, 3) := by decide +kernel
theorem dX7_text_94 : decode cX7_text 94 = .ok (.isub, 1) := by decide +kernel
theorem dX7_text_95 : decode cX7_text 95 = .ok (.ireturn, 1) := by decide +kernel
theorem dX7_text_96 : decode cX7_text 96 = .ok (.sipush 141, 3) := by decide +kernel
theorem dX7_text_99 : decode cX7_text 99 = .ok (.bipush 121, 2) := by decide +kernel
theorem dX7_text_101 : decode cX7_text 101 = .ok (.iload_n 1, 1) := by decide +kernel
theorem dX7_text_102 : decode cX7_text 102 = .ok (.imul, 1) := by decide +kernel
theorem dX7_text_103 : decode cX7_text 103 = .ok (.iadd, 1) := by decide +kernel
theorem dX7_text_104 : decode cX7_text 104 = .ok (.istore_n 2, 1) := by decide +kernel
theorem dX7_text_105 : decode cX7_text 105 = .ok (.aload_n 0, 1) := by decide +kernel
theorem dX7_text_106 : decode cX7_text 106 = .ok (.getfield 9, 3) := by decide +kernel
theorem dX7_text_109 : decode cX7_text 109 = .ok (.iload_n 2, 1) := by decide +kernel
theorem dX7_text_110 : decode cX7_text 110 = .ok (.aload_n 0, 1) := by decide +kernel
theorem dX7_text_111 : decode cX7_text 111 = .ok (.getfield 127, 3) := by decide +kernel
theorem dX7_text_114 : decode cX7_text 114 = .ok (.iastore, 1) := by decide +kernel
theorem dX7_text_115 : decode cX7_text 115 = .ok (.iconst 0, 1) := by decide +kernel
theorem dX7_text_116 : decode cX7_text 116 = .ok (.istore_n 3, 1) := by decide +kernel
theorem dX7_text_117 : decode cX7_text 117 = .ok (.iload_n 3, 1) := by decide +kernel
theorem dX7_text_118 : decode cX7_text 118 = .ok (.aload_n 0, 1) := by decide +kernel
theorem dX7_text_119 : decode cX7_text 119 = .ok (.getfield 127, 3) := by decide +kernel
theorem dX7_text_122 : decode cX7_text 122 = .ok (.if_icmp .ge 42, 3) := by decide +kernel
theorem dX7_text_125 : decode cX7_text 125 = .ok (.aload_n 0, 1) := by decide +kernel
theorem dX7_text_126 : decode cX7_text 126 = .ok (.getfield 9, 3) := by decide +kernel
theorem dX7_text_129 : decode cX7_text 129 = .ok (.iload_n 2, 1) := by decide +kernel
theorem dX7_text_130 : decode cX7_text 130 = .ok (.iconst 1, 1) := by decide +kernel
theorem dX7_text_131 : decode cX7_text 131 = .ok (.iadd, 1) := by decide +kernel
theorem dX7_text_132 : decode cX7_text 132 = .ok (.iload_n 3, 1) := by decide +kernel
theorem dX7_text_133 : decode cX7_text 133 = .ok (.iadd, 1) := by decide +kernel
theorem dX7_text_134 : decode cX7_text 134 = .ok (.aload_n 0, 1) := by decide +kernel
theorem dX7_text_135 : decode cX7_text 135 = .ok (.getfield 28, 3) := by decide +kernel
theorem dX7_text_138 : decode cX7_text 138 = .ok (.iload_n 3, 1) := by decide +kernel
theorem dX7_text_139 : decode cX7_text 139 = .ok (.iaload, 1) := by decide +kernel
theorem dX7_text_140 : decode cX7_text 140 = .ok (.iastore, 1) := by decide +kernel
theorem dX7_text_141 : decode cX7_text 141 = .ok (.aload_n 0, 1) := by decide +kernel
theorem dX7_text_142 : decode cX7_text 142 = .ok (.getfield 9, 3) := by decide +kernel
theorem dX7_text_145 : decode cX7_text 145 = .ok (.iload_n 2, 1) := by decide +kernel
theorem dX7_text_146 : decode cX7_text 146 = .ok (.bipush 61, 2) := by decide +kernel
theorem dX7_text_148 : decode cX7_text 148 = .ok (.iadd, 1) := by decide +kernel
theorem dX7_text_149 : decode cX7_text 149 = .ok (.iload_n 3, 1) := by decide +kernel
theorem dX7_text_150 : decode cX7_text 150 = .ok (.iadd, 1) := by decide +kernel
theorem dX7_text_151 : decode cX7_text 151 = .ok (.aload_n 0, 1) := by decide +kernel
theorem dX7_text_152 : decode cX7_text 152 = .ok (.getfield 31, 3) := by decide +kernel
theorem dX7_text_155 : decode cX7_text 155 = .ok (.iload_n 3, 1) := by decide +kernel
theorem dX7_text_156 : decode cX7_text 156 = .ok (.iaload, 1) := by decide +kernel
theorem dX7_text_157 : decode cX7_text 157 = .ok (.iastore, 1) := by decide +kernel
theorem dX7_text_158 : decode cX7_text 158 = .ok (.iinc 3 1, 3) := by decide +kernel
theorem dX7_text_161 : decode cX7_text 161 = .ok (.goto (-44), 3) := by decide +kernel
theorem dX7_text_164 : decode cX7_text 164 = .ok (.iconst 1, 1) := by decide +kernel
theorem dX7_text_165 : decode cX7_text 165 = .ok (.ireturn, 1) := by decide +kernel
set_option maxRecDepth 20000 in
theorem ggX7_untell_X7_in : GoodIn wsX7_untell wsX7_in := goodIn_r _ [5] (by decide +kernel) (by decide +kernel)
set_option maxRecDepth 20000 in
theorem gX7_untell_X7_in : GoodIn wsX7_untell (va_wsS RX7 48 yX7_in wsX7_in) := goodIn_app (goodIn_of _ (by decide +kernel)) ggX7_untell_X7_in
set_option maxRecDepth 20000 in
theorem ggX7_untell_X7_error : GoodIn wsX7_untell wsX7_error := goodIn_r _ [9, 10, 11, 17, 18, 19, 20, 21, 22, 23, 24, 25, 26, 27, 28, 29, 30, 31, 32, 33, 34, 35, 36, 37] (by decide +kernel) (by decide +kernel)
set_option maxRecDepth 20000 in
theorem gX7_untell_X7_error : GoodIn wsX7_untell (wsV RX7 78 RX7 yX7_error wsX7_error) := goodIn_app (goodIn_of _ (by decide +kernel)) ggX7_untell_X7_error
set_option maxRecDepth 20000 in
theorem ggX7_untell_X7_becomes : GoodIn wsX7_untell wsX7_becomes := goodIn_r _ [15, 16, 17, 18, 19, 20, 21, 22, 23, 24, 25, 26, 27, 28, 29, 30, 31, 32, 33, 34, 35, 36, 37] (by decide +kernel) (by decide +kernel)
set_option maxRecDepth 20000 in
theorem gX7_untell_X7_becomes : GoodIn wsX7_untell (wsV RX7 109 RX7 yX7_becomes wsX7_becomes) := goodIn_app (goodIn_of _ (by decide +kernel)) ggX7_untell_X7_becomes
theorem dX7_untell_0 : decode cX7_untell 0 = .ok (.iload_n 1, 1) := by decide +kernel
theorem dX7_untell_1 : decode cX7_untell 1 = .ok (.iconst 0, 1) := by decide +kernel
theorem dX7_untell_2 : decode cX7_untell 2 = .ok (.iconst 1, 1) := by decide +kernel
theorem dX7_untell_3 : decode cX7_untell 3 = .ok (.invokestatic 48, 3) := by decide +kernel
theorem dX7_untell_6 : decode cX7_untell 6 = .ok (.ifCond .ne 10, 3) := by decide +kernel
theorem dX7_untell_9 : decode cX7_untell 9 = .ok (.aload_n 0, 1) := by decide +kernel
theorem dX7_untell_10 : decode cX7_untell 10 = .ok (.ldc 77, 2) := by decide +kernel
theorem dX7_untell_12 : decode cX7_untell 12 = .ok (.invokevirtual 78, 3) := by decide +kernel
theorem dX7_untell_15 : decode cX7_untell 15 = .ok (.ireturn, 1) := by decide +kernel
theorem dX7_untell_16 : decode cX7_untell 16 = .ok (.aload_n 0, 1) := by decide +kernel
theorem dX7_untell_17 : decode cX7_untell 17 = .ok (.sipush 141, 3) := by decide +kernel
theorem dX7_untell_20 : decode cX7_untell 20 = .ok (.bipush 121, 2) := by decide +kernel
theorem dX7_untell_22 : decode cX7_untell 22 = .ok (.iload_n 1, 1) := by decide +kernel
theorem dX7_untell_23 : decode cX7_untell 23 = .ok (.imul, 1) := by decide +kernel
theorem dX7_untell_24 : decode cX7_untell 24 = .ok (.iadd, 1) := by decide +kernel
theorem dX7_untell_25 : decode cX7_untell 25 = .ok (.iconst 0, 1) := by decide +kernel
theorem dX7_untell_26 : decode cX7_untell 26 = .ok (.invokevirtual 109, 3) := by decide +kernel
theorem dX7_untell_29 : decode cX7_untell 29 = .ok (.ifCond .le 7, 3) := by decide +kernel
theorem dX7_untell_32 : decode cX7_untell 32 = .ok (.iconst 1, 1) := by decide +kernel
theorem dX7_untell_33 : decode cX7_untell 33 = .ok (.goto 4, 3) := by decide +kernel
theorem dX7_untell_36 : decode cX7_untell 36 = .ok (.iconst 0, 1) := by decide +kernel
theorem dX7_untell_37 : decode cX7_untell 37 = .ok (.ireturn, 1) := by decide +kernel
theorem dX7_twoOf_0 : decode cX7_twoOf 0 = .ok (.iload_n 0, 1) := by decide +kernel
theorem dX7_twoOf_1 : decode cX7_twoOf 1 = .ok (.tableswitch 202 37 62 #[143, 188, 202, 202, 202, 127, 119, 202, 123, 202, 131, 202, 202, 202, 202, 202, 202, 202, 202, 202, 202, 202, 202, 155, 166, 177], 119) := by decide +kernel
theorem dX7_twoOf_120 : decode cX7_twoOf 120 = .ok (.iload_n 1, 1) := by decide +kernel
theorem dX7_twoOf_121 : decode cX7_twoOf 121 = .ok (.iload_n 2, 1) := by decide +kernel
theorem dX7_twoOf_122 : decode cX7_twoOf 122 = .ok (.iadd, 1) := by decide +kernel
theorem dX7_twoOf_123 : decode cX7_twoOf 123 = .ok (.ireturn, 1) := by decide +kernel
theorem dX7_twoOf_124 : decode cX7_twoOf 124 = .ok (.iload_n 1, 1) := by decide +kernel
theorem dX7_twoOf_125 : decode cX7_twoOf 125 = .ok (.iload_n 2, 1) := by decide +kernel
theorem dX7_twoOf_126 : decode cX7_twoOf 126 = .ok (.isub, 1) := by decide +kernel
theorem dX7_twoOf_127 : decode cX7_twoOf 127 = .ok (.ireturn, 1) := by decide +kernel
theorem dX7_twoOf_128 : decode cX7_twoOf 128 = .ok (.iload_n 1, 1) := by decide +kernel
theorem dX7_twoOf_129 : decode cX7_twoOf 129 = .ok (.iload_n 2, 1) := by decide +kernel
theorem dX7_twoOf_130 : decode cX7_twoOf 130 = .ok (.imul, 1) := by decide +kernel
theorem dX7_twoOf_131 : decode cX7_twoOf 131 = .ok (.ireturn, 1) := by decide +kernel
theorem dX7_twoOf_132 : decode cX7_twoOf 132 = .ok (.iload_n 2, 1) := by decide +kernel
theorem dX7_twoOf_133 : decode cX7_twoOf 133 = .ok (.ifCond .ne 7, 3) := by decide +kernel
theorem dX7_twoOf_136 : decode cX7_twoOf 136 = .ok (.iconst 0, 1) := by decide +kernel
theorem dX7_twoOf_137 : decode cX7_twoOf 137 = .ok (.goto 6, 3) := by decide +kernel
theorem dX7_twoOf_140 : decode cX7_twoOf 140 = .ok (.iload_n 1, 1) := by decide +kernel
theorem dX7_twoOf_141 : decode cX7_twoOf 141 = .ok (.iload_n 2, 1) := by decide +kernel
theorem dX7_twoOf_142 : decode cX7_twoOf 142 = .ok (.idiv, 1) := by decide +kernel
theorem dX7_twoOf_143 : decode cX7_twoOf 143 = .ok (.ireturn, 1) := by decide +kernel
theorem dX7_twoOf_144 : decode cX7_twoOf 144 = .ok (.iload_n 2, 1) := by decide +kernel
theorem dX7_twoOf_145 : decode cX7_twoOf 145 = .ok (.ifCond .ne 7, 3) := by decide +kernel
theorem dX7_twoOf_148 : decode cX7_twoOf 148 = .ok (.iconst 0, 1) := by decide +kernel
theorem dX7_twoOf_149 : decode cX7_twoOf 149 = .ok (.goto 6, 3) := by decide +kernel
theorem dX7_twoOf_152 : decode cX7_twoOf 152 = .ok (.iload_n 1, 1) := by decide +kernel
theorem dX7_twoOf_153 : decode cX7_twoOf 153 = .ok (.iload_n 2, 1) := by decide +kernel
theorem dX7_twoOf_154 : decode cX7_twoOf 154 = .ok (.irem, 1) := by decide +kernel
theorem dX7_twoOf_155 : decode cX7_twoOf 155 = .ok (.ireturn, 1) := by decide +kernel
theorem dX7_twoOf_156 : decode cX7_twoOf 156 = .ok (.iload_n 1, 1) := by decide +kernel
theorem dX7_twoOf_157 : decode cX7_twoOf 157 = .ok (.iload_n 2, 1) := by decide +kernel
theorem dX7_twoOf_158 : decode cX7_twoOf 158 = .ok (.if_icmp .ge 7, 3) := by decide +kernel
theorem dX7_twoOf_161 : decode cX7_twoOf 161 = .ok (.iconst 1, 1) := by decide +kernel
theorem dX7_twoOf_162 : decode cX7_twoOf 162 = .ok (.goto 4, 3) := by decide +kernel
theorem dX7_twoOf_165 : decode cX7_twoOf 165 = .ok (.iconst 0, 1) := by decide +kernel
theorem dX7_twoOf_166 : decode cX7_twoOf 166 = .ok (.ireturn, 1) := by decide +kernel
theorem dX7_twoOf_167 : decode cX7_twoOf 167 = .ok (.iload_n 1, 1) := by decide +kernel
theorem dX7_twoOf_168 : decode cX7_twoOf 168 = .ok (.iload_n 2, 1) := by decide +kernel
theorem dX7_twoOf_169 : decode cX7_twoOf 169 = .ok (.if_icmp .ne 7, 3) := by decide +kernel
theorem dX7_twoOf_172 : decode cX7_twoOf 172 = .ok (.iconst 1, 1) := by decide +kernel
theorem dX7_twoOf_173 : decode cX7_twoOf 173 = .ok (.goto 4, 3) := by decide +kernel
theorem dX7_twoOf_176 : decode cX7_twoOf 176 = .ok (.iconst 0, 1) := by decide +kernel
theorem dX7_twoOf_177 : decode cX7_twoOf 177 = .ok (.ireturn, 1) := by decide +kernel
theorem dX7_twoOf_178 : decode cX7_twoOf 178 = .ok (.iload_n 1, 1) := by decide +kernel
theorem dX7_twoOf_179 : decode cX7_twoOf 179 = .ok (.iload_n 2, 1) := by decide +kernel
theorem dX7_twoOf_180 : decode cX7_twoOf 180 = .ok (.if_icmp .le 7, 3) := by decide +kernel
theorem dX7_twoOf_183 : decode cX7_twoOf 183 = .ok (.iconst 1, 1) := by decide +kernel
theorem dX7_twoOf_184 : decode cX7_twoOf 184 = .ok (.goto 4, 3) := by decide +kernel
theorem dX7_twoOf_187 : decode cX7_twoOf 187 = .ok (.iconst 0, 1) := by decide +kernel
theorem dX7_twoOf_188 : decode cX7_twoOf 188 = .ok (.ireturn, 1) := by decide +kernel
theorem dX7_twoOf_189 : decode cX7_twoOf 189 = .ok (.iload_n 1, 1) := by decide +kernel
theorem dX7_twoOf_190 : decode cX7_twoOf 190 = .ok (.ifCond .eq 11, 3) := by decide +kernel
theorem dX7_twoOf_193 : decode cX7_twoOf 193 = .ok (.iload_n 2, 1) := by decide +kernel
theorem dX7_twoOf_194 : decode cX7_twoOf 194 = .ok (.ifCond .eq 7, 3) := by decide +kernel
theorem dX7_twoOf_197 : decode cX7_twoOf 197 = .ok (.iconst 1, 1) := by decide +kernel
theorem dX7_twoOf_198 : decode cX7_twoOf 198 = .ok (.goto 4, 3) := by decide +kernel
theorem dX7_twoOf_201 : decode cX7_twoOf 201 = .ok (.iconst 0, 1) := by decide +kernel
theorem dX7_twoOf_202 : decode cX7_twoOf 202 = .ok (.ireturn, 1) := by decide +kernel
theorem dX7_twoOf_203 : decode cX7_twoOf 203 = .ok (.iload_n 1, 1) := by decide +kernel
theorem dX7_twoOf_204 : decode cX7_twoOf 204 = .ok (.ifCond .ne 7, 3) := by decide +kernel
theorem dX7_twoOf_207 : decode cX7_twoOf 207 = .ok (.iload_n 2, 1) := by decide +kernel
theorem dX7_twoOf_208 : decode cX7_twoOf 208 = .ok (.ifCond .eq 7, 3) := by decide +kernel
theorem dX7_twoOf_211 : decode cX7_twoOf 211 = .ok (.iconst 1, 1) := by decide +kernel
theorem dX7_twoOf_212 : decode cX7_twoOf 212 = .ok (.goto 4, 3) := by decide +kernel
theorem dX7_twoOf_215 : decode cX7_twoOf 215 = .ok (.iconst 0, 1) := by decide +kernel
theorem dX7_twoOf_216 : decode cX7_twoOf 216 = .ok (.ireturn, 1) := by decide +kernel
set_option maxRecDepth 20000 in
theorem ggX7_works_X7_twoOf : GoodIn wsX7_works wsX7_twoOf := goodIn_r _ [7] (by decide +kernel) (by decide +kernel)
set_option maxRecDepth 20000 in
theorem gX7_works_X7_twoOf : GoodIn wsX7_works (va_wsS RX7 175 yX7_twoOf wsX7_twoOf) := goodIn_app (goodIn_of _ (by decide +kernel)) ggX7_works_X7_twoOf

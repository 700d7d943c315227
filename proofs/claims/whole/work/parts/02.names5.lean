theorem dX7_works_0 : decode cX7_works 0 = .ok (.iconst 0, 1) := by decide +kernel
theorem dX7_works_1 : decode cX7_works 1 = .ok (.istore_n 2, 1) := by decide +kernel
theorem dX7_works_2 : decode cX7_works 2 = .ok (.iconst 0, 1) := by decide +kernel
theorem dX7_works_3 : decode cX7_works 3 = .ok (.istore_n 3, 1) := by decide +kernel
theorem dX7_works_4 : decode cX7_works 4 = .ok (.iload_n 3, 1) := by decide +kernel
theorem dX7_works_5 : decode cX7_works 5 = .ok (.aload_n 0, 1) := by decide +kernel
theorem dX7_works_6 : decode cX7_works 6 = .ok (.getfield 9, 3) := by decide +kernel
theorem dX7_works_9 : decode cX7_works 9 = .ok (.iload_n 1, 1) := by decide +kernel
theorem dX7_works_10 : decode cX7_works 10 = .ok (.iaload, 1) := by decide +kernel
theorem dX7_works_11 : decode cX7_works 11 = .ok (.if_icmp .ge 144, 3) := by decide +kernel
theorem dX7_works_14 : decode cX7_works 14 = .ok (.aload_n 0, 1) := by decide +kernel
theorem dX7_works_15 : decode cX7_works 15 = .ok (.getfield 9, 3) := by decide +kernel
theorem dX7_works_18 : decode cX7_works 18 = .ok (.iload_n 1, 1) := by decide +kernel
theorem dX7_works_19 : decode cX7_works 19 = .ok (.iconst 1, 1) := by decide +kernel
theorem dX7_works_20 : decode cX7_works 20 = .ok (.iadd, 1) := by decide +kernel
theorem dX7_works_21 : decode cX7_works 21 = .ok (.iload_n 3, 1) := by decide +kernel
theorem dX7_works_22 : decode cX7_works 22 = .ok (.iadd, 1) := by decide +kernel
theorem dX7_works_23 : decode cX7_works 23 = .ok (.iaload, 1) := by decide +kernel
theorem dX7_works_24 : decode cX7_works 24 = .ok (.istore 4, 2) := by decide +kernel
theorem dX7_works_26 : decode cX7_works 26 = .ok (.iload 4, 2) := by decide +kernel
theorem dX7_works_28 : decode cX7_works 28 = .ok (.iconst 1, 1) := by decide +kernel
theorem dX7_works_29 : decode cX7_works 29 = .ok (.if_icmp .eq 9, 3) := by decide +kernel
theorem dX7_works_32 : decode cX7_works 32 = .ok (.iload 4, 2) := by decide +kernel
theorem dX7_works_34 : decode cX7_works 34 = .ok (.iconst 2, 1) := by decide +kernel
theorem dX7_works_35 : decode cX7_works 35 = .ok (.if_icmp .ne 51, 3) := by decide +kernel
theorem dX7_works_38 : decode cX7_works 38 = .ok (.aload_n 0, 1) := by decide +kernel
theorem dX7_works_39 : decode cX7_works 39 = .ok (.getfield 37, 3) := by decide +kernel
theorem dX7_works_42 : decode cX7_works 42 = .ok (.iload_n 2, 1) := by decide +kernel
theorem dX7_works_43 : decode cX7_works 43 = .ok (.iload 4, 2) := by decide +kernel
theorem dX7_works_45 : decode cX7_works 45 = .ok (.iconst 1, 1) := by decide +kernel
theorem dX7_works_46 : decode cX7_works 46 = .ok (.if_icmp .ne 17, 3) := by decide +kernel
theorem dX7_works_49 : decode cX7_works 49 = .ok (.aload_n 0, 1) := by decide +kernel
theorem dX7_works_50 : decode cX7_works 50 = .ok (.getfield 9, 3) := by decide +kernel
theorem dX7_works_53 : decode cX7_works 53 = .ok (.iload_n 1, 1) := by decide +kernel
theorem dX7_works_54 : decode cX7_works 54 = .ok (.bipush 61, 2) := by decide +kernel
theorem dX7_works_56 : decode cX7_works 56 = .ok (.iadd, 1) := by decide +kernel
theorem dX7_works_57 : decode cX7_works 57 = .ok (.iload_n 3, 1) := by decide +kernel
theorem dX7_works_58 : decode cX7_works 58 = .ok (.iadd, 1) := by decide +kernel
theorem dX7_works_59 : decode cX7_works 59 = .ok (.iaload, 1) := by decide +kernel
theorem dX7_works_60 : decode cX7_works 60 = .ok (.goto 19, 3) := by decide +kernel
theorem dX7_works_63 : decode cX7_works 63 = .ok (.aload_n 0, 1) := by decide +kernel
theorem dX7_works_64 : decode cX7_works 64 = .ok (.getfield 34, 3) := by decide +kernel
theorem dX7_works_67 : decode cX7_works 67 = .ok (.aload_n 0, 1) := by decide +kernel
theorem dX7_works_68 : decode cX7_works 68 = .ok (.getfield 9, 3) := by decide +kernel
theorem dX7_works_71 : decode cX7_works 71 = .ok (.iload_n 1, 1) := by decide +kernel
theorem dX7_works_72 : decode cX7_works 72 = .ok (.bipush 61, 2) := by decide +kernel
theorem dX7_works_74 : decode cX7_works 74 = .ok (.iadd, 1) := by decide +kernel
theorem dX7_works_75 : decode cX7_works 75 = .ok (.iload_n 3, 1) := by decide +kernel
theorem dX7_works_76 : decode cX7_works 76 = .ok (.iadd, 1) := by decide +kernel
theorem dX7_works_77 : decode cX7_works 77 = .ok (.iaload, 1) := by decide +kernel
theorem dX7_works_78 : decode cX7_works 78 = .ok (.iaload, 1) := by decide +kernel
theorem dX7_works_79 : decode cX7_works 79 = .ok (.iastore, 1) := by decide +kernel
theorem dX7_works_80 : decode cX7_works 80 = .ok (.iinc 2 1, 3) := by decide +kernel
theorem dX7_works_83 : decode cX7_works 83 = .ok (.goto 66, 3) := by decide +kernel
theorem dX7_works_86 : decode cX7_works 86 = .ok (.iload 4, 2) := by decide +kernel
theorem dX7_works_88 : decode cX7_works 88 = .ok (.iconst 3, 1) := by decide +kernel
theorem dX7_works_89 : decode cX7_works 89 = .ok (.if_icmp .ne 30, 3) := by decide +kernel
theorem dX7_works_92 : decode cX7_works 92 = .ok (.aload_n 0, 1) := by decide +kernel
theorem dX7_works_93 : decode cX7_works 93 = .ok (.getfield 37, 3) := by decide +kernel
theorem dX7_works_96 : decode cX7_works 96 = .ok (.iload_n 2, 1) := by decide +kernel
theorem dX7_works_97 : decode cX7_works 97 = .ok (.iconst 1, 1) := by decide +kernel
theorem dX7_works_98 : decode cX7_works 98 = .ok (.isub, 1) := by decide +kernel
theorem dX7_works_99 : decode cX7_works 99 = .ok (.aload_n 0, 1) := by decide +kernel
theorem dX7_works_100 : decode cX7_works 100 = .ok (.getfield 37, 3) := by decide +kernel
theorem dX7_works_103 : decode cX7_works 103 = .ok (.iload_n 2, 1) := by decide +kernel
theorem dX7_works_104 : decode cX7_works 104 = .ok (.iconst 1, 1) := by decide +kernel
theorem dX7_works_105 : decode cX7_works 105 = .ok (.isub, 1) := by decide +kernel
theorem dX7_works_106 : decode cX7_works 106 = .ok (.iaload, 1) := by decide +kernel
theorem dX7_works_107 : decode cX7_works 107 = .ok (.ifCond .ne 7, 3) := by decide +kernel
theorem dX7_works_110 : decode cX7_works 110 = .ok (.iconst 1, 1) := by decide +kernel
theorem dX7_works_111 : decode cX7_works 111 = .ok (.goto 4, 3) := by decide +kernel
theorem dX7_works_114 : decode cX7_works 114 = .ok (.iconst 0, 1) := by decide +kernel
theorem dX7_works_115 : decode cX7_works 115 = .ok (.iastore, 1) := by decide +kernel
theorem dX7_works_116 : decode cX7_works 116 = .ok (.goto 33, 3) := by decide +kernel
theorem dX7_works_119 : decode cX7_works 119 = .ok (.iinc 2 (-1), 3) := by decide +kernel
theorem dX7_works_122 : decode cX7_works 122 = .ok (.aload_n 0, 1) := by decide +kernel
theorem dX7_works_123 : decode cX7_works 123 = .ok (.getfield 37, 3) := by decide +kernel
theorem dX7_works_126 : decode cX7_works 126 = .ok (.iload_n 2, 1) := by decide +kernel
theorem dX7_works_127 : decode cX7_works 127 = .ok (.iconst 1, 1) := by decide +kernel
theorem dX7_works_128 : decode cX7_works 128 = .ok (.isub, 1) := by decide +kernel
theorem dX7_works_129 : decode cX7_works 129 = .ok (.iload 4, 2) := by decide +kernel
theorem dX7_works_131 : decode cX7_works 131 = .ok (.aload_n 0, 1) := by decide +kernel
theorem dX7_works_132 : decode cX7_works 132 = .ok (.getfield 37, 3) := by decide +kernel
theorem dX7_works_135 : decode cX7_works 135 = .ok (.iload_n 2, 1) := by decide +kernel
theorem dX7_works_136 : decode cX7_works 136 = .ok (.iconst 1, 1) := by decide +kernel
theorem dX7_works_137 : decode cX7_works 137 = .ok (.isub, 1) := by decide +kernel
theorem dX7_works_138 : decode cX7_works 138 = .ok (.iaload, 1) := by decide +kernel
theorem dX7_works_139 : decode cX7_works 139 = .ok (.aload_n 0, 1) := by decide +kernel
theorem dX7_works_140 : decode cX7_works 140 = .ok (.getfield 37, 3) := by decide +kernel
theorem dX7_works_143 : decode cX7_works 143 = .ok (.iload_n 2, 1) := by decide +kernel
theorem dX7_works_144 : decode cX7_works 144 = .ok (.iaload, 1) := by decide +kernel
theorem dX7_works_145 : decode cX7_works 145 = .ok (.invokestatic 175, 3) := by decide +kernel
theorem dX7_works_148 : decode cX7_works 148 = .ok (.iastore, 1) := by decide +kernel
theorem dX7_works_149 : decode cX7_works 149 = .ok (.iinc 3 1, 3) := by decide +kernel
theorem dX7_works_152 : decode cX7_works 152 = .ok (.goto (-148), 3) := by decide +kernel
theorem dX7_works_155 : decode cX7_works 155 = .ok (.aload_n 0, 1) := by decide +kernel
theorem dX7_works_156 : decode cX7_works 156 = .ok (.getfield 37, 3) := by decide +kernel
theorem dX7_works_159 : decode cX7_works 159 = .ok (.iconst 0, 1) := by decide +kernel
theorem dX7_works_160 : decode cX7_works 160 = .ok (.iaload, 1) := by decide +kernel
theorem dX7_works_161 : decode cX7_works 161 = .ok (.ireturn, 1) := by decide +kernel
set_option maxRecDepth 20000 in
theorem ggX7_gives_X7_works : GoodIn wsX7_gives wsX7_works := goodIn_r _ [7, 2, 8, 1, 9, 10, 6, 11, 15, 16, 17, 18, 19, 20, 21, 22, 23, 24, 25, 26, 27, 28, 29, 30, 31, 32, 33, 34, 35] (by decide +kernel) (by decide +kernel)
set_option maxRecDepth 20000 in
theorem gX7_gives_X7_works : GoodIn wsX7_gives (wsV RX7 178 RX7 yX7_works wsX7_works) := goodIn_app (goodIn_of _ (by decide +kernel)) ggX7_gives_X7_works
set_option maxRecDepth 20000 in
theorem ggX7_gives_X7_held : GoodIn wsX7_gives wsX7_held := goodIn_r _ [14] (by decide +kernel) (by decide +kernel)
set_option maxRecDepth 20000 in
theorem gX7_gives_X7_held : GoodIn wsX7_gives (va_wsS RX7 114 yX7_held wsX7_held) := goodIn_app (goodIn_of _ (by decide +kernel)) ggX7_gives_X7_held
theorem dX7_gives_0 : decode cX7_gives 0 = .ok (.sipush 141, 3) := by decide +kernel
theorem dX7_gives_3 : decode cX7_gives 3 = .ok (.bipush 121, 2) := by decide +kernel
theorem dX7_gives_5 : decode cX7_gives 5 = .ok (.iload_n 1, 1) := by decide +kernel
theorem dX7_gives_6 : decode cX7_gives 6 = .ok (.imul, 1) := by decide +kernel
theorem dX7_gives_7 : decode cX7_gives 7 = .ok (.iadd, 1) := by decide +kernel
theorem dX7_gives_8 : decode cX7_gives 8 = .ok (.istore 5, 2) := by decide +kernel
theorem dX7_gives_10 : decode cX7_gives 10 = .ok (.aload_n 0, 1) := by decide +kernel
theorem dX7_gives_11 : decode cX7_gives 11 = .ok (.getfield 34, 3) := by decide +kernel
theorem dX7_gives_14 : decode cX7_gives 14 = .ok (.iconst 0, 1) := by decide +kernel
theorem dX7_gives_15 : decode cX7_gives 15 = .ok (.iload_n 2, 1) := by decide +kernel
theorem dX7_gives_16 : decode cX7_gives 16 = .ok (.iastore, 1) := by decide +kernel
theorem dX7_gives_17 : decode cX7_gives 17 = .ok (.aload_n 0, 1) := by decide +kernel
theorem dX7_gives_18 : decode cX7_gives 18 = .ok (.getfield 34, 3) := by decide +kernel
theorem dX7_gives_21 : decode cX7_gives 21 = .ok (.iconst 1, 1) := by decide +kernel
theorem dX7_gives_22 : decode cX7_gives 22 = .ok (.iload_n 3, 1) := by decide +kernel
theorem dX7_gives_23 : decode cX7_gives 23 = .ok (.iastore, 1) := by decide +kernel
theorem dX7_gives_24 : decode cX7_gives 24 = .ok (.aload_n 0, 1) := by decide +kernel
theorem dX7_gives_25 : decode cX7_gives 25 = .ok (.getfield 34, 3) := by decide +kernel
theorem dX7_gives_28 : decode cX7_gives 28 = .ok (.iconst 2, 1) := by decide +kernel
theorem dX7_gives_29 : decode cX7_gives 29 = .ok (.iload 4, 2) := by decide +kernel
theorem dX7_gives_31 : decode cX7_gives 31 = .ok (.iastore, 1) := by decide +kernel
theorem dX7_gives_32 : decode cX7_gives 32 = .ok (.aload_n 0, 1) := by decide +kernel
theorem dX7_gives_33 : decode cX7_gives 33 = .ok (.getfield 9, 3) := by decide +kernel
theorem dX7_gives_36 : decode cX7_gives 36 = .ok (.iload 5, 2) := by decide +kernel
theorem dX7_gives_38 : decode cX7_gives 38 = .ok (.iaload, 1) := by decide +kernel
theorem dX7_gives_39 : decode cX7_gives 39 = .ok (.ifCond .le 12, 3) := by decide +kernel
theorem dX7_gives_42 : decode cX7_gives 42 = .ok (.aload_n 0, 1) := by decide +kernel
theorem dX7_gives_43 : decode cX7_gives 43 = .ok (.iload 5, 2) := by decide +kernel
theorem dX7_gives_45 : decode cX7_gives 45 = .ok (.invokevirtual 178, 3) := by decide +kernel
theorem dX7_gives_48 : decode cX7_gives 48 = .ok (.goto 15, 3) := by decide +kernel
theorem dX7_gives_51 : decode cX7_gives 51 = .ok (.iload_n 1, 1) := by decide +kernel
theorem dX7_gives_52 : decode cX7_gives 52 = .ok (.ifCond .ne 7, 3) := by decide +kernel
theorem dX7_gives_55 : decode cX7_gives 55 = .ok (.iload_n 2, 1) := by decide +kernel
theorem dX7_gives_56 : decode cX7_gives 56 = .ok (.goto 7, 3) := by decide +kernel
theorem dX7_gives_59 : decode cX7_gives 59 = .ok (.bipush 10, 2) := by decide +kernel
theorem dX7_gives_61 : decode cX7_gives 61 = .ok (.iload_n 2, 1) := by decide +kernel
theorem dX7_gives_62 : decode cX7_gives 62 = .ok (.imul, 1) := by decide +kernel
theorem dX7_gives_63 : decode cX7_gives 63 = .ok (.istore 6, 2) := by decide +kernel
theorem dX7_gives_65 : decode cX7_gives 65 = .ok (.iload_n 1, 1) := by decide +kernel
theorem dX7_gives_66 : decode cX7_gives 66 = .ok (.ifCond .ne 14, 3) := by decide +kernel
theorem dX7_gives_69 : decode cX7_gives 69 = .ok (.iload 6, 2) := by decide +kernel
theorem dX7_gives_71 : decode cX7_gives 71 = .ok (.iconst 0, 1) := by decide +kernel
theorem dX7_gives_72 : decode cX7_gives 72 = .ok (.bipush 16, 2) := by decide +kernel
theorem dX7_gives_74 : decode cX7_gives 74 = .ok (.invokestatic 114, 3) := by decide +kernel
theorem dX7_gives_77 : decode cX7_gives 77 = .ok (.goto 12, 3) := by decide +kernel
theorem dX7_gives_80 : decode cX7_gives 80 = .ok (.iload 6, 2) := by decide +kernel
theorem dX7_gives_82 : decode cX7_gives 82 = .ok (.iconst 0, 1) := by decide +kernel
theorem dX7_gives_83 : decode cX7_gives 83 = .ok (.sipush 199, 3) := by decide +kernel
theorem dX7_gives_86 : decode cX7_gives 86 = .ok (.invokestatic 114, 3) := by decide +kernel
theorem dX7_gives_89 : decode cX7_gives 89 = .ok (.ireturn, 1) := by decide +kernel
set_option maxRecDepth 20000 in
theorem ggX7_law_X7_in : GoodIn wsX7_law wsX7_in := goodIn_r _ [5] (by decide +kernel) (by decide +kernel)
set_option maxRecDepth 20000 in
theorem gX7_law_X7_in : GoodIn wsX7_law (va_wsS RX7 48 yX7_in wsX7_in) := goodIn_app (goodIn_of _ (by decide +kernel)) ggX7_law_X7_in
set_option maxRecDepth 20000 in
theorem ggX7_law_X7_gives : GoodIn wsX7_law wsX7_gives := goodIn_r _ [9, 10, 11, 12, 13, 14, 4, 15, 16, 17, 18, 19, 20, 21, 22, 29, 30, 31, 32, 33, 34, 35, 36, 37, 38, 39, 40, 41, 42, 43, 44, 45, 46, 47, 48, 49] (by decide +kernel) (by decide +kernel)
set_option maxRecDepth 20000 in
theorem gX7_law_X7_gives : GoodIn wsX7_law (wsV RX7 63 RX7 yX7_gives wsX7_gives) := goodIn_app (goodIn_of _ (by decide +kernel)) ggX7_law_X7_gives
set_option maxRecDepth 20000 in
theorem ggX7_law_X7_error : GoodIn wsX7_law wsX7_error := goodIn_r _ [26, 27, 28, 29, 30, 31, 32, 33, 34, 35, 36, 37, 38, 39, 40, 41, 42, 43, 44, 45, 46, 47, 48, 49] (by decide +kernel) (by decide +kernel)
set_option maxRecDepth 20000 in
theorem gX7_law_X7_error : GoodIn wsX7_law (wsV RX7 78 RX7 yX7_error wsX7_error) := goodIn_app (goodIn_of _ (by decide +kernel)) ggX7_law_X7_error
theorem dX7_law_0 : decode cX7_law 0 = .ok (.iload_n 1, 1) := by decide +kernel
theorem dX7_law_1 : decode cX7_law 1 = .ok (.iconst 0, 1) := by decide +kernel
theorem dX7_law_2 : decode cX7_law 2 = .ok (.iconst 1, 1) := by decide +kernel
theorem dX7_law_3 : decode cX7_law 3 = .ok (.invokestatic 48, 3) := by decide +kernel
theorem dX7_law_6 : decode cX7_law 6 = .ok (.ifCond .eq 15, 3) := by decide +kernel
theorem dX7_law_9 : decode cX7_law 9 = .ok (.aload_n 0, 1) := by decide +kernel
theorem dX7_law_10 : decode cX7_law 10 = .ok (.iload_n 1, 1) := by decide +kernel
theorem dX7_law_11 : decode cX7_law 11 = .ok (.iload_n 2, 1) := by decide +kernel
theorem dX7_law_12 : decode cX7_law 12 = .ok (.iload_n 3, 1) := by decide +kernel
theorem dX7_law_13 : decode cX7_law 13 = .ok (.iload 4, 2) := by decide +kernel
theorem dX7_law_15 : decode cX7_law 15 = .ok (.invokevirtual 63, 3) := by decide +kernel
theorem dX7_law_18 : decode cX7_law 18 = .ok (.goto 9, 3) := by decide +kernel
theorem dX7_law_21 : decode cX7_law 21 = .ok (.aload_n 0, 1) := by decide +kernel
theorem dX7_law_22 : decode cX7_law 22 = .ok (.ldc 77, 2) := by decide +kernel
theorem dX7_law_24 : decode cX7_law 24 = .ok (.invokevirtual 78, 3) := by decide +kernel
theorem dX7_law_27 : decode cX7_law 27 = .ok (.ireturn, 1) := by decide +kernel
set_option maxRecDepth 20000 in
theorem ggX7_days_X7_in : GoodIn wsX7_days wsX7_in := goodIn_r _ [7] (by decide +kernel) (by decide +kernel)
set_option maxRecDepth 20000 in
theorem gX7_days_X7_in : GoodIn wsX7_days (va_wsS RX7 48 yX7_in wsX7_in) := goodIn_app (goodIn_of _ (by decide +kernel)) ggX7_days_X7_in
set_option maxRecDepth 20000 in
theorem ggX7_days_X7_error : GoodIn wsX7_days wsX7_error := goodIn_r _ [11, 12, 13, 14, 15, 16, 17, 18, 19, 20, 21, 22, 23, 24, 25, 26, 27, 28, 29, 30, 31, 32, 33, 34] (by decide +kernel) (by decide +kernel)
set_option maxRecDepth 20000 in
theorem gX7_days_X7_error : GoodIn wsX7_days (wsV RX7 78 RX7 yX7_error wsX7_error) := goodIn_app (goodIn_of _ (by decide +kernel)) ggX7_days_X7_error
theorem dX7_days_0 : decode cX7_days 0 = .ok (.iload_n 1, 1) := by decide +kernel
theorem dX7_days_1 : decode cX7_days 1 = .ok (.iconst 1, 1) := by decide +kernel
theorem dX7_days_2 : decode cX7_days 2 = .ok (.bipush 60, 2) := by decide +kernel
theorem dX7_days_4 : decode cX7_days 4 = .ok (.invokestatic 48, 3) := by decide +kernel
theorem dX7_days_7 : decode cX7_days 7 = .ok (.ifCond .ne 10, 3) := by decide +kernel
theorem dX7_days_10 : decode cX7_days 10 = .ok (.aload_n 0, 1) := by decide +kernel
theorem dX7_days_11 : decode cX7_days 11 = .ok (.ldc 77, 2) := by decide +kernel
theorem dX7_days_13 : decode cX7_days 13 = .ok (.invokevirtual 78, 3) := by decide +kernel
theorem dX7_days_16 : decode cX7_days 16 = .ok (.ireturn, 1) := by decide +kernel
theorem dX7_days_17 : decode cX7_days 17 = .ok (.aload_n 0, 1) := by decide +kernel
theorem dX7_days_18 : decode cX7_days 18 = .ok (.getfield 9, 3) := by decide +kernel
theorem dX7_days_21 : decode cX7_days 21 = .ok (.iconst 0, 1) := by decide +kernel
theorem dX7_days_22 : decode cX7_days 22 = .ok (.iaload, 1) := by decide +kernel
theorem dX7_days_23 : decode cX7_days 23 = .ok (.iload_n 1, 1) := by decide +kernel
theorem dX7_days_24 : decode cX7_days 24 = .ok (.iadd, 1) := by decide +kernel
theorem dX7_days_25 : decode cX7_days 25 = .ok (.sipush 9999, 3) := by decide +kernel
theorem dX7_days_28 : decode cX7_days 28 = .ok (.if_icmp .le 10, 3) := by decide +kernel
theorem dX7_days_31 : decode cX7_days 31 = .ok (.aload_n 0, 1) := by decide +kernel
theorem dX7_days_32 : decode cX7_days 32 = .ok (.ldc 113, 2) := by decide +kernel
theorem dX7_days_34 : decode cX7_days 34 = .ok (.invokevirtual 78, 3) := by decide +kernel
theorem dX7_days_37 : decode cX7_days 37 = .ok (.ireturn, 1) := by decide +kernel
theorem dX7_days_38 : decode cX7_days 38 = .ok (.aload_n 0, 1) := by decide +kernel
theorem dX7_days_39 : decode cX7_days 39 = .ok (.getfield 9, 3) := by decide +kernel
theorem dX7_days_42 : decode cX7_days 42 = .ok (.iconst 0, 1) := by decide +kernel
theorem dX7_days_43 : decode cX7_days 43 = .ok (.dup2, 1) := by decide +kernel
theorem dX7_days_44 : decode cX7_days 44 = .ok (.iaload, 1) := by decide +kernel
theorem dX7_days_45 : decode cX7_days 45 = .ok (.iload_n 1, 1) := by decide +kernel
theorem dX7_days_46 : decode cX7_days 46 = .ok (.iadd, 1) := by decide +kernel
theorem dX7_days_47 : decode cX7_days 47 = .ok (.iastore, 1) := by decide +kernel
theorem dX7_days_48 : decode cX7_days 48 = .ok (.aload_n 0, 1) := by decide +kernel
theorem dX7_days_49 : decode cX7_days 49 = .ok (.getfield 9, 3) := by decide +kernel
theorem dX7_days_52 : decode cX7_days 52 = .ok (.iconst 0, 1) := by decide +kernel
theorem dX7_days_53 : decode cX7_days 53 = .ok (.iaload, 1) := by decide +kernel
theorem dX7_days_54 : decode cX7_days 54 = .ok (.ireturn, 1) := by decide +kernel
theorem dX7_draw_0 : decode cX7_draw 0 = .ok (.aload_n 0, 1) := by decide +kernel
theorem dX7_draw_1 : decode cX7_draw 1 = .ok (.getfield 9, 3) := by decide +kernel
theorem dX7_draw_4 : decode cX7_draw 4 = .ok (.iconst 1, 1) := by decide +kernel
theorem dX7_draw_5 : decode cX7_draw 5 = .ok (.aload_n 0, 1) := by decide +kernel
theorem dX7_draw_6 : decode cX7_draw 6 = .ok (.getfield 9, 3) := by decide +kernel
theorem dX7_draw_9 : decode cX7_draw 9 = .ok (.iconst 1, 1) := by decide +kernel
theorem dX7_draw_10 : decode cX7_draw 10 = .ok (.iaload, 1) := by decide +kernel
theorem dX7_draw_11 : decode cX7_draw 11 = .ok (.ldc 181, 2) := by decide +kernel
theorem dX7_draw_13 : decode cX7_draw 13 = .ok (.imul, 1) := by decide +kernel
theorem dX7_draw_14 : decode cX7_draw 14 = .ok (.sipush 12345, 3) := by decide +kernel
theorem dX7_draw_17 : decode cX7_draw 17 = .ok (.iadd, 1) := by decide +kernel
theorem dX7_draw_18 : decode cX7_draw 18 = .ok (.iastore, 1) := by decide +kernel
theorem dX7_draw_19 : decode cX7_draw 19 = .ok (.aload_n 0, 1) := by decide +kernel
theorem dX7_draw_20 : decode cX7_draw 20 = .ok (.getfield 9, 3) := by decide +kernel
theorem dX7_draw_23 : decode cX7_draw 23 = .ok (.iconst 1, 1) := by decide +kernel
theorem dX7_draw_24 : decode cX7_draw 24 = .ok (.iaload, 1) := by decide +kernel
theorem dX7_draw_25 : decode cX7_draw 25 = .ok (.bipush 8, 2) := by decide +kernel
theorem dX7_draw_27 : decode cX7_draw 27 = .ok (.iushr, 1) := by decide +kernel
theorem dX7_draw_28 : decode cX7_draw 28 = .ok (.ireturn, 1) := by decide +kernel
set_option maxRecDepth 20000 in
theorem ggX7_drawn_X7_of : GoodIn wsX7_drawn wsX7_of := goodIn_r _ [6, 1, 68, 69, 70, 71, 72, 73, 74, 75, 76, 77, 78, 79, 80, 81, 82, 83, 84, 85, 86, 87, 88] (by decide +kernel) (by decide +kernel)
set_option maxRecDepth 20000 in
theorem gX7_drawn_X7_of : GoodIn wsX7_drawn (wsV RX7 52 RX7 yX7_of wsX7_of) := goodIn_app (goodIn_of _ (by decide +kernel)) ggX7_drawn_X7_of
set_option maxRecDepth 20000 in
theorem ggX7_drawn_X7_isThrough : GoodIn wsX7_drawn wsX7_isThrough := goodIn_r _ [10, 11, 12, 13, 5, 14, 1, 68, 69, 70, 71, 72, 73, 74, 75, 76, 77, 78, 79, 80, 81, 82, 83, 84, 85, 86, 87, 88] (by decide +kernel) (by decide +kernel)
set_option maxRecDepth 20000 in
theorem gX7_drawn_X7_isThrough : GoodIn wsX7_drawn (wsV RX7 87 RX7 yX7_isThrough wsX7_isThrough) := goodIn_app (goodIn_of _ (by decide +kernel)) ggX7_drawn_X7_isThrough
set_option maxRecDepth 20000 in
theorem ggX7_drawn_X7_draw : GoodIn wsX7_drawn wsX7_draw := goodIn_r _ [18, 1, 19, 68, 69, 70, 71, 72, 73, 74, 75, 76, 77, 78, 79, 80, 81, 82, 83, 84, 85, 86, 87, 88] (by decide +kernel) (by decide +kernel)
set_option maxRecDepth 20000 in
theorem gX7_drawn_X7_draw : GoodIn wsX7_drawn (wsV RX7 182 RX7 yX7_draw wsX7_draw) := goodIn_app (goodIn_of _ (by decide +kernel)) ggX7_drawn_X7_draw
set_option maxRecDepth 20000 in
theorem ggX7_drawn_X7_riskOf : GoodIn wsX7_drawn wsX7_riskOf := goodIn_r _ [23, 11, 12, 13, 5, 14, 1, 24, 25, 26, 27, 28, 29, 30, 31, 2, 3, 4, 6, 32, 33, 34, 35, 36, 37, 38, 39, 40, 41, 42, 43, 44, 45, 46, 47, 48, 49, 50, 51, 68, 69, 70, 71, 72, 73, 74, 75, 76, 77, 78, 79, 80, 81, 82, 83, 84, 85, 86, 87, 88] (by decide +kernel) (by decide +kernel)
set_option maxRecDepth 20000 in
theorem gX7_drawn_X7_riskOf : GoodIn wsX7_drawn (wsV RX7 103 RX7 yX7_riskOf wsX7_riskOf) := goodIn_app (goodIn_of _ (by decide +kernel)) ggX7_drawn_X7_riskOf
set_option maxRecDepth 20000 in
theorem ggX7_drawn_X7_breaksDown : GoodIn wsX7_drawn wsX7_breaksDown := goodIn_r _ [55, 1, 56, 57, 58, 5, 59, 60, 61, 62, 63, 2, 3, 4, 6, 32, 33, 34, 35, 49, 50, 51, 64, 65, 66, 67, 68, 69, 70, 71, 72, 73, 74, 75, 76, 77, 78, 79, 80, 81, 82, 83, 84, 85, 86, 87, 88] (by decide +kernel) (by decide +kernel)
set_option maxRecDepth 20000 in
theorem gX7_drawn_X7_breaksDown : GoodIn wsX7_drawn (wsV RX7 118 RX7 yX7_breaksDown wsX7_breaksDown) := goodIn_app (goodIn_of _ (by decide +kernel)) ggX7_drawn_X7_breaksDown
theorem dX7_drawn_0 : decode cX7_drawn 0 = .ok (.iconst 0, 1) := by decide +kernel
theorem dX7_drawn_1 : decode cX7_drawn 1 = .ok (.istore_n 1, 1) := by decide +kernel
theorem dX7_drawn_2 : decode cX7_drawn 2 = .ok (.iconst 0, 1) := by decide +kernel
theorem dX7_drawn_3 : decode cX7_drawn 3 = .ok (.istore_n 2, 1) := by decide +kernel
theorem dX7_drawn_4 : decode cX7_drawn 4 = .ok (.iload_n 2, 1) := by decide +kernel
theorem dX7_drawn_5 : decode cX7_drawn 5 = .ok (.aload_n 0, 1) := by decide +kernel
theorem dX7_drawn_6 : decode cX7_drawn 6 = .ok (.getfield 9, 3) := by decide +kernel
theorem dX7_drawn_9 : decode cX7_drawn 9 = .ok (.iconst 2, 1) := by decide +kernel
theorem dX7_drawn_10 : decode cX7_drawn 10 = .ok (.iaload, 1) := by decide +kernel
theorem dX7_drawn_11 : decode cX7_drawn 11 = .ok (.if_icmp .ge 61, 3) := by decide +kernel
theorem dX7_drawn_14 : decode cX7_drawn 14 = .ok (.aload_n 0, 1) := by decide +kernel
theorem dX7_drawn_15 : decode cX7_drawn 15 = .ok (.iload_n 2, 1) := by decide +kernel
theorem dX7_drawn_16 : decode cX7_drawn 16 = .ok (.iconst 3, 1) := by decide +kernel
theorem dX7_drawn_17 : decode cX7_drawn 17 = .ok (.invokevirtual 52, 3) := by decide +kernel
theorem dX7_drawn_20 : decode cX7_drawn 20 = .ok (.ifCond .ne 46, 3) := by decide +kernel
theorem dX7_drawn_23 : decode cX7_drawn 23 = .ok (.aload_n 0, 1) := by decide +kernel
theorem dX7_drawn_24 : decode cX7_drawn 24 = .ok (.aload_n 0, 1) := by decide +kernel
theorem dX7_drawn_25 : decode cX7_drawn 25 = .ok (.iload_n 2, 1) := by decide +kernel
theorem dX7_drawn_26 : decode cX7_drawn 26 = .ok (.iconst 2, 1) := by decide +kernel
theorem dX7_drawn_27 : decode cX7_drawn 27 = .ok (.invokevirtual 52, 3) := by decide +kernel
theorem dX7_drawn_30 : decode cX7_drawn 30 = .ok (.invokevirtual 87, 3) := by decide +kernel
theorem dX7_drawn_33 : decode cX7_drawn 33 = .ok (.ifCond .ne 33, 3) := by decide +kernel
theorem dX7_drawn_36 : decode cX7_drawn 36 = .ok (.aload_n 0, 1) := by decide +kernel
theorem dX7_drawn_37 : decode cX7_drawn 37 = .ok (.invokevirtual 182, 3) := by decide +kernel
theorem dX7_drawn_40 : decode cX7_drawn 40 = .ok (.bipush 16, 2) := by decide +kernel
theorem dX7_drawn_42 : decode cX7_drawn 42 = .ok (.irem, 1) := by decide +kernel
theorem dX7_drawn_43 : decode cX7_drawn 43 = .ok (.aload_n 0, 1) := by decide +kernel
theorem dX7_drawn_44 : decode cX7_drawn 44 = .ok (.iload_n 2, 1) := by decide +kernel
theorem dX7_drawn_45 : decode cX7_drawn 45 = .ok (.aload_n 0, 1) := by decide +kernel
theorem dX7_drawn_46 : decode cX7_drawn 46 = .ok (.iload_n 2, 1) := by decide +kernel
theorem dX7_drawn_47 : decode cX7_drawn 47 = .ok (.iconst 2, 1) := by decide +kernel
theorem dX7_drawn_48 : decode cX7_drawn 48 = .ok (.invokevirtual 52, 3) := by decide +kernel
theorem dX7_drawn_51 : decode cX7_drawn 51 = .ok (.invokevirtual 103, 3) := by decide +kernel
theorem dX7_drawn_54 : decode cX7_drawn 54 = .ok (.if_icmp .ge 12, 3) := by decide +kernel
theorem dX7_drawn_57 : decode cX7_drawn 57 = .ok (.aload_n 0, 1) := by decide +kernel
theorem dX7_drawn_58 : decode cX7_drawn 58 = .ok (.iload_n 2, 1) := by decide +kernel
theorem dX7_drawn_59 : decode cX7_drawn 59 = .ok (.invokevirtual 118, 3) := by decide +kernel
theorem dX7_drawn_62 : decode cX7_drawn 62 = .ok (.istore_n 3, 1) := by decide +kernel
theorem dX7_drawn_63 : decode cX7_drawn 63 = .ok (.iinc 1 1, 3) := by decide +kernel
theorem dX7_drawn_66 : decode cX7_drawn 66 = .ok (.iinc 2 1, 3) := by decide +kernel
theorem dX7_drawn_69 : decode cX7_drawn 69 = .ok (.goto (-65), 3) := by decide +kernel
theorem dX7_drawn_72 : decode cX7_drawn 72 = .ok (.aload_n 0, 1) := by decide +kernel
theorem dX7_drawn_73 : decode cX7_drawn 73 = .ok (.getfield 9, 3) := by decide +kernel
theorem dX7_drawn_76 : decode cX7_drawn 76 = .ok (.iconst 0, 1) := by decide +kernel
theorem dX7_drawn_77 : decode cX7_drawn 77 = .ok (.dup2, 1) := by decide +kernel
theorem dX7_drawn_78 : decode cX7_drawn 78 = .ok (.iaload, 1) := by decide +kernel
theorem dX7_drawn_79 : decode cX7_drawn 79 = .ok (.iconst 1, 1) := by decide +kernel
theorem dX7_drawn_80 : decode cX7_drawn 80 = .ok (.iadd, 1) := by decide +kernel
theorem dX7_drawn_81 : decode cX7_drawn 81 = .ok (.iastore, 1) := by decide +kernel
theorem dX7_drawn_82 : decode cX7_drawn 82 = .ok (.iload_n 1, 1) := by decide +kernel
theorem dX7_drawn_83 : decode cX7_drawn 83 = .ok (.ireturn, 1) := by decide +kernel
set_option maxRecDepth 20000 in
theorem ggX7_loose_X7_in : GoodIn wsX7_loose wsX7_in := goodIn_r _ [7] (by decide +kernel) (by decide +kernel)
set_option maxRecDepth 20000 in
theorem gX7_loose_X7_in : GoodIn wsX7_loose (va_wsS RX7 48 yX7_in wsX7_in) := goodIn_app (goodIn_of _ (by decide +kernel)) ggX7_loose_X7_in
set_option maxRecDepth 20000 in
theorem ggX7_loose_X7_error : GoodIn wsX7_loose wsX7_error := goodIn_r _ [11, 12, 13, 83, 84, 85, 86, 87, 88, 89, 90, 91, 92, 93, 94, 95, 96, 97, 98, 99, 100, 101, 102, 103] (by decide +kernel) (by decide +kernel)
set_option maxRecDepth 20000 in
theorem gX7_loose_X7_error : GoodIn wsX7_loose (wsV RX7 78 RX7 yX7_error wsX7_error) := goodIn_app (goodIn_of _ (by decide +kernel)) ggX7_loose_X7_error
set_option maxRecDepth 20000 in
theorem ggX7_loose_X7_drawn : GoodIn wsX7_loose wsX7_drawn := goodIn_r _ [17, 2, 18, 19, 20, 6, 21, 22, 23, 24, 25, 26, 27, 28, 29, 30, 31, 32, 33, 34, 35, 36, 37, 38, 39, 40, 41, 42, 43, 44, 45, 46, 47, 48, 49, 50, 51, 52, 53, 54, 55, 56, 57, 58, 59, 60, 61, 62, 63, 64, 65, 66, 67, 68, 69, 70, 71, 72, 73, 74, 75, 76, 77, 78, 79, 80, 81, 82, 83, 84, 85, 86, 87, 88, 89, 90, 91, 92, 93, 94, 95, 96, 97, 98, 99, 100, 101, 102, 103] (by decide +kernel) (by decide +kernel)
set_option maxRecDepth 20000 in
theorem gX7_loose_X7_drawn : GoodIn wsX7_loose (wsV RX7 185 RX7 yX7_drawn wsX7_drawn) := goodIn_app (goodIn_of _ (by decide +kernel)) ggX7_loose_X7_drawn
theorem dX7_loose_0 : decode cX7_loose 0 = .ok (.iload_n 1, 1) := by decide +kernel
theorem dX7_loose_1 : decode cX7_loose 1 = .ok (.iconst 1, 1) := by decide +kernel
theorem dX7_loose_2 : decode cX7_loose 2 = .ok (.bipush 30, 2) := by decide +kernel
theorem dX7_loose_4 : decode cX7_loose 4 = .ok (.invokestatic 48, 3) := by decide +kernel
theorem dX7_loose_7 : decode cX7_loose 7 = .ok (.ifCond .ne 10, 3) := by decide +kernel
theorem dX7_loose_10 : decode cX7_loose 10 = .ok (.aload_n 0, 1) := by decide +kernel
theorem dX7_loose_11 : decode cX7_loose 11 = .ok (.ldc 77, 2) := by decide +kernel
theorem dX7_loose_13 : decode cX7_loose 13 = .ok (.invokevirtual 78, 3) := by decide +kernel
theorem dX7_loose_16 : decode cX7_loose 16 = .ok (.ireturn, 1) := by decide +kernel
theorem dX7_loose_17 : decode cX7_loose 17 = .ok (.aload_n 0, 1) := by decide +kernel
theorem dX7_loose_18 : decode cX7_loose 18 = .ok (.getfield 9, 3) := by decide +kernel
theorem dX7_loose_21 : decode cX7_loose 21 = .ok (.iconst 0, 1) := by decide +kernel
theorem dX7_loose_22 : decode cX7_loose 22 = .ok (.iaload, 1) := by decide +kernel
theorem dX7_loose_23 : decode cX7_loose 23 = .ok (.iload_n 1, 1) := by decide +kernel
theorem dX7_loose_24 : decode cX7_loose 24 = .ok (.iadd, 1) := by decide +kernel
theorem dX7_loose_25 : decode cX7_loose 25 = .ok (.sipush 9999, 3) := by decide +kernel
theorem dX7_loose_28 : decode cX7_loose 28 = .ok (.if_icmp .le 10, 3) := by decide +kernel
theorem dX7_loose_31 : decode cX7_loose 31 = .ok (.aload_n 0, 1) := by decide +kernel
theorem dX7_loose_32 : decode cX7_loose 32 = .ok (.ldc 113, 2) := by decide +kernel
theorem dX7_loose_34 : decode cX7_loose 34 = .ok (.invokevirtual 78, 3) := by decide +kernel
theorem dX7_loose_37 : decode cX7_loose 37 = .ok (.ireturn, 1) := by decide +kernel
theorem dX7_loose_38 : decode cX7_loose 38 = .ok (.iconst 0, 1) := by decide +kernel
theorem dX7_loose_39 : decode cX7_loose 39 = .ok (.istore_n 2, 1) := by decide +kernel
theorem dX7_loose_40 : decode cX7_loose 40 = .ok (.iconst 0, 1) := by decide +kernel
theorem dX7_loose_41 : decode cX7_loose 41 = .ok (.istore_n 3, 1) := by decide +kernel
theorem dX7_loose_42 : decode cX7_loose 42 = .ok (.iload_n 3, 1) := by decide +kernel
theorem dX7_loose_43 : decode cX7_loose 43 = .ok (.iload_n 1, 1) := by decide +kernel
theorem dX7_loose_44 : decode cX7_loose 44 = .ok (.if_icmp .ge 16, 3) := by decide +kernel
theorem dX7_loose_47 : decode cX7_loose 47 = .ok (.iload_n 2, 1) := by decide +kernel
theorem dX7_loose_48 : decode cX7_loose 48 = .ok (.aload_n 0, 1) := by decide +kernel
theorem dX7_loose_49 : decode cX7_loose 49 = .ok (.invokevirtual 185, 3) := by decide +kernel
theorem dX7_loose_52 : decode cX7_loose 52 = .ok (.iadd, 1) := by decide +kernel
theorem dX7_loose_53 : decode cX7_loose 53 = .ok (.istore_n 2, 1) := by decide +kernel
theorem dX7_loose_54 : decode cX7_loose 54 = .ok (.iinc 3 1, 3) := by decide +kernel
theorem dX7_loose_57 : decode cX7_loose 57 = .ok (.goto (-15), 3) := by decide +kernel
theorem dX7_loose_60 : decode cX7_loose 60 = .ok (.iload_n 2, 1) := by decide +kernel
theorem dX7_loose_61 : decode cX7_loose 61 = .ok (.ireturn, 1) := by decide +kernel
set_option maxRecDepth 20000 in
theorem ggX7_seed_X7_becomes : GoodIn wsX7_seed wsX7_becomes := goodIn_r _ [5, 6, 7, 8, 9, 10, 11, 12, 13, 14, 15, 16, 17, 18, 19, 20, 21, 22, 23, 24, 25, 26, 27] (by decide +kernel) (by decide +kernel)
set_option maxRecDepth 20000 in
theorem gX7_seed_X7_becomes : GoodIn wsX7_seed (wsV RX7 109 RX7 yX7_becomes wsX7_becomes) := goodIn_app (goodIn_of _ (by decide +kernel)) ggX7_seed_X7_becomes
theorem dX7_seed_0 : decode cX7_seed 0 = .ok (.aload_n 0, 1) := by decide +kernel
theorem dX7_seed_1 : decode cX7_seed 1 = .ok (.iconst 1, 1) := by decide +kernel
theorem dX7_seed_2 : decode cX7_seed 2 = .ok (.iload_n 1, 1) := by decide +kernel
theorem dX7_seed_3 : decode cX7_seed 3 = .ok (.invokevirtual 109, 3) := by decide +kernel
theorem dX7_seed_6 : decode cX7_seed 6 = .ok (.ireturn, 1) := by decide +kernel
set_option maxRecDepth 20000 in
theorem ggX7_leftOf_X7_of : GoodIn wsX7_leftOf wsX7_of := goodIn_r _ [6, 1, 19, 20, 21, 22, 23, 24, 25, 26, 27, 28, 29, 30, 31, 32, 33, 34, 35, 36, 37, 38, 39] (by decide +kernel) (by decide +kernel)
set_option maxRecDepth 20000 in
theorem gX7_leftOf_X7_of : GoodIn wsX7_leftOf (wsV RX7 52 RX7 yX7_of wsX7_of) := goodIn_app (goodIn_of _ (by decide +kernel)) ggX7_leftOf_X7_of
set_option maxRecDepth 20000 in
theorem ggX7_leftOf_X7_doesCount : GoodIn wsX7_leftOf wsX7_doesCount := goodIn_r _ [10, 1, 11, 12, 13, 5, 14, 2, 3, 4, 6, 15, 16, 17, 18, 19, 20, 21, 22, 23, 24, 25, 26, 27, 28, 29, 30, 31, 32, 33, 34, 35, 36, 37, 38, 39] (by decide +kernel) (by decide +kernel)
set_option maxRecDepth 20000 in
theorem gX7_leftOf_X7_doesCount : GoodIn wsX7_leftOf (wsV RX7 106 RX7 yX7_doesCount wsX7_doesCount) := goodIn_app (goodIn_of _ (by decide +kernel)) ggX7_leftOf_X7_doesCount
theorem dX7_leftOf_0 : decode cX7_leftOf 0 = .ok (.iconst 0, 1) := by decide +kernel
theorem dX7_leftOf_1 : decode cX7_leftOf 1 = .ok (.istore_n 2, 1) := by decide +kernel
theorem dX7_leftOf_2 : decode cX7_leftOf 2 = .ok (.iconst 0, 1) := by decide +kernel
theorem dX7_leftOf_3 : decode cX7_leftOf 3 = .ok (.istore_n 3, 1) := by decide +kernel
theorem dX7_leftOf_4 : decode cX7_leftOf 4 = .ok (.iload_n 3, 1) := by decide +kernel
theorem dX7_leftOf_5 : decode cX7_leftOf 5 = .ok (.aload_n 0, 1) := by decide +kernel
theorem dX7_leftOf_6 : decode cX7_leftOf 6 = .ok (.getfield 9, 3) := by decide +kernel
theorem dX7_leftOf_9 : decode cX7_leftOf 9 = .ok (.iconst 2, 1) := by decide +kernel
theorem dX7_leftOf_10 : decode cX7_leftOf 10 = .ok (.iaload, 1) := by decide +kernel
theorem dX7_leftOf_11 : decode cX7_leftOf 11 = .ok (.if_icmp .ge 46, 3) := by decide +kernel
theorem dX7_leftOf_14 : decode cX7_leftOf 14 = .ok (.iload_n 2, 1) := by decide +kernel
theorem dX7_leftOf_15 : decode cX7_leftOf 15 = .ok (.aload_n 0, 1) := by decide +kernel
theorem dX7_leftOf_16 : decode cX7_leftOf 16 = .ok (.iload_n 3, 1) := by decide +kernel
theorem dX7_leftOf_17 : decode cX7_leftOf 17 = .ok (.iconst 2, 1) := by decide +kernel
theorem dX7_leftOf_18 : decode cX7_leftOf 18 = .ok (.invokevirtual 52, 3) := by decide +kernel
theorem dX7_leftOf_21 : decode cX7_leftOf 21 = .ok (.iload_n 1, 1) := by decide +kernel
theorem dX7_leftOf_22 : decode cX7_leftOf 22 = .ok (.if_icmp .ne 26, 3) := by decide +kernel
theorem dX7_leftOf_25 : decode cX7_leftOf 25 = .ok (.aload_n 0, 1) := by decide +kernel
theorem dX7_leftOf_26 : decode cX7_leftOf 26 = .ok (.iload_n 3, 1) := by decide +kernel
theorem dX7_leftOf_27 : decode cX7_leftOf 27 = .ok (.iconst 3, 1) := by decide +kernel
theorem dX7_leftOf_28 : decode cX7_leftOf 28 = .ok (.invokevirtual 52, 3) := by decide +kernel
theorem dX7_leftOf_31 : decode cX7_leftOf 31 = .ok (.ifCond .ne 17, 3) := by decide +kernel
theorem dX7_leftOf_34 : decode cX7_leftOf 34 = .ok (.aload_n 0, 1) := by decide +kernel
theorem dX7_leftOf_35 : decode cX7_leftOf 35 = .ok (.iload_n 3, 1) := by decide +kernel
theorem dX7_leftOf_36 : decode cX7_leftOf 36 = .ok (.invokevirtual 106, 3) := by decide +kernel
theorem dX7_leftOf_39 : decode cX7_leftOf 39 = .ok (.ifCond .eq 9, 3) := by decide +kernel
theorem dX7_leftOf_42 : decode cX7_leftOf 42 = .ok (.iconst 1, 1) := by decide +kernel
theorem dX7_leftOf_43 : decode cX7_leftOf 43 = .ok (.iload_n 3, 1) := by decide +kernel
theorem dX7_leftOf_44 : decode cX7_leftOf 44 = .ok (.ishl, 1) := by decide +kernel
theorem dX7_leftOf_45 : decode cX7_leftOf 45 = .ok (.goto 4, 3) := by decide +kernel
theorem dX7_leftOf_48 : decode cX7_leftOf 48 = .ok (.iconst 0, 1) := by decide +kernel
theorem dX7_leftOf_49 : decode cX7_leftOf 49 = .ok (.ior, 1) := by decide +kernel
theorem dX7_leftOf_50 : decode cX7_leftOf 50 = .ok (.istore_n 2, 1) := by decide +kernel
theorem dX7_leftOf_51 : decode cX7_leftOf 51 = .ok (.iinc 3 1, 3) := by decide +kernel
theorem dX7_leftOf_54 : decode cX7_leftOf 54 = .ok (.goto (-50), 3) := by decide +kernel
theorem dX7_leftOf_57 : decode cX7_leftOf 57 = .ok (.iload_n 2, 1) := by decide +kernel
theorem dX7_leftOf_58 : decode cX7_leftOf 58 = .ok (.ireturn, 1) := by decide +kernel
set_option maxRecDepth 20000 in
theorem ggX7_left_X7_isPerson : GoodIn wsX7_left wsX7_isPerson := goodIn_r _ [6, 7, 8, 9, 5, 10, 48, 49, 50, 51, 52, 53, 54, 55, 56, 57, 58, 59, 60, 61, 62, 63, 64, 65, 66, 67, 68] (by decide +kernel) (by decide +kernel)
set_option maxRecDepth 20000 in
theorem gX7_left_X7_isPerson : GoodIn wsX7_left (wsV RX7 83 RX7 yX7_isPerson wsX7_isPerson) := goodIn_app (goodIn_of _ (by decide +kernel)) ggX7_left_X7_isPerson
set_option maxRecDepth 20000 in
theorem ggX7_left_X7_in : GoodIn wsX7_left wsX7_in := goodIn_r _ [10] (by decide +kernel) (by decide +kernel)
set_option maxRecDepth 20000 in
theorem gX7_left_X7_in : GoodIn wsX7_left (va_wsS RX7 48 yX7_in wsX7_in) := goodIn_app (goodIn_of _ (by decide +kernel)) ggX7_left_X7_in
set_option maxRecDepth 20000 in
theorem ggX7_left_X7_error : GoodIn wsX7_left wsX7_error := goodIn_r _ [14, 15, 16, 48, 49, 50, 51, 52, 53, 54, 55, 56, 57, 58, 59, 60, 61, 62, 63, 64, 65, 66, 67, 68] (by decide +kernel) (by decide +kernel)
set_option maxRecDepth 20000 in
theorem gX7_left_X7_error : GoodIn wsX7_left (wsV RX7 78 RX7 yX7_error wsX7_error) := goodIn_app (goodIn_of _ (by decide +kernel)) ggX7_left_X7_error
set_option maxRecDepth 20000 in
theorem ggX7_left_X7_dueOf : GoodIn wsX7_left wsX7_dueOf := goodIn_r _ [20, 21, 22, 23, 5, 24, 7, 48, 49, 50, 51, 52, 53, 54, 55, 56, 57, 58, 59, 60, 61, 62, 63, 64, 65, 66, 67, 68] (by decide +kernel) (by decide +kernel)
set_option maxRecDepth 20000 in
theorem gX7_left_X7_dueOf : GoodIn wsX7_left (wsV RX7 90 RX7 yX7_dueOf wsX7_dueOf) := goodIn_app (goodIn_of _ (by decide +kernel)) ggX7_left_X7_dueOf
set_option maxRecDepth 20000 in
theorem ggX7_left_X7_leftOf : GoodIn wsX7_left wsX7_leftOf := goodIn_r _ [28, 7, 29, 30, 31, 5, 32, 33, 34, 35, 36, 37, 38, 39, 40, 41, 42, 43, 44, 48, 49, 50, 51, 52, 53, 54, 55, 56, 57, 58, 59, 60, 61, 62, 63, 64, 65, 66, 67, 68] (by decide +kernel) (by decide +kernel)
set_option maxRecDepth 20000 in
theorem gX7_left_X7_leftOf : GoodIn wsX7_left (wsV RX7 188 RX7 yX7_leftOf wsX7_leftOf) := goodIn_app (goodIn_of _ (by decide +kernel)) ggX7_left_X7_leftOf
set_option maxRecDepth 20000 in
theorem ggX7_left_X7_bits : GoodIn wsX7_left wsX7_bits := goodIn_r _ [47] (by decide +kernel) (by decide +kernel)
set_option maxRecDepth 20000 in
theorem gX7_left_X7_bits : GoodIn wsX7_left (va_wsS RX7 191 yX7_bits wsX7_bits) := goodIn_app (goodIn_of _ (by decide +kernel)) ggX7_left_X7_bits
theorem dX7_left_0 : decode cX7_left 0 = .ok (.aload_n 0, 1) := by decide +kernel
theorem dX7_left_1 : decode cX7_left 1 = .ok (.iload_n 1, 1) := by decide +kernel
theorem dX7_left_2 : decode cX7_left 2 = .ok (.invokevirtual 83, 3) := by decide +kernel
theorem dX7_left_5 : decode cX7_left 5 = .ok (.ifCond .eq 12, 3) := by decide +kernel
theorem dX7_left_8 : decode cX7_left 8 = .ok (.iload_n 2, 1) := by decide +kernel
theorem dX7_left_9 : decode cX7_left 9 = .ok (.iconst 0, 1) := by decide +kernel
theorem dX7_left_10 : decode cX7_left 10 = .ok (.iconst 2, 1) := by decide +kernel
theorem dX7_left_11 : decode cX7_left 11 = .ok (.invokestatic 48, 3) := by decide +kernel
theorem dX7_left_14 : decode cX7_left 14 = .ok (.ifCond .ne 10, 3) := by decide +kernel
theorem dX7_left_17 : decode cX7_left 17 = .ok (.aload_n 0, 1) := by decide +kernel
theorem dX7_left_18 : decode cX7_left 18 = .ok (.ldc 77, 2) := by decide +kernel
theorem dX7_left_20 : decode cX7_left 20 = .ok (.invokevirtual 78, 3) := by decide +kernel
theorem dX7_left_23 : decode cX7_left 23 = .ok (.ireturn, 1) := by decide +kernel
theorem dX7_left_24 : decode cX7_left 24 = .ok (.iload_n 2, 1) := by decide +kernel
theorem dX7_left_25 : decode cX7_left 25 = .ok (.iconst 2, 1) := by decide +kernel
theorem dX7_left_26 : decode cX7_left 26 = .ok (.if_icmp .ne 11, 3) := by decide +kernel
theorem dX7_left_29 : decode cX7_left 29 = .ok (.aload_n 0, 1) := by decide +kernel
theorem dX7_left_30 : decode cX7_left 30 = .ok (.iload_n 1, 1) := by decide +kernel
theorem dX7_left_31 : decode cX7_left 31 = .ok (.invokevirtual 90, 3) := by decide +kernel
theorem dX7_left_34 : decode cX7_left 34 = .ok (.goto 23, 3) := by decide +kernel
theorem dX7_left_37 : decode cX7_left 37 = .ok (.iload_n 2, 1) := by decide +kernel
theorem dX7_left_38 : decode cX7_left 38 = .ok (.ifCond .ne 11, 3) := by decide +kernel
theorem dX7_left_41 : decode cX7_left 41 = .ok (.aload_n 0, 1) := by decide +kernel
theorem dX7_left_42 : decode cX7_left 42 = .ok (.iload_n 1, 1) := by decide +kernel
theorem dX7_left_43 : decode cX7_left 43 = .ok (.invokevirtual 188, 3) := by decide +kernel
theorem dX7_left_46 : decode cX7_left 46 = .ok (.goto 11, 3) := by decide +kernel
theorem dX7_left_49 : decode cX7_left 49 = .ok (.aload_n 0, 1) := by decide +kernel
theorem dX7_left_50 : decode cX7_left 50 = .ok (.iload_n 1, 1) := by decide +kernel
theorem dX7_left_51 : decode cX7_left 51 = .ok (.invokevirtual 188, 3) := by decide +kernel
theorem dX7_left_54 : decode cX7_left 54 = .ok (.invokestatic 191, 3) := by decide +kernel
theorem dX7_left_57 : decode cX7_left 57 = .ok (.ireturn, 1) := by decide +kernel
set_option maxRecDepth 20000 in
theorem ggX7_findWays_X7_leftOf : GoodIn wsX7_findWays wsX7_leftOf := goodIn_r _ [9, 3, 10, 11, 12, 8, 13, 14, 15, 16, 17, 18, 19, 20, 21, 22, 23, 24, 25, 58, 59, 60, 61, 62, 63, 64, 65, 66, 67, 68, 69, 70, 71, 72, 73, 74, 75, 76, 77, 78] (by decide +kernel) (by decide +kernel)
set_option maxRecDepth 20000 in
theorem gX7_findWays_X7_leftOf : GoodIn wsX7_findWays (wsV RX7 188 RX7 yX7_leftOf wsX7_leftOf) := goodIn_app (goodIn_of _ (by decide +kernel)) ggX7_findWays_X7_leftOf
set_option maxRecDepth 20000 in
theorem ggX7_findWays_X7_riskOf : GoodIn wsX7_findWays wsX7_riskOf := goodIn_r _ [29, 30, 31, 32, 8, 33, 3, 34, 35, 36, 37, 38, 39, 40, 41, 10, 11, 12, 13, 22, 23, 24, 25, 42, 43, 44, 45, 46, 47, 48, 49, 50, 51, 52, 53, 54, 55, 56, 57, 58, 59, 60, 61, 62, 63, 64, 65, 66, 67, 68, 69, 70, 71, 72, 73, 74, 75, 76, 77, 78] (by decide +kernel) (by decide +kernel)
set_option maxRecDepth 20000 in
theorem gX7_findWays_X7_riskOf : GoodIn wsX7_findWays (wsV RX7 103 RX7 yX7_riskOf wsX7_riskOf) := goodIn_app (goodIn_of _ (by decide +kernel)) ggX7_findWays_X7_riskOf
theorem dX7_findWays_0 : decode cX7_findWays 0 = .ok (.aload_n 0, 1) := by decide +kernel
theorem dX7_findWays_1 : decode cX7_findWays 1 = .ok (.iload_n 1, 1) := by decide +kernel
theorem dX7_findWays_2 : decode cX7_findWays 2 = .ok (.invokevirtual 188, 3) := by decide +kernel
theorem dX7_findWays_5 : decode cX7_findWays 5 = .ok (.istore_n 2, 1) := by decide +kernel
theorem dX7_findWays_6 : decode cX7_findWays 6 = .ok (.iconst 0, 1) := by decide +kernel
theorem dX7_findWays_7 : decode cX7_findWays 7 = .ok (.istore_n 3, 1) := by decide +kernel
theorem dX7_findWays_8 : decode cX7_findWays 8 = .ok (.iload_n 3, 1) := by decide +kernel
theorem dX7_findWays_9 : decode cX7_findWays 9 = .ok (.bipush 9, 2) := by decide +kernel
theorem dX7_findWays_11 : decode cX7_findWays 11 = .ok (.if_icmp .gt 24, 3) := by decide +kernel
theorem dX7_findWays_14 : decode cX7_findWays 14 = .ok (.aload_n 0, 1) := by decide +kernel
theorem dX7_findWays_15 : decode cX7_findWays 15 = .ok (.getfield 40, 3) := by decide +kernel
theorem dX7_findWays_18 : decode cX7_findWays 18 = .ok (.iload_n 3, 1) := by decide +kernel
theorem dX7_findWays_19 : decode cX7_findWays 19 = .ok (.iload_n 3, 1) := by decide +kernel
theorem dX7_findWays_20 : decode cX7_findWays 20 = .ok (.ifCond .ne 7, 3) := by decide +kernel
theorem dX7_findWays_23 : decode cX7_findWays 23 = .ok (.lconst 1, 1) := by decide +kernel
theorem dX7_findWays_24 : decode cX7_findWays 24 = .ok (.goto 4, 3) := by decide +kernel
theorem dX7_findWays_27 : decode cX7_findWays 27 = .ok (.lconst 0, 1) := by decide +kernel
theorem dX7_findWays_28 : decode cX7_findWays 28 = .ok (.lastore, 1) := by decide +kernel
theorem dX7_findWays_29 : decode cX7_findWays 29 = .ok (.iinc 3 1, 3) := by decide +kernel
theorem dX7_findWays_32 : decode cX7_findWays 32 = .ok (.goto (-24), 3) := by decide +kernel
theorem dX7_findWays_35 : decode cX7_findWays 35 = .ok (.aload_n 0, 1) := by decide +kernel
theorem dX7_findWays_36 : decode cX7_findWays 36 = .ok (.lconst 1, 1) := by decide +kernel
theorem dX7_findWays_37 : decode cX7_findWays 37 = .ok (.putfield 194, 3) := by decide +kernel
theorem dX7_findWays_40 : decode cX7_findWays 40 = .ok (.iconst 0, 1) := by decide +kernel
theorem dX7_findWays_41 : decode cX7_findWays 41 = .ok (.istore_n 3, 1) := by decide +kernel
theorem dX7_findWays_42 : decode cX7_findWays 42 = .ok (.iload_n 3, 1) := by decide +kernel
theorem dX7_findWays_43 : decode cX7_findWays 43 = .ok (.aload_n 0, 1) := by decide +kernel
theorem dX7_findWays_44 : decode cX7_findWays 44 = .ok (.getfield 9, 3) := by decide +kernel
theorem dX7_findWays_47 : decode cX7_findWays 47 = .ok (.iconst 2, 1) := by decide +kernel
theorem dX7_findWays_48 : decode cX7_findWays 48 = .ok (.iaload, 1) := by decide +kernel
theorem dX7_findWays_49 : decode cX7_findWays 49 = .ok (.if_icmp .ge 97, 3) := by decide +kernel
theorem dX7_findWays_52 : decode cX7_findWays 52 = .ok (.iload_n 2, 1) := by decide +kernel
theorem dX7_findWays_53 : decode cX7_findWays 53 = .ok (.iload_n 3, 1) := by decide +kernel
theorem dX7_findWays_54 : decode cX7_findWays 54 = .ok (.ishr, 1) := by decide +kernel
theorem dX7_findWays_55 : decode cX7_findWays 55 = .ok (.iconst 1, 1) := by decide +kernel
theorem dX7_findWays_56 : decode cX7_findWays 56 = .ok (.iand, 1) := by decide +kernel
theorem dX7_findWays_57 : decode cX7_findWays 57 = .ok (.iconst 1, 1) := by decide +kernel
theorem dX7_findWays_58 : decode cX7_findWays 58 = .ok (.if_icmp .ne 82, 3) := by decide +kernel
theorem dX7_findWays_61 : decode cX7_findWays 61 = .ok (.aload_n 0, 1) := by decide +kernel
theorem dX7_findWays_62 : decode cX7_findWays 62 = .ok (.iload_n 3, 1) := by decide +kernel
theorem dX7_findWays_63 : decode cX7_findWays 63 = .ok (.iload_n 1, 1) := by decide +kernel
theorem dX7_findWays_64 : decode cX7_findWays 64 = .ok (.invokevirtual 103, 3) := by decide +kernel
theorem dX7_findWays_67 : decode cX7_findWays 67 = .ok (.i2l, 1) := by decide +kernel
theorem dX7_findWays_68 : decode cX7_findWays 68 = .ok (.lstore 4, 2) := by decide +kernel
theorem dX7_findWays_70 : decode cX7_findWays 70 = .ok (.bipush 9, 2) := by decide +kernel
theorem dX7_findWays_72 : decode cX7_findWays 72 = .ok (.istore 6, 2) := by decide +kernel
theorem dX7_findWays_74 : decode cX7_findWays 74 = .ok (.iload 6, 2) := by decide +kernel
theorem dX7_findWays_76 : decode cX7_findWays 76 = .ok (.ifCond .lt 52, 3) := by decide +kernel
theorem dX7_findWays_79 : decode cX7_findWays 79 = .ok (.aload_n 0, 1) := by decide +kernel
theorem dX7_findWays_80 : decode cX7_findWays 80 = .ok (.getfield 40, 3) := by decide +kernel
theorem dX7_findWays_83 : decode cX7_findWays 83 = .ok (.iload 6, 2) := by decide +kernel
theorem dX7_findWays_85 : decode cX7_findWays 85 = .ok (.aload_n 0, 1) := by decide +kernel
theorem dX7_findWays_86 : decode cX7_findWays 86 = .ok (.getfield 40, 3) := by decide +kernel
theorem dX7_findWays_89 : decode cX7_findWays 89 = .ok (.iload 6, 2) := by decide +kernel
theorem dX7_findWays_91 : decode cX7_findWays 91 = .ok (.laload, 1) := by decide +kernel
theorem dX7_findWays_92 : decode cX7_findWays 92 = .ok (.ldc2_w 197, 3) := by decide +kernel
theorem dX7_findWays_95 : decode cX7_findWays 95 = .ok (.lload 4, 2) := by decide +kernel
theorem dX7_findWays_97 : decode cX7_findWays 97 = .ok (.lsub, 1) := by decide +kernel
theorem dX7_findWays_98 : decode cX7_findWays 98 = .ok (.lmul, 1) := by decide +kernel
theorem dX7_findWays_99 : decode cX7_findWays 99 = .ok (.iload 6, 2) := by decide +kernel
theorem dX7_findWays_101 : decode cX7_findWays 101 = .ok (.ifCond .le 18, 3) := by decide +kernel
theorem dX7_findWays_104 : decode cX7_findWays 104 = .ok (.aload_n 0, 1) := by decide +kernel
theorem dX7_findWays_105 : decode cX7_findWays 105 = .ok (.getfield 40, 3) := by decide +kernel
theorem dX7_findWays_108 : decode cX7_findWays 108 = .ok (.iload 6, 2) := by decide +kernel
theorem dX7_findWays_110 : decode cX7_findWays 110 = .ok (.iconst 1, 1) := by decide +kernel
theorem dX7_findWays_111 : decode cX7_findWays 111 = .ok (.isub, 1) := by decide +kernel
theorem dX7_findWays_112 : decode cX7_findWays 112 = .ok (.laload, 1) := by decide +kernel
theorem dX7_findWays_113 : decode cX7_findWays 113 = .ok (.lload 4, 2) := by decide +kernel
theorem dX7_findWays_115 : decode cX7_findWays 115 = .ok (.lmul, 1) := by decide +kernel
theorem dX7_findWays_116 : decode cX7_findWays 116 = .ok (.goto 4, 3) := by decide +kernel
theorem dX7_findWays_119 : decode cX7_findWays 119 = .ok (.lconst 0, 1) := by decide +kernel
theorem dX7_findWays_120 : decode cX7_findWays 120 = .ok (.ladd, 1) := by decide +kernel
theorem dX7_findWays_121 : decode cX7_findWays 121 = .ok (.lastore, 1) := by decide +kernel
theorem dX7_findWays_122 : decode cX7_findWays 122 = .ok (.iinc 6 (-1), 3) := by decide +kernel
theorem dX7_findWays_125 : decode cX7_findWays 125 = .ok (.goto (-51), 3) := by decide +kernel
theorem dX7_findWays_128 : decode cX7_findWays 128 = .ok (.aload_n 0, 1) := by decide +kernel
theorem dX7_findWays_129 : decode cX7_findWays 129 = .ok (.dup, 1) := by decide +kernel
theorem dX7_findWays_130 : decode cX7_findWays 130 = .ok (.getfield 194, 3) := by decide +kernel
theorem dX7_findWays_133 : decode cX7_findWays 133 = .ok (.ldc2_w 197, 3) := by decide +kernel
theorem dX7_findWays_136 : decode cX7_findWays 136 = .ok (.lmul, 1) := by decide +kernel
theorem dX7_findWays_137 : decode cX7_findWays 137 = .ok (.putfield 194, 3) := by decide +kernel
theorem dX7_findWays_140 : decode cX7_findWays 140 = .ok (.iinc 3 1, 3) := by decide +kernel
theorem dX7_findWays_143 : decode cX7_findWays 143 = .ok (.goto (-101), 3) := by decide +kernel
theorem dX7_findWays_146 : decode cX7_findWays 146 = .ok (.return_, 1) := by decide +kernel
theorem dX7_partOf_0 : decode cX7_partOf 0 = .ok (.lload_n 0, 1) := by decide +kernel
theorem dX7_partOf_1 : decode cX7_partOf 1 = .ok (.lstore 5, 2) := by decide +kernel
theorem dX7_partOf_3 : decode cX7_partOf 3 = .ok (.lload_n 2, 1) := by decide +kernel
theorem dX7_partOf_4 : decode cX7_partOf 4 = .ok (.lstore 7, 2) := by decide +kernel
theorem dX7_partOf_6 : decode cX7_partOf 6 = .ok (.lload 5, 2) := by decide +kernel
theorem dX7_partOf_8 : decode cX7_partOf 8 = .ok (.lconst 0, 1) := by decide +kernel
theorem dX7_partOf_9 : decode cX7_partOf 9 = .ok (.lcmp, 1) := by decide +kernel
theorem dX7_partOf_10 : decode cX7_partOf 10 = .ok (.ifCond .eq 21, 3) := by decide +kernel
theorem dX7_partOf_13 : decode cX7_partOf 13 = .ok (.lload 7, 2) := by decide +kernel
theorem dX7_partOf_15 : decode cX7_partOf 15 = .ok (.lload 5, 2) := by decide +kernel
theorem dX7_partOf_17 : decode cX7_partOf 17 = .ok (.lrem, 1) := by decide +kernel
theorem dX7_partOf_18 : decode cX7_partOf 18 = .ok (.lstore 9, 2) := by decide +kernel
theorem dX7_partOf_20 : decode cX7_partOf 20 = .ok (.lload 5, 2) := by decide +kernel
theorem dX7_partOf_22 : decode cX7_partOf 22 = .ok (.lstore 7, 2) := by decide +kernel
theorem dX7_partOf_24 : decode cX7_partOf 24 = .ok (.lload 9, 2) := by decide +kernel
theorem dX7_partOf_26 : decode cX7_partOf 26 = .ok (.lstore 5, 2) := by decide +kernel
theorem dX7_partOf_28 : decode cX7_partOf 28 = .ok (.goto (-22), 3) := by decide +kernel
theorem dX7_partOf_31 : decode cX7_partOf 31 = .ok (.iload 4, 2) := by decide +kernel
theorem dX7_partOf_33 : decode cX7_partOf 33 = .ok (.ifCond .ne 10, 3) := by decide +kernel
theorem dX7_partOf_36 : decode cX7_partOf 36 = .ok (.lload_n 0, 1) := by decide +kernel
theorem dX7_partOf_37 : decode cX7_partOf 37 = .ok (.lload 7, 2) := by decide +kernel
theorem dX7_partOf_39 : decode cX7_partOf 39 = .ok (.ldiv, 1) := by decide +kernel
theorem dX7_partOf_40 : decode cX7_partOf 40 = .ok (.goto 7, 3) := by decide +kernel
theorem dX7_partOf_43 : decode cX7_partOf 43 = .ok (.lload_n 2, 1) := by decide +kernel
theorem dX7_partOf_44 : decode cX7_partOf 44 = .ok (.lload 7, 2) := by decide +kernel
theorem dX7_partOf_46 : decode cX7_partOf 46 = .ok (.ldiv, 1) := by decide +kernel
theorem dX7_partOf_47 : decode cX7_partOf 47 = .ok (.lreturn, 1) := by decide +kernel
set_option maxRecDepth 20000 in
theorem ggX7_odds_X7_isPerson : GoodIn wsX7_odds wsX7_isPerson := goodIn_r _ [8, 9, 10, 11, 7, 12, 79, 80, 81, 82, 83, 84, 85, 86, 87, 88, 89, 90, 91, 92, 93, 94, 95, 96, 97, 98, 99] (by decide +kernel) (by decide +kernel)
set_option maxRecDepth 20000 in
theorem gX7_odds_X7_isPerson : GoodIn wsX7_odds (wsV RX7 83 RX7 yX7_isPerson wsX7_isPerson) := goodIn_app (goodIn_of _ (by decide +kernel)) ggX7_odds_X7_isPerson
set_option maxRecDepth 20000 in
theorem ggX7_odds_X7_in : GoodIn wsX7_odds wsX7_in := goodIn_r _ [12] (by decide +kernel) (by decide +kernel)
set_option maxRecDepth 20000 in
theorem gX7_odds_X7_in : GoodIn wsX7_odds (va_wsS RX7 48 yX7_in wsX7_in) := goodIn_app (goodIn_of _ (by decide +kernel)) ggX7_odds_X7_in
set_option maxRecDepth 20000 in
theorem ggX7_odds_X7_error : GoodIn wsX7_odds wsX7_error := goodIn_r _ [16, 17, 18, 79, 80, 81, 82, 83, 84, 85, 86, 87, 88, 89, 90, 91, 92, 93, 94, 95, 96, 97, 98, 99] (by decide +kernel) (by decide +kernel)
set_option maxRecDepth 20000 in
theorem gX7_odds_X7_error : GoodIn wsX7_odds (wsV RX7 78 RX7 yX7_error wsX7_error) := goodIn_app (goodIn_of _ (by decide +kernel)) ggX7_odds_X7_error
set_option maxRecDepth 20000 in
theorem ggX7_odds_X7_findWays : GoodIn wsX7_odds wsX7_findWays := goodIn_r _ [22, 2, 3, 9, 23, 24, 25, 26, 7, 27, 28, 29, 30, 31, 32, 33, 34, 35, 36, 37, 38, 39, 40, 41, 42, 43, 44, 45, 46, 47, 48, 49, 50, 51, 52, 53, 54, 55, 56, 57, 58, 59, 60, 61, 62, 63, 64, 65, 66, 67, 68, 69, 70, 71, 72, 73, 74, 75, 79, 80, 81, 82, 83, 84, 85, 86, 87, 88, 89, 90, 91, 92, 93, 94, 95, 96, 97, 98, 99] (by decide +kernel) (by decide +kernel)
set_option maxRecDepth 20000 in
theorem gX7_odds_X7_findWays : GoodIn wsX7_odds (wsV RX7 199 RX7 yX7_findWays wsX7_findWays) := goodIn_app (goodIn_of _ (by decide +kernel)) ggX7_odds_X7_findWays
set_option maxRecDepth 20000 in
theorem ggX7_odds_X7_partOf : GoodIn wsX7_odds wsX7_partOf := goodIn_r _ [78] (by decide +kernel) (by decide +kernel)
set_option maxRecDepth 20000 in
theorem gX7_odds_X7_partOf : GoodIn wsX7_odds (va_wsS RX7 202 yX7_partOf wsX7_partOf) := goodIn_app (goodIn_of _ (by decide +kernel)) ggX7_odds_X7_partOf
theorem dX7_odds_0 : decode cX7_odds 0 = .ok (.aload_n 0, 1) := by decide +kernel
theorem dX7_odds_1 : decode cX7_odds 1 = .ok (.iload_n 1, 1) := by decide +kernel
theorem dX7_odds_2 : decode cX7_odds 2 = .ok (.invokevirtual 83, 3) := by decide +kernel
theorem dX7_odds_5 : decode cX7_odds 5 = .ok (.ifCond .eq 22, 3) := by decide +kernel
theorem dX7_odds_8 : decode cX7_odds 8 = .ok (.iload_n 2, 1) := by decide +kernel
theorem dX7_odds_9 : decode cX7_odds 9 = .ok (.iconst 0, 1) := by decide +kernel
theorem dX7_odds_10 : decode cX7_odds 10 = .ok (.bipush 9, 2) := by decide +kernel
theorem dX7_odds_12 : decode cX7_odds 12 = .ok (.invokestatic 48, 3) := by decide +kernel
theorem dX7_odds_15 : decode cX7_odds 15 = .ok (.ifCond .eq 12, 3) := by decide +kernel
theorem dX7_odds_18 : decode cX7_odds 18 = .ok (.iload_n 3, 1) := by decide +kernel
theorem dX7_odds_19 : decode cX7_odds 19 = .ok (.iconst 0, 1) := by decide +kernel
theorem dX7_odds_20 : decode cX7_odds 20 = .ok (.iconst 1, 1) := by decide +kernel
theorem dX7_odds_21 : decode cX7_odds 21 = .ok (.invokestatic 48, 3) := by decide +kernel
theorem dX7_odds_24 : decode cX7_odds 24 = .ok (.ifCond .ne 11, 3) := by decide +kernel
theorem dX7_odds_27 : decode cX7_odds 27 = .ok (.aload_n 0, 1) := by decide +kernel
theorem dX7_odds_28 : decode cX7_odds 28 = .ok (.ldc 77, 2) := by decide +kernel
theorem dX7_odds_30 : decode cX7_odds 30 = .ok (.invokevirtual 78, 3) := by decide +kernel
theorem dX7_odds_33 : decode cX7_odds 33 = .ok (.i2l, 1) := by decide +kernel
theorem dX7_odds_34 : decode cX7_odds 34 = .ok (.lreturn, 1) := by decide +kernel
theorem dX7_odds_35 : decode cX7_odds 35 = .ok (.aload_n 0, 1) := by decide +kernel
theorem dX7_odds_36 : decode cX7_odds 36 = .ok (.iload_n 1, 1) := by decide +kernel
theorem dX7_odds_37 : decode cX7_odds 37 = .ok (.invokevirtual 199, 3) := by decide +kernel
theorem dX7_odds_40 : decode cX7_odds 40 = .ok (.aload_n 0, 1) := by decide +kernel
theorem dX7_odds_41 : decode cX7_odds 41 = .ok (.getfield 40, 3) := by decide +kernel
theorem dX7_odds_44 : decode cX7_odds 44 = .ok (.iload_n 2, 1) := by decide +kernel
theorem dX7_odds_45 : decode cX7_odds 45 = .ok (.laload, 1) := by decide +kernel
theorem dX7_odds_46 : decode cX7_odds 46 = .ok (.aload_n 0, 1) := by decide +kernel
theorem dX7_odds_47 : decode cX7_odds 47 = .ok (.getfield 194, 3) := by decide +kernel
theorem dX7_odds_50 : decode cX7_odds 50 = .ok (.iload_n 3, 1) := by decide +kernel
theorem dX7_odds_51 : decode cX7_odds 51 = .ok (.invokestatic 202, 3) := by decide +kernel
theorem dX7_odds_54 : decode cX7_odds 54 = .ok (.lreturn, 1) := by decide +kernel
set_option maxRecDepth 20000 in
theorem ggX7_through_X7_isPerson : GoodIn wsX7_through wsX7_isPerson := goodIn_r _ [8, 9, 10, 11, 7, 12, 83, 84, 85, 86, 87, 88, 89, 90, 91, 92, 93, 94, 95, 96, 97, 98, 99, 100, 101, 102, 103] (by decide +kernel) (by decide +kernel)
set_option maxRecDepth 20000 in
theorem gX7_through_X7_isPerson : GoodIn wsX7_through (wsV RX7 83 RX7 yX7_isPerson wsX7_isPerson) := goodIn_app (goodIn_of _ (by decide +kernel)) ggX7_through_X7_isPerson
set_option maxRecDepth 20000 in
theorem ggX7_through_X7_in : GoodIn wsX7_through wsX7_in := goodIn_r _ [12] (by decide +kernel) (by decide +kernel)
set_option maxRecDepth 20000 in
theorem gX7_through_X7_in : GoodIn wsX7_through (va_wsS RX7 48 yX7_in wsX7_in) := goodIn_app (goodIn_of _ (by decide +kernel)) ggX7_through_X7_in
set_option maxRecDepth 20000 in
theorem ggX7_through_X7_error : GoodIn wsX7_through wsX7_error := goodIn_r _ [16, 17, 18, 83, 84, 85, 86, 87, 88, 89, 90, 91, 92, 93, 94, 95, 96, 97, 98, 99, 100, 101, 102, 103] (by decide +kernel) (by decide +kernel)
set_option maxRecDepth 20000 in
theorem gX7_through_X7_error : GoodIn wsX7_through (wsV RX7 78 RX7 yX7_error wsX7_error) := goodIn_app (goodIn_of _ (by decide +kernel)) ggX7_through_X7_error
set_option maxRecDepth 20000 in
theorem ggX7_through_X7_findWays : GoodIn wsX7_through wsX7_findWays := goodIn_r _ [22, 2, 3, 9, 23, 24, 25, 26, 7, 27, 28, 29, 30, 31, 32, 33, 34, 35, 36, 37, 38, 39, 40, 41, 42, 43, 44, 45, 46, 47, 48, 49, 50, 51, 52, 53, 54, 55, 56, 57, 58, 59, 60, 61, 62, 63, 64, 65, 66, 67, 68, 69, 70, 71, 72, 73, 74, 75, 83, 84, 85, 86, 87, 88, 89, 90, 91, 92, 93, 94, 95, 96, 97, 98, 99, 100, 101, 102, 103] (by decide +kernel) (by decide +kernel)
set_option maxRecDepth 20000 in
theorem gX7_through_X7_findWays : GoodIn wsX7_through (wsV RX7 199 RX7 yX7_findWays wsX7_findWays) := goodIn_app (goodIn_of _ (by decide +kernel)) ggX7_through_X7_findWays
set_option maxRecDepth 20000 in
theorem ggX7_through_X7_dueOf : GoodIn wsX7_through wsX7_dueOf := goodIn_r _ [79, 48, 49, 50, 7, 51, 9, 83, 84, 85, 86, 87, 88, 89, 90, 91, 92, 93, 94, 95, 96, 97, 98, 99, 100, 101, 102, 103] (by decide +kernel) (by decide +kernel)
set_option maxRecDepth 20000 in
theorem gX7_through_X7_dueOf : GoodIn wsX7_through (wsV RX7 90 RX7 yX7_dueOf wsX7_dueOf) := goodIn_app (goodIn_of _ (by decide +kernel)) ggX7_through_X7_dueOf
set_option maxRecDepth 20000 in
theorem ggX7_through_X7_partOf : GoodIn wsX7_through wsX7_partOf := goodIn_r _ [82] (by decide +kernel) (by decide +kernel)
set_option maxRecDepth 20000 in
theorem gX7_through_X7_partOf : GoodIn wsX7_through (va_wsS RX7 202 yX7_partOf wsX7_partOf) := goodIn_app (goodIn_of _ (by decide +kernel)) ggX7_through_X7_partOf
theorem dX7_through_0 : decode cX7_through 0 = .ok (.aload_n 0, 1) := by decide +kernel
theorem dX7_through_1 : decode cX7_through 1 = .ok (.iload_n 1, 1) := by decide +kernel
theorem dX7_through_2 : decode cX7_through 2 = .ok (.invokevirtual 83, 3) := by decide +kernel
theorem dX7_through_5 : decode cX7_through 5 = .ok (.ifCond .eq 12, 3) := by decide +kernel
theorem dX7_through_8 : decode cX7_through 8 = .ok (.iload_n 2, 1) := by decide +kernel
theorem dX7_through_9 : decode cX7_through 9 = .ok (.iconst 0, 1) := by decide +kernel
theorem dX7_through_10 : decode cX7_through 10 = .ok (.iconst 1, 1) := by decide +kernel
theorem dX7_through_11 : decode cX7_through 11 = .ok (.invokestatic 48, 3) := by decide +kernel
theorem dX7_through_14 : decode cX7_through 14 = .ok (.ifCond .ne 11, 3) := by decide +kernel
theorem dX7_through_17 : decode cX7_through 17 = .ok (.aload_n 0, 1) := by decide +kernel
theorem dX7_through_18 : decode cX7_through 18 = .ok (.ldc 77, 2) := by decide +kernel
theorem dX7_through_20 : decode cX7_through 20 = .ok (.invokevirtual 78, 3) := by decide +kernel
theorem dX7_through_23 : decode cX7_through 23 = .ok (.i2l, 1) := by decide +kernel
theorem dX7_through_24 : decode cX7_through 24 = .ok (.lreturn, 1) := by decide +kernel
theorem dX7_through_25 : decode cX7_through 25 = .ok (.aload_n 0, 1) := by decide +kernel
theorem dX7_through_26 : decode cX7_through 26 = .ok (.iload_n 1, 1) := by decide +kernel
theorem dX7_through_27 : decode cX7_through 27 = .ok (.invokevirtual 199, 3) := by decide +kernel
theorem dX7_through_30 : decode cX7_through 30 = .ok (.lconst 0, 1) := by decide +kernel
theorem dX7_through_31 : decode cX7_through 31 = .ok (.lstore_n 3, 1) := by decide +kernel
theorem dX7_through_32 : decode cX7_through 32 = .ok (.aload_n 0, 1) := by decide +kernel
theorem dX7_through_33 : decode cX7_through 33 = .ok (.iload_n 1, 1) := by decide +kernel
theorem dX7_through_34 : decode cX7_through 34 = .ok (.invokevirtual 90, 3) := by decide +kernel
theorem dX7_through_37 : decode cX7_through 37 = .ok (.istore 5, 2) := by decide +kernel
theorem dX7_through_39 : decode cX7_through 39 = .ok (.iload 5, 2) := by decide +kernel
theorem dX7_through_41 : decode cX7_through 41 = .ok (.bipush 9, 2) := by decide +kernel
theorem dX7_through_43 : decode cX7_through 43 = .ok (.if_icmp .gt 19, 3) := by decide +kernel
theorem dX7_through_46 : decode cX7_through 46 = .ok (.lload_n 3, 1) := by decide +kernel
theorem dX7_through_47 : decode cX7_through 47 = .ok (.aload_n 0, 1) := by decide +kernel
theorem dX7_through_48 : decode cX7_through 48 = .ok (.getfield 40, 3) := by decide +kernel
theorem dX7_through_51 : decode cX7_through 51 = .ok (.iload 5, 2) := by decide +kernel
theorem dX7_through_53 : decode cX7_through 53 = .ok (.laload, 1) := by decide +kernel
theorem dX7_through_54 : decode cX7_through 54 = .ok (.ladd, 1) := by decide +kernel
theorem dX7_through_55 : decode cX7_through 55 = .ok (.lstore_n 3, 1) := by decide +kernel
theorem dX7_through_56 : decode cX7_through 56 = .ok (.iinc 5 1, 3) := by decide +kernel
theorem dX7_through_59 : decode cX7_through 59 = .ok (.goto (-20), 3) := by decide +kernel
theorem dX7_through_62 : decode cX7_through 62 = .ok (.lload_n 3, 1) := by decide +kernel
theorem dX7_through_63 : decode cX7_through 63 = .ok (.aload_n 0, 1) := by decide +kernel
theorem dX7_through_64 : decode cX7_through 64 = .ok (.getfield 194, 3) := by decide +kernel
theorem dX7_through_67 : decode cX7_through 67 = .ok (.iload_n 2, 1) := by decide +kernel
theorem dX7_through_68 : decode cX7_through 68 = .ok (.invokestatic 202, 3) := by decide +kernel
theorem dX7_through_71 : decode cX7_through 71 = .ok (.lreturn, 1) := by decide +kernel
set_option maxRecDepth 20000 in
theorem ggX7_safest_X7_isPiece : GoodIn wsX7_safest wsX7_isPiece := goodIn_r _ [7, 2, 8, 9, 6, 10, 57, 58, 59, 60, 61, 62, 63, 64, 65, 66, 67, 68, 69, 70, 71, 72, 73, 74, 75, 76, 77] (by decide +kernel) (by decide +kernel)
set_option maxRecDepth 20000 in
theorem gX7_safest_X7_isPiece : GoodIn wsX7_safest (wsV RX7 100 RX7 yX7_isPiece wsX7_isPiece) := goodIn_app (goodIn_of _ (by decide +kernel)) ggX7_safest_X7_isPiece
set_option maxRecDepth 20000 in
theorem ggX7_safest_X7_in : GoodIn wsX7_safest wsX7_in := goodIn_r _ [10] (by decide +kernel) (by decide +kernel)
set_option maxRecDepth 20000 in
theorem gX7_safest_X7_in : GoodIn wsX7_safest (va_wsS RX7 48 yX7_in wsX7_in) := goodIn_app (goodIn_of _ (by decide +kernel)) ggX7_safest_X7_in
set_option maxRecDepth 20000 in
theorem ggX7_safest_X7_error : GoodIn wsX7_safest wsX7_error := goodIn_r _ [14, 15, 16, 57, 58, 59, 60, 61, 62, 63, 64, 65, 66, 67, 68, 69, 70, 71, 72, 73, 74, 75, 76, 77] (by decide +kernel) (by decide +kernel)
set_option maxRecDepth 20000 in
theorem gX7_safest_X7_error : GoodIn wsX7_safest (wsV RX7 78 RX7 yX7_error wsX7_error) := goodIn_app (goodIn_of _ (by decide +kernel)) ggX7_safest_X7_error
set_option maxRecDepth 20000 in
theorem ggX7_safest_X7_riskOf : GoodIn wsX7_safest wsX7_riskOf := goodIn_r _ [20, 21, 22, 23, 6, 24, 2, 25, 26, 27, 28, 29, 30, 31, 32, 33, 34, 35, 36, 37, 38, 39, 40, 41, 42, 43, 44, 45, 46, 47, 48, 49, 50, 51, 52, 53, 54, 55, 56, 57, 58, 59, 60, 61, 62, 63, 64, 65, 66, 67, 68, 69, 70, 71, 72, 73, 74, 75, 76, 77] (by decide +kernel) (by decide +kernel)
set_option maxRecDepth 20000 in
theorem gX7_safest_X7_riskOf : GoodIn wsX7_safest (wsV RX7 103 RX7 yX7_riskOf wsX7_riskOf) := goodIn_app (goodIn_of _ (by decide +kernel)) ggX7_safest_X7_riskOf
theorem dX7_safest_0 : decode cX7_safest 0 = .ok (.aload_n 0, 1) := by decide +kernel
theorem dX7_safest_1 : decode cX7_safest 1 = .ok (.iload_n 1, 1) := by decide +kernel
theorem dX7_safest_2 : decode cX7_safest 2 = .ok (.invokevirtual 100, 3) := by decide +kernel
theorem dX7_safest_5 : decode cX7_safest 5 = .ok (.ifCond .eq 12, 3) := by decide +kernel
theorem dX7_safest_8 : decode cX7_safest 8 = .ok (.iload_n 2, 1) := by decide +kernel
theorem dX7_safest_9 : decode cX7_safest 9 = .ok (.iconst 0, 1) := by decide +kernel
theorem dX7_safest_10 : decode cX7_safest 10 = .ok (.iconst 1, 1) := by decide +kernel
theorem dX7_safest_11 : decode cX7_safest 11 = .ok (.invokestatic 48, 3) := by decide +kernel
theorem dX7_safest_14 : decode cX7_safest 14 = .ok (.ifCond .ne 10, 3) := by decide +kernel
theorem dX7_safest_17 : decode cX7_safest 17 = .ok (.aload_n 0, 1) := by decide +kernel
theorem dX7_safest_18 : decode cX7_safest 18 = .ok (.ldc 77, 2) := by decide +kernel
theorem dX7_safest_20 : decode cX7_safest 20 = .ok (.invokevirtual 78, 3) := by decide +kernel
theorem dX7_safest_23 : decode cX7_safest 23 = .ok (.ireturn, 1) := by decide +kernel
theorem dX7_safest_24 : decode cX7_safest 24 = .ok (.iconst 0, 1) := by decide +kernel
theorem dX7_safest_25 : decode cX7_safest 25 = .ok (.istore_n 3, 1) := by decide +kernel
theorem dX7_safest_26 : decode cX7_safest 26 = .ok (.bipush 17, 2) := by decide +kernel
theorem dX7_safest_28 : decode cX7_safest 28 = .ok (.istore 4, 2) := by decide +kernel
theorem dX7_safest_30 : decode cX7_safest 30 = .ok (.iconst 0, 1) := by decide +kernel
theorem dX7_safest_31 : decode cX7_safest 31 = .ok (.istore 5, 2) := by decide +kernel
theorem dX7_safest_33 : decode cX7_safest 33 = .ok (.iload 5, 2) := by decide +kernel
theorem dX7_safest_35 : decode cX7_safest 35 = .ok (.aload_n 0, 1) := by decide +kernel
theorem dX7_safest_36 : decode cX7_safest 36 = .ok (.getfield 9, 3) := by decide +kernel
theorem dX7_safest_39 : decode cX7_safest 39 = .ok (.iconst 3, 1) := by decide +kernel
theorem dX7_safest_40 : decode cX7_safest 40 = .ok (.iaload, 1) := by decide +kernel
theorem dX7_safest_41 : decode cX7_safest 41 = .ok (.if_icmp .ge 48, 3) := by decide +kernel
theorem dX7_safest_44 : decode cX7_safest 44 = .ok (.aload_n 0, 1) := by decide +kernel
theorem dX7_safest_45 : decode cX7_safest 45 = .ok (.iload_n 1, 1) := by decide +kernel
theorem dX7_safest_46 : decode cX7_safest 46 = .ok (.iload 5, 2) := by decide +kernel
theorem dX7_safest_48 : decode cX7_safest 48 = .ok (.invokevirtual 103, 3) := by decide +kernel
theorem dX7_safest_51 : decode cX7_safest 51 = .ok (.istore 6, 2) := by decide +kernel
theorem dX7_safest_53 : decode cX7_safest 53 = .ok (.iload 6, 2) := by decide +kernel
theorem dX7_safest_55 : decode cX7_safest 55 = .ok (.iload 4, 2) := by decide +kernel
theorem dX7_safest_57 : decode cX7_safest 57 = .ok (.if_icmp .ge 8, 3) := by decide +kernel
theorem dX7_safest_60 : decode cX7_safest 60 = .ok (.iload 5, 2) := by decide +kernel
theorem dX7_safest_62 : decode cX7_safest 62 = .ok (.goto 4, 3) := by decide +kernel
theorem dX7_safest_65 : decode cX7_safest 65 = .ok (.iload_n 3, 1) := by decide +kernel
theorem dX7_safest_66 : decode cX7_safest 66 = .ok (.istore_n 3, 1) := by decide +kernel
theorem dX7_safest_67 : decode cX7_safest 67 = .ok (.iload 6, 2) := by decide +kernel
theorem dX7_safest_69 : decode cX7_safest 69 = .ok (.iload 4, 2) := by decide +kernel
theorem dX7_safest_71 : decode cX7_safest 71 = .ok (.if_icmp .ge 8, 3) := by decide +kernel
theorem dX7_safest_74 : decode cX7_safest 74 = .ok (.iload 6, 2) := by decide +kernel
theorem dX7_safest_76 : decode cX7_safest 76 = .ok (.goto 5, 3) := by decide +kernel
theorem dX7_safest_79 : decode cX7_safest 79 = .ok (.iload 4, 2) := by decide +kernel
theorem dX7_safest_81 : decode cX7_safest 81 = .ok (.istore 4, 2) := by decide +kernel
theorem dX7_safest_83 : decode cX7_safest 83 = .ok (.iinc 5 1, 3) := by decide +kernel
theorem dX7_safest_86 : decode cX7_safest 86 = .ok (.goto (-53), 3) := by decide +kernel
theorem dX7_safest_89 : decode cX7_safest 89 = .ok (.iload_n 2, 1) := by decide +kernel
theorem dX7_safest_90 : decode cX7_safest 90 = .ok (.ifCond .ne 7, 3) := by decide +kernel
theorem dX7_safest_93 : decode cX7_safest 93 = .ok (.iload_n 3, 1) := by decide +kernel
theorem dX7_safest_94 : decode cX7_safest 94 = .ok (.goto 5, 3) := by decide +kernel
theorem dX7_safest_97 : decode cX7_safest 97 = .ok (.iload 4, 2) := by decide +kernel
theorem dX7_safest_99 : decode cX7_safest 99 = .ok (.ireturn, 1) := by decide +kernel
set_option maxRecDepth 20000 in
theorem ggX7_saves_X7_isPerson : GoodIn wsX7_saves wsX7_isPerson := goodIn_r _ [7, 8, 9, 10, 6, 11, 53, 54, 55, 56, 57, 58, 59, 60, 61, 62, 63, 64, 65, 66, 67, 68, 69, 70, 71, 72, 73] (by decide +kernel) (by decide +kernel)
set_option maxRecDepth 20000 in
theorem gX7_saves_X7_isPerson : GoodIn wsX7_saves (wsV RX7 83 RX7 yX7_isPerson wsX7_isPerson) := goodIn_app (goodIn_of _ (by decide +kernel)) ggX7_saves_X7_isPerson
set_option maxRecDepth 20000 in
theorem ggX7_saves_X7_in : GoodIn wsX7_saves wsX7_in := goodIn_r _ [11] (by decide +kernel) (by decide +kernel)
set_option maxRecDepth 20000 in
theorem gX7_saves_X7_in : GoodIn wsX7_saves (va_wsS RX7 48 yX7_in wsX7_in) := goodIn_app (goodIn_of _ (by decide +kernel)) ggX7_saves_X7_in
set_option maxRecDepth 20000 in
theorem ggX7_saves_X7_error : GoodIn wsX7_saves wsX7_error := goodIn_r _ [15, 16, 17, 53, 54, 55, 56, 57, 58, 59, 60, 61, 62, 63, 64, 65, 66, 67, 68, 69, 70, 71, 72, 73] (by decide +kernel) (by decide +kernel)
set_option maxRecDepth 20000 in
theorem gX7_saves_X7_error : GoodIn wsX7_saves (wsV RX7 78 RX7 yX7_error wsX7_error) := goodIn_app (goodIn_of _ (by decide +kernel)) ggX7_saves_X7_error
set_option maxRecDepth 20000 in
theorem ggX7_saves_X7_isThrough : GoodIn wsX7_saves wsX7_isThrough := goodIn_r _ [21, 22, 23, 24, 6, 25, 8, 53, 54, 55, 56, 57, 58, 59, 60, 61, 62, 63, 64, 65, 66, 67, 68, 69, 70, 71, 72, 73] (by decide +kernel) (by decide +kernel)
set_option maxRecDepth 20000 in
theorem gX7_saves_X7_isThrough : GoodIn wsX7_saves (wsV RX7 87 RX7 yX7_isThrough wsX7_isThrough) := goodIn_app (goodIn_of _ (by decide +kernel)) ggX7_saves_X7_isThrough
set_option maxRecDepth 20000 in
theorem ggX7_saves_X7_leftOf : GoodIn wsX7_saves wsX7_leftOf := goodIn_r _ [29, 8, 30, 31, 32, 6, 33, 34, 35, 36, 37, 38, 39, 40, 41, 42, 43, 44, 45, 53, 54, 55, 56, 57, 58, 59, 60, 61, 62, 63, 64, 65, 66, 67, 68, 69, 70, 71, 72, 73] (by decide +kernel) (by decide +kernel)
set_option maxRecDepth 20000 in
theorem gX7_saves_X7_leftOf : GoodIn wsX7_saves (wsV RX7 188 RX7 yX7_leftOf wsX7_leftOf) := goodIn_app (goodIn_of _ (by decide +kernel)) ggX7_saves_X7_leftOf
set_option maxRecDepth 20000 in
theorem ggX7_saves_X7_bits : GoodIn wsX7_saves wsX7_bits := goodIn_r _ [48] (by decide +kernel) (by decide +kernel)
set_option maxRecDepth 20000 in
theorem gX7_saves_X7_bits : GoodIn wsX7_saves (va_wsS RX7 191 yX7_bits wsX7_bits) := goodIn_app (goodIn_of _ (by decide +kernel)) ggX7_saves_X7_bits
set_option maxRecDepth 20000 in
theorem ggX7_saves_X7_dueOf : GoodIn wsX7_saves wsX7_dueOf := goodIn_r _ [52, 22, 23, 24, 6, 25, 8, 53, 54, 55, 56, 57, 58, 59, 60, 61, 62, 63, 64, 65, 66, 67, 68, 69, 70, 71, 72, 73] (by decide +kernel) (by decide +kernel)
set_option maxRecDepth 20000 in
theorem gX7_saves_X7_dueOf : GoodIn wsX7_saves (wsV RX7 90 RX7 yX7_dueOf wsX7_dueOf) := goodIn_app (goodIn_of _ (by decide +kernel)) ggX7_saves_X7_dueOf
theorem dX7_saves_0 : decode cX7_saves 0 = .ok (.aload_n 0, 1) := by decide +kernel
theorem dX7_saves_1 : decode cX7_saves 1 = .ok (.iload_n 1, 1) := by decide +kernel
theorem dX7_saves_2 : decode cX7_saves 2 = .ok (.invokevirtual 83, 3) := by decide +kernel
theorem dX7_saves_5 : decode cX7_saves 5 = .ok (.ifCond .eq 12, 3) := by decide +kernel
theorem dX7_saves_8 : decode cX7_saves 8 = .ok (.iload_n 2, 1) := by decide +kernel
theorem dX7_saves_9 : decode cX7_saves 9 = .ok (.iconst 0, 1) := by decide +kernel
theorem dX7_saves_10 : decode cX7_saves 10 = .ok (.iconst 1, 1) := by decide +kernel
theorem dX7_saves_11 : decode cX7_saves 11 = .ok (.invokestatic 48, 3) := by decide +kernel
theorem dX7_saves_14 : decode cX7_saves 14 = .ok (.ifCond .ne 10, 3) := by decide +kernel
theorem dX7_saves_17 : decode cX7_saves 17 = .ok (.aload_n 0, 1) := by decide +kernel
theorem dX7_saves_18 : decode cX7_saves 18 = .ok (.ldc 77, 2) := by decide +kernel
theorem dX7_saves_20 : decode cX7_saves 20 = .ok (.invokevirtual 78, 3) := by decide +kernel
theorem dX7_saves_23 : decode cX7_saves 23 = .ok (.ireturn, 1) := by decide +kernel
theorem dX7_saves_24 : decode cX7_saves 24 = .ok (.aload_n 0, 1) := by decide +kernel
theorem dX7_saves_25 : decode cX7_saves 25 = .ok (.iload_n 1, 1) := by decide +kernel
theorem dX7_saves_26 : decode cX7_saves 26 = .ok (.invokevirtual 87, 3) := by decide +kernel
theorem dX7_saves_29 : decode cX7_saves 29 = .ok (.ifCond .eq 10, 3) := by decide +kernel
theorem dX7_saves_32 : decode cX7_saves 32 = .ok (.aload_n 0, 1) := by decide +kernel
theorem dX7_saves_33 : decode cX7_saves 33 = .ok (.ldc 113, 2) := by decide +kernel
theorem dX7_saves_35 : decode cX7_saves 35 = .ok (.invokevirtual 78, 3) := by decide +kernel
theorem dX7_saves_38 : decode cX7_saves 38 = .ok (.ireturn, 1) := by decide +kernel
theorem dX7_saves_39 : decode cX7_saves 39 = .ok (.aload_n 0, 1) := by decide +kernel
theorem dX7_saves_40 : decode cX7_saves 40 = .ok (.iload_n 1, 1) := by decide +kernel
theorem dX7_saves_41 : decode cX7_saves 41 = .ok (.invokevirtual 188, 3) := by decide +kernel
theorem dX7_saves_44 : decode cX7_saves 44 = .ok (.istore_n 3, 1) := by decide +kernel
theorem dX7_saves_45 : decode cX7_saves 45 = .ok (.iload_n 3, 1) := by decide +kernel
theorem dX7_saves_46 : decode cX7_saves 46 = .ok (.invokestatic 191, 3) := by decide +kernel
theorem dX7_saves_49 : decode cX7_saves 49 = .ok (.aload_n 0, 1) := by decide +kernel
theorem dX7_saves_50 : decode cX7_saves 50 = .ok (.iload_n 1, 1) := by decide +kernel
theorem dX7_saves_51 : decode cX7_saves 51 = .ok (.invokevirtual 90, 3) := by decide +kernel
theorem dX7_saves_54 : decode cX7_saves 54 = .ok (.isub, 1) := by decide +kernel
theorem dX7_saves_55 : decode cX7_saves 55 = .ok (.iconst 1, 1) := by decide +kernel
theorem dX7_saves_56 : decode cX7_saves 56 = .ok (.iadd, 1) := by decide +kernel
theorem dX7_saves_57 : decode cX7_saves 57 = .ok (.istore 4, 2) := by decide +kernel
theorem dX7_saves_59 : decode cX7_saves 59 = .ok (.iload 4, 2) := by decide +kernel
theorem dX7_saves_61 : decode cX7_saves 61 = .ok (.ifCond .ge 7, 3) := by decide +kernel
theorem dX7_saves_64 : decode cX7_saves 64 = .ok (.iconst 0, 1) := by decide +kernel
theorem dX7_saves_65 : decode cX7_saves 65 = .ok (.goto 5, 3) := by decide +kernel
theorem dX7_saves_68 : decode cX7_saves 68 = .ok (.iload 4, 2) := by decide +kernel
theorem dX7_saves_70 : decode cX7_saves 70 = .ok (.istore 4, 2) := by decide +kernel
theorem dX7_saves_72 : decode cX7_saves 72 = .ok (.iconst 0, 1) := by decide +kernel
theorem dX7_saves_73 : decode cX7_saves 73 = .ok (.istore 5, 2) := by decide +kernel
theorem dX7_saves_75 : decode cX7_saves 75 = .ok (.iload_n 3, 1) := by decide +kernel
theorem dX7_saves_76 : decode cX7_saves 76 = .ok (.istore 6, 2) := by decide +kernel
theorem dX7_saves_78 : decode cX7_saves 78 = .ok (.iconst 0, 1) := by decide +kernel
theorem dX7_saves_79 : decode cX7_saves 79 = .ok (.istore 7, 2) := by decide +kernel
theorem dX7_saves_81 : decode cX7_saves 81 = .ok (.iload 7, 2) := by decide +kernel
theorem dX7_saves_83 : decode cX7_saves 83 = .ok (.iload 4, 2) := by decide +kernel
theorem dX7_saves_85 : decode cX7_saves 85 = .ok (.if_icmp .ge 29, 3) := by decide +kernel
theorem dX7_saves_88 : decode cX7_saves 88 = .ok (.iload 5, 2) := by decide +kernel
theorem dX7_saves_90 : decode cX7_saves 90 = .ok (.iload 6, 2) := by decide +kernel
theorem dX7_saves_92 : decode cX7_saves 92 = .ok (.iload 6, 2) := by decide +kernel
theorem dX7_saves_94 : decode cX7_saves 94 = .ok (.ineg, 1) := by decide +kernel
theorem dX7_saves_95 : decode cX7_saves 95 = .ok (.iand, 1) := by decide +kernel
theorem dX7_saves_96 : decode cX7_saves 96 = .ok (.ior, 1) := by decide +kernel
theorem dX7_saves_97 : decode cX7_saves 97 = .ok (.istore 5, 2) := by decide +kernel
theorem dX7_saves_99 : decode cX7_saves 99 = .ok (.iload 6, 2) := by decide +kernel
theorem dX7_saves_101 : decode cX7_saves 101 = .ok (.iload 6, 2) := by decide +kernel
theorem dX7_saves_103 : decode cX7_saves 103 = .ok (.iconst 1, 1) := by decide +kernel
theorem dX7_saves_104 : decode cX7_saves 104 = .ok (.isub, 1) := by decide +kernel
theorem dX7_saves_105 : decode cX7_saves 105 = .ok (.iand, 1) := by decide +kernel
theorem dX7_saves_106 : decode cX7_saves 106 = .ok (.istore 6, 2) := by decide +kernel
theorem dX7_saves_108 : decode cX7_saves 108 = .ok (.iinc 7 1, 3) := by decide +kernel
theorem dX7_saves_111 : decode cX7_saves 111 = .ok (.goto (-30), 3) := by decide +kernel
theorem dX7_saves_114 : decode cX7_saves 114 = .ok (.iload_n 2, 1) := by decide +kernel
theorem dX7_saves_115 : decode cX7_saves 115 = .ok (.ifCond .ne 8, 3) := by decide +kernel
theorem dX7_saves_118 : decode cX7_saves 118 = .ok (.iload 4, 2) := by decide +kernel
theorem dX7_saves_120 : decode cX7_saves 120 = .ok (.goto 5, 3) := by decide +kernel
theorem dX7_saves_123 : decode cX7_saves 123 = .ok (.iload 5, 2) := by decide +kernel
theorem dX7_saves_125 : decode cX7_saves 125 = .ok (.ireturn, 1) := by decide +kernel
set_option maxRecDepth 20000 in
theorem ggX7_counts_X7_isPiece : GoodIn wsX7_counts wsX7_isPiece := goodIn_r _ [8, 2, 9, 10, 7, 11, 30, 31, 32, 33, 34, 35, 36, 37, 38, 39, 40, 41, 42, 43, 44, 45, 46, 47, 48, 49, 50] (by decide +kernel) (by decide +kernel)
set_option maxRecDepth 20000 in
theorem gX7_counts_X7_isPiece : GoodIn wsX7_counts (wsV RX7 100 RX7 yX7_isPiece wsX7_isPiece) := goodIn_app (goodIn_of _ (by decide +kernel)) ggX7_counts_X7_isPiece
set_option maxRecDepth 20000 in
theorem ggX7_counts_X7_error : GoodIn wsX7_counts wsX7_error := goodIn_r _ [15, 16, 17, 30, 31, 32, 33, 34, 35, 36, 37, 38, 39, 40, 41, 42, 43, 44, 45, 46, 47, 48, 49, 50] (by decide +kernel) (by decide +kernel)
set_option maxRecDepth 20000 in
theorem gX7_counts_X7_error : GoodIn wsX7_counts (wsV RX7 78 RX7 yX7_error wsX7_error) := goodIn_app (goodIn_of _ (by decide +kernel)) ggX7_counts_X7_error
set_option maxRecDepth 20000 in
theorem ggX7_counts_X7_doesCountOn : GoodIn wsX7_counts wsX7_doesCountOn := goodIn_r _ [21, 22, 23, 24, 7, 25, 2, 26, 27, 28, 29, 30, 31, 32, 33, 34, 35, 36, 37, 38, 39, 40, 41, 42, 43, 44, 45, 46, 47, 48, 49, 50] (by decide +kernel) (by decide +kernel)
set_option maxRecDepth 20000 in
theorem gX7_counts_X7_doesCountOn : GoodIn wsX7_counts (wsV RX7 73 RX7 yX7_doesCountOn wsX7_doesCountOn) := goodIn_app (goodIn_of _ (by decide +kernel)) ggX7_counts_X7_doesCountOn
theorem dX7_counts_0 : decode cX7_counts 0 = .ok (.aload_n 0, 1) := by decide +kernel
theorem dX7_counts_1 : decode cX7_counts 1 = .ok (.iload_n 1, 1) := by decide +kernel
theorem dX7_counts_2 : decode cX7_counts 2 = .ok (.invokevirtual 100, 3) := by decide +kernel
theorem dX7_counts_5 : decode cX7_counts 5 = .ok (.ifCond .ne 10, 3) := by decide +kernel
theorem dX7_counts_8 : decode cX7_counts 8 = .ok (.aload_n 0, 1) := by decide +kernel
theorem dX7_counts_9 : decode cX7_counts 9 = .ok (.ldc 77, 2) := by decide +kernel
theorem dX7_counts_11 : decode cX7_counts 11 = .ok (.invokevirtual 78, 3) := by decide +kernel
theorem dX7_counts_14 : decode cX7_counts 14 = .ok (.ireturn, 1) := by decide +kernel
theorem dX7_counts_15 : decode cX7_counts 15 = .ok (.iconst 0, 1) := by decide +kernel
theorem dX7_counts_16 : decode cX7_counts 16 = .ok (.istore_n 2, 1) := by decide +kernel
theorem dX7_counts_17 : decode cX7_counts 17 = .ok (.iload_n 2, 1) := by decide +kernel
theorem dX7_counts_18 : decode cX7_counts 18 = .ok (.bipush 60, 2) := by decide +kernel
theorem dX7_counts_20 : decode cX7_counts 20 = .ok (.if_icmp .gt 27, 3) := by decide +kernel
theorem dX7_counts_23 : decode cX7_counts 23 = .ok (.aload_n 0, 1) := by decide +kernel
theorem dX7_counts_24 : decode cX7_counts 24 = .ok (.iload_n 1, 1) := by decide +kernel
theorem dX7_counts_25 : decode cX7_counts 25 = .ok (.aload_n 0, 1) := by decide +kernel
theorem dX7_counts_26 : decode cX7_counts 26 = .ok (.getfield 9, 3) := by decide +kernel
theorem dX7_counts_29 : decode cX7_counts 29 = .ok (.iconst 0, 1) := by decide +kernel
theorem dX7_counts_30 : decode cX7_counts 30 = .ok (.iaload, 1) := by decide +kernel
theorem dX7_counts_31 : decode cX7_counts 31 = .ok (.iload_n 2, 1) := by decide +kernel
theorem dX7_counts_32 : decode cX7_counts 32 = .ok (.iadd, 1) := by decide +kernel
theorem dX7_counts_33 : decode cX7_counts 33 = .ok (.invokevirtual 73, 3) := by decide +kernel
theorem dX7_counts_36 : decode cX7_counts 36 = .ok (.ifCond .eq 5, 3) := by decide +kernel
theorem dX7_counts_39 : decode cX7_counts 39 = .ok (.iload_n 2, 1) := by decide +kernel
theorem dX7_counts_40 : decode cX7_counts 40 = .ok (.ireturn, 1) := by decide +kernel
theorem dX7_counts_41 : decode cX7_counts 41 = .ok (.iinc 2 1, 3) := by decide +kernel
theorem dX7_counts_44 : decode cX7_counts 44 = .ok (.goto (-27), 3) := by decide +kernel
theorem dX7_counts_47 : decode cX7_counts 47 = .ok (.aload_n 0, 1) := by decide +kernel
theorem dX7_counts_48 : decode cX7_counts 48 = .ok (.ldc 206, 2) := by decide +kernel
theorem dX7_counts_50 : decode cX7_counts 50 = .ok (.invokevirtual 78, 3) := by decide +kernel
theorem dX7_counts_53 : decode cX7_counts 53 = .ok (.ireturn, 1) := by decide +kernel
set_option maxRecDepth 20000 in
theorem ggX7_isSo_X7_riskBy : GoodIn wsX7_isSo wsX7_riskBy := goodIn_r _ [8, 2, 9, 10, 11, 7, 12, 13, 14, 15, 16, 17, 18, 19, 20, 21, 22, 23, 24, 25, 26, 27, 28, 29, 30, 31, 32, 33, 34, 35, 36, 37, 38, 39, 40, 41, 42, 43, 44, 45, 46, 47, 48, 49, 50, 51, 52, 53, 54, 55, 56, 57] (by decide +kernel) (by decide +kernel)
set_option maxRecDepth 20000 in
theorem gX7_isSo_X7_riskBy : GoodIn wsX7_isSo (wsV RX7 70 RX7 yX7_riskBy wsX7_riskBy) := goodIn_app (goodIn_of _ (by decide +kernel)) ggX7_isSo_X7_riskBy
theorem dX7_isSo_0 : decode cX7_isSo 0 = .ok (.aload_n 0, 1) := by decide +kernel
theorem dX7_isSo_1 : decode cX7_isSo 1 = .ok (.getfield 22, 3) := by decide +kernel
theorem dX7_isSo_4 : decode cX7_isSo 4 = .ok (.iload_n 1, 1) := by decide +kernel
theorem dX7_isSo_5 : decode cX7_isSo 5 = .ok (.iaload, 1) := by decide +kernel
theorem dX7_isSo_6 : decode cX7_isSo 6 = .ok (.aload_n 0, 1) := by decide +kernel
theorem dX7_isSo_7 : decode cX7_isSo 7 = .ok (.getfield 9, 3) := by decide +kernel
theorem dX7_isSo_10 : decode cX7_isSo 10 = .ok (.iconst 2, 1) := by decide +kernel
theorem dX7_isSo_11 : decode cX7_isSo 11 = .ok (.iaload, 1) := by decide +kernel
theorem dX7_isSo_12 : decode cX7_isSo 12 = .ok (.if_icmp .gt 7, 3) := by decide +kernel
theorem dX7_isSo_15 : decode cX7_isSo 15 = .ok (.iconst 1, 1) := by decide +kernel
theorem dX7_isSo_16 : decode cX7_isSo 16 = .ok (.goto 4, 3) := by decide +kernel
theorem dX7_isSo_19 : decode cX7_isSo 19 = .ok (.iconst 0, 1) := by decide +kernel
theorem dX7_isSo_20 : decode cX7_isSo 20 = .ok (.istore_n 3, 1) := by decide +kernel
theorem dX7_isSo_21 : decode cX7_isSo 21 = .ok (.iconst 0, 1) := by decide +kernel
theorem dX7_isSo_22 : decode cX7_isSo 22 = .ok (.istore 4, 2) := by decide +kernel
theorem dX7_isSo_24 : decode cX7_isSo 24 = .ok (.iload 4, 2) := by decide +kernel
theorem dX7_isSo_26 : decode cX7_isSo 26 = .ok (.aload_n 0, 1) := by decide +kernel
theorem dX7_isSo_27 : decode cX7_isSo 27 = .ok (.getfield 22, 3) := by decide +kernel
theorem dX7_isSo_30 : decode cX7_isSo 30 = .ok (.iload_n 1, 1) := by decide +kernel
theorem dX7_isSo_31 : decode cX7_isSo 31 = .ok (.iaload, 1) := by decide +kernel
theorem dX7_isSo_32 : decode cX7_isSo 32 = .ok (.if_icmp .ge 41, 3) := by decide +kernel
theorem dX7_isSo_35 : decode cX7_isSo 35 = .ok (.iload_n 3, 1) := by decide +kernel
theorem dX7_isSo_36 : decode cX7_isSo 36 = .ok (.ifCond .eq 37, 3) := by decide +kernel
theorem dX7_isSo_39 : decode cX7_isSo 39 = .ok (.aload_n 0, 1) := by decide +kernel
theorem dX7_isSo_40 : decode cX7_isSo 40 = .ok (.getfield 25, 3) := by decide +kernel
theorem dX7_isSo_43 : decode cX7_isSo 43 = .ok (.bipush 24, 2) := by decide +kernel
theorem dX7_isSo_45 : decode cX7_isSo 45 = .ok (.iload_n 1, 1) := by decide +kernel
theorem dX7_isSo_46 : decode cX7_isSo 46 = .ok (.imul, 1) := by decide +kernel
theorem dX7_isSo_47 : decode cX7_isSo 47 = .ok (.iload 4, 2) := by decide +kernel
theorem dX7_isSo_49 : decode cX7_isSo 49 = .ok (.iadd, 1) := by decide +kernel
theorem dX7_isSo_50 : decode cX7_isSo 50 = .ok (.iaload, 1) := by decide +kernel
theorem dX7_isSo_51 : decode cX7_isSo 51 = .ok (.aload_n 0, 1) := by decide +kernel
theorem dX7_isSo_52 : decode cX7_isSo 52 = .ok (.iload 4, 2) := by decide +kernel
theorem dX7_isSo_54 : decode cX7_isSo 54 = .ok (.iload_n 2, 1) := by decide +kernel
theorem dX7_isSo_55 : decode cX7_isSo 55 = .ok (.invokevirtual 70, 3) := by decide +kernel
theorem dX7_isSo_58 : decode cX7_isSo 58 = .ok (.if_icmp .ne 7, 3) := by decide +kernel
theorem dX7_isSo_61 : decode cX7_isSo 61 = .ok (.iconst 1, 1) := by decide +kernel
theorem dX7_isSo_62 : decode cX7_isSo 62 = .ok (.goto 4, 3) := by decide +kernel
theorem dX7_isSo_65 : decode cX7_isSo 65 = .ok (.iconst 0, 1) := by decide +kernel
theorem dX7_isSo_66 : decode cX7_isSo 66 = .ok (.istore_n 3, 1) := by decide +kernel
theorem dX7_isSo_67 : decode cX7_isSo 67 = .ok (.iinc 4 1, 3) := by decide +kernel
theorem dX7_isSo_70 : decode cX7_isSo 70 = .ok (.goto (-46), 3) := by decide +kernel
theorem dX7_isSo_73 : decode cX7_isSo 73 = .ok (.iload_n 3, 1) := by decide +kernel
theorem dX7_isSo_74 : decode cX7_isSo 74 = .ok (.ireturn, 1) := by decide +kernel
set_option maxRecDepth 20000 in
theorem ggX7_fits_X7_isSheet : GoodIn wsX7_fits wsX7_isSheet := goodIn_r _ [7, 8, 9, 6, 10] (by decide +kernel) (by decide +kernel)
set_option maxRecDepth 20000 in
theorem gX7_fits_X7_isSheet : GoodIn wsX7_fits (va_wsS RX7 207 yX7_isSheet wsX7_isSheet) := goodIn_app (goodIn_of _ (by decide +kernel)) ggX7_fits_X7_isSheet
set_option maxRecDepth 20000 in
theorem ggX7_fits_X7_isPerson : GoodIn wsX7_fits wsX7_isPerson := goodIn_r _ [14, 15, 8, 9, 6, 10, 60, 61, 62, 63, 64, 65, 66, 67, 68, 69, 70, 71, 72, 73, 74, 75, 76, 77, 78, 79, 80] (by decide +kernel) (by decide +kernel)
set_option maxRecDepth 20000 in
theorem gX7_fits_X7_isPerson : GoodIn wsX7_fits (wsV RX7 83 RX7 yX7_isPerson wsX7_isPerson) := goodIn_app (goodIn_of _ (by decide +kernel)) ggX7_fits_X7_isPerson
set_option maxRecDepth 20000 in
theorem ggX7_fits_X7_in : GoodIn wsX7_fits wsX7_in := goodIn_r _ [10] (by decide +kernel) (by decide +kernel)
set_option maxRecDepth 20000 in
theorem gX7_fits_X7_in : GoodIn wsX7_fits (va_wsS RX7 48 yX7_in wsX7_in) := goodIn_app (goodIn_of _ (by decide +kernel)) ggX7_fits_X7_in
set_option maxRecDepth 20000 in
theorem ggX7_fits_X7_error : GoodIn wsX7_fits wsX7_error := goodIn_r _ [19, 20, 21, 60, 61, 62, 63, 64, 65, 66, 67, 68, 69, 70, 71, 72, 73, 74, 75, 76, 77, 78, 79, 80] (by decide +kernel) (by decide +kernel)
set_option maxRecDepth 20000 in
theorem gX7_fits_X7_error : GoodIn wsX7_fits (wsV RX7 78 RX7 yX7_error wsX7_error) := goodIn_app (goodIn_of _ (by decide +kernel)) ggX7_fits_X7_error
set_option maxRecDepth 20000 in
theorem ggX7_fits_X7_isSo : GoodIn wsX7_fits wsX7_isSo := goodIn_r _ [25, 26, 15, 27, 28, 29, 30, 6, 31, 32, 33, 34, 35, 36, 37, 38, 39, 40, 41, 42, 43, 44, 45, 46, 47, 48, 49, 50, 51, 52, 53, 54, 55, 56, 57, 58, 59, 60, 61, 62, 63, 64, 65, 66, 67, 68, 69, 70, 71, 72, 73, 74, 75, 76, 77, 78, 79, 80] (by decide +kernel) (by decide +kernel)
set_option maxRecDepth 20000 in
theorem gX7_fits_X7_isSo : GoodIn wsX7_fits (wsV RX7 210 RX7 yX7_isSo wsX7_isSo) := goodIn_app (goodIn_of _ (by decide +kernel)) ggX7_fits_X7_isSo
theorem dX7_fits_0 : decode cX7_fits 0 = .ok (.iload_n 1, 1) := by decide +kernel
theorem dX7_fits_1 : decode cX7_fits 1 = .ok (.invokestatic 207, 3) := by decide +kernel
theorem dX7_fits_4 : decode cX7_fits 4 = .ok (.ifCond .eq 20, 3) := by decide +kernel
theorem dX7_fits_7 : decode cX7_fits 7 = .ok (.aload_n 0, 1) := by decide +kernel
theorem dX7_fits_8 : decode cX7_fits 8 = .ok (.iload_n 2, 1) := by decide +kernel
theorem dX7_fits_9 : decode cX7_fits 9 = .ok (.invokevirtual 83, 3) := by decide +kernel
theorem dX7_fits_12 : decode cX7_fits 12 = .ok (.ifCond .eq 12, 3) := by decide +kernel
theorem dX7_fits_15 : decode cX7_fits 15 = .ok (.iload_n 3, 1) := by decide +kernel
theorem dX7_fits_16 : decode cX7_fits 16 = .ok (.iconst 0, 1) := by decide +kernel
theorem dX7_fits_17 : decode cX7_fits 17 = .ok (.iconst 1, 1) := by decide +kernel
theorem dX7_fits_18 : decode cX7_fits 18 = .ok (.invokestatic 48, 3) := by decide +kernel
theorem dX7_fits_21 : decode cX7_fits 21 = .ok (.ifCond .ne 10, 3) := by decide +kernel
theorem dX7_fits_24 : decode cX7_fits 24 = .ok (.aload_n 0, 1) := by decide +kernel
theorem dX7_fits_25 : decode cX7_fits 25 = .ok (.ldc 77, 2) := by decide +kernel
theorem dX7_fits_27 : decode cX7_fits 27 = .ok (.invokevirtual 78, 3) := by decide +kernel
theorem dX7_fits_30 : decode cX7_fits 30 = .ok (.ireturn, 1) := by decide +kernel
theorem dX7_fits_31 : decode cX7_fits 31 = .ok (.aload_n 0, 1) := by decide +kernel
theorem dX7_fits_32 : decode cX7_fits 32 = .ok (.getfield 19, 3) := by decide +kernel
theorem dX7_fits_35 : decode cX7_fits 35 = .ok (.iload_n 1, 1) := by decide +kernel
theorem dX7_fits_36 : decode cX7_fits 36 = .ok (.iaload, 1) := by decide +kernel
theorem dX7_fits_37 : decode cX7_fits 37 = .ok (.ifCond .ne 10, 3) := by decide +kernel
theorem dX7_fits_40 : decode cX7_fits 40 = .ok (.aload_n 0, 1) := by decide +kernel
theorem dX7_fits_41 : decode cX7_fits 41 = .ok (.ldc 206, 2) := by decide +kernel
theorem dX7_fits_43 : decode cX7_fits 43 = .ok (.invokevirtual 78, 3) := by decide +kernel
theorem dX7_fits_46 : decode cX7_fits 46 = .ok (.ireturn, 1) := by decide +kernel
theorem dX7_fits_47 : decode cX7_fits 47 = .ok (.iconst 0, 1) := by decide +kernel
theorem dX7_fits_48 : decode cX7_fits 48 = .ok (.istore 4, 2) := by decide +kernel
theorem dX7_fits_50 : decode cX7_fits 50 = .ok (.iconst (-1), 1) := by decide +kernel
theorem dX7_fits_51 : decode cX7_fits 51 = .ok (.istore 5, 2) := by decide +kernel
theorem dX7_fits_53 : decode cX7_fits 53 = .ok (.bipush 9, 2) := by decide +kernel
theorem dX7_fits_55 : decode cX7_fits 55 = .ok (.istore 6, 2) := by decide +kernel
theorem dX7_fits_57 : decode cX7_fits 57 = .ok (.iload 6, 2) := by decide +kernel
theorem dX7_fits_59 : decode cX7_fits 59 = .ok (.ifCond .lt 50, 3) := by decide +kernel
theorem dX7_fits_62 : decode cX7_fits 62 = .ok (.aload_n 0, 1) := by decide +kernel
theorem dX7_fits_63 : decode cX7_fits 63 = .ok (.iload_n 1, 1) := by decide +kernel
theorem dX7_fits_64 : decode cX7_fits 64 = .ok (.iload 6, 2) := by decide +kernel
theorem dX7_fits_66 : decode cX7_fits 66 = .ok (.invokevirtual 210, 3) := by decide +kernel
theorem dX7_fits_69 : decode cX7_fits 69 = .ok (.istore 7, 2) := by decide +kernel
theorem dX7_fits_71 : decode cX7_fits 71 = .ok (.iload 4, 2) := by decide +kernel
theorem dX7_fits_73 : decode cX7_fits 73 = .ok (.iload 7, 2) := by decide +kernel
theorem dX7_fits_75 : decode cX7_fits 75 = .ok (.ifCond .eq 10, 3) := by decide +kernel
theorem dX7_fits_78 : decode cX7_fits 78 = .ok (.iconst 1, 1) := by decide +kernel
theorem dX7_fits_79 : decode cX7_fits 79 = .ok (.iload 6, 2) := by decide +kernel
theorem dX7_fits_81 : decode cX7_fits 81 = .ok (.ishl, 1) := by decide +kernel
theorem dX7_fits_82 : decode cX7_fits 82 = .ok (.goto 4, 3) := by decide +kernel
theorem dX7_fits_85 : decode cX7_fits 85 = .ok (.iconst 0, 1) := by decide +kernel
theorem dX7_fits_86 : decode cX7_fits 86 = .ok (.ior, 1) := by decide +kernel
theorem dX7_fits_87 : decode cX7_fits 87 = .ok (.istore 4, 2) := by decide +kernel
theorem dX7_fits_89 : decode cX7_fits 89 = .ok (.iload 7, 2) := by decide +kernel
theorem dX7_fits_91 : decode cX7_fits 91 = .ok (.ifCond .eq 8, 3) := by decide +kernel
theorem dX7_fits_94 : decode cX7_fits 94 = .ok (.iload 6, 2) := by decide +kernel
theorem dX7_fits_96 : decode cX7_fits 96 = .ok (.goto 5, 3) := by decide +kernel
theorem dX7_fits_99 : decode cX7_fits 99 = .ok (.iload 5, 2) := by decide +kernel
theorem dX7_fits_101 : decode cX7_fits 101 = .ok (.istore 5, 2) := by decide +kernel
theorem dX7_fits_103 : decode cX7_fits 103 = .ok (.iinc 6 (-1), 3) := by decide +kernel
theorem dX7_fits_106 : decode cX7_fits 106 = .ok (.goto (-49), 3) := by decide +kernel
theorem dX7_fits_109 : decode cX7_fits 109 = .ok (.iload_n 3, 1) := by decide +kernel
theorem dX7_fits_110 : decode cX7_fits 110 = .ok (.ifCond .ne 8, 3) := by decide +kernel
theorem dX7_fits_113 : decode cX7_fits 113 = .ok (.iload 4, 2) := by decide +kernel
theorem dX7_fits_115 : decode cX7_fits 115 = .ok (.goto 19, 3) := by decide +kernel
theorem dX7_fits_118 : decode cX7_fits 118 = .ok (.iload 5, 2) := by decide +kernel
theorem dX7_fits_120 : decode cX7_fits 120 = .ok (.ifCond .ge 12, 3) := by decide +kernel
theorem dX7_fits_123 : decode cX7_fits 123 = .ok (.aload_n 0, 1) := by decide +kernel
theorem dX7_fits_124 : decode cX7_fits 124 = .ok (.ldc 206, 2) := by decide +kernel
theorem dX7_fits_126 : decode cX7_fits 126 = .ok (.invokevirtual 78, 3) := by decide +kernel
theorem dX7_fits_129 : decode cX7_fits 129 = .ok (.goto 5, 3) := by decide +kernel
theorem dX7_fits_132 : decode cX7_fits 132 = .ok (.iload 5, 2) := by decide +kernel
theorem dX7_fits_134 : decode cX7_fits 134 = .ok (.ireturn, 1) := by decide +kernel
theorem dX7_begins_0 : decode cX7_begins 0 = .ok (.aload_n 0, 1) := by decide +kernel
theorem dX7_begins_1 : decode cX7_begins 1 = .ok (.getfield 213, 3) := by decide +kernel
theorem dX7_begins_4 : decode cX7_begins 4 = .ok (.bipush 30, 2) := by decide +kernel
theorem dX7_begins_6 : decode cX7_begins 6 = .ok (.if_icmp .ge 23, 3) := by decide +kernel
theorem dX7_begins_9 : decode cX7_begins 9 = .ok (.aload_n 0, 1) := by decide +kernel
theorem dX7_begins_10 : decode cX7_begins 10 = .ok (.getfield 44, 3) := by decide +kernel
theorem dX7_begins_13 : decode cX7_begins 13 = .ok (.aload_n 0, 1) := by decide +kernel
theorem dX7_begins_14 : decode cX7_begins 14 = .ok (.getfield 213, 3) := by decide +kernel
theorem dX7_begins_17 : decode cX7_begins 17 = .ok (.iload_n 1, 1) := by decide +kernel
theorem dX7_begins_18 : decode cX7_begins 18 = .ok (.iastore, 1) := by decide +kernel
theorem dX7_begins_19 : decode cX7_begins 19 = .ok (.aload_n 0, 1) := by decide +kernel
theorem dX7_begins_20 : decode cX7_begins 20 = .ok (.dup, 1) := by decide +kernel
theorem dX7_begins_21 : decode cX7_begins 21 = .ok (.getfield 213, 3) := by decide +kernel
theorem dX7_begins_24 : decode cX7_begins 24 = .ok (.iconst 1, 1) := by decide +kernel
theorem dX7_begins_25 : decode cX7_begins 25 = .ok (.iadd, 1) := by decide +kernel
theorem dX7_begins_26 : decode cX7_begins 26 = .ok (.putfield 213, 3) := by decide +kernel
theorem dX7_begins_29 : decode cX7_begins 29 = .ok (.return_, 1) := by decide +kernel
set_option maxRecDepth 20000 in
theorem ggX7_plainRings_X7_begins : GoodIn wsX7_plainRings wsX7_begins := goodIn_r _ [5, 6, 7, 8, 9, 10, 11, 12, 13, 14, 15, 16, 17, 18, 19, 20, 21, 22, 23, 24, 25, 26, 27, 28] (by decide +kernel) (by decide +kernel)
set_option maxRecDepth 20000 in
theorem gX7_plainRings_X7_begins : GoodIn wsX7_plainRings (wsV RX7 216 RX7 yX7_begins wsX7_begins) := goodIn_app (goodIn_of _ (by decide +kernel)) ggX7_plainRings_X7_begins
theorem dX7_plainRings_0 : decode cX7_plainRings 0 = .ok (.aload_n 0, 1) := by decide +kernel
theorem dX7_plainRings_1 : decode cX7_plainRings 1 = .ok (.bipush 10, 2) := by decide +kernel
theorem dX7_plainRings_3 : decode cX7_plainRings 3 = .ok (.invokevirtual 216, 3) := by decide +kernel
theorem dX7_plainRings_6 : decode cX7_plainRings 6 = .ok (.iload_n 2, 1) := by decide +kernel
theorem dX7_plainRings_7 : decode cX7_plainRings 7 = .ok (.iload_n 1, 1) := by decide +kernel
theorem dX7_plainRings_8 : decode cX7_plainRings 8 = .ok (.iadd, 1) := by decide +kernel
theorem dX7_plainRings_9 : decode cX7_plainRings 9 = .ok (.ireturn, 1) := by decide +kernel
set_option maxRecDepth 20000 in
theorem ggX7_cupRings_X7_begins : GoodIn wsX7_cupRings wsX7_begins := goodIn_r _ [5, 6, 7, 12, 13, 14, 15, 16, 17, 18, 19, 20, 21, 22, 23, 24, 25, 26, 27, 28, 29, 30, 31, 32] (by decide +kernel) (by decide +kernel)
set_option maxRecDepth 20000 in
theorem gX7_cupRings_X7_begins : GoodIn wsX7_cupRings (wsV RX7 216 RX7 yX7_begins wsX7_begins) := goodIn_app (goodIn_of _ (by decide +kernel)) ggX7_cupRings_X7_begins
set_option maxRecDepth 20000 in
theorem ggX7_cupRings_X7_plainRings : GoodIn wsX7_cupRings wsX7_plainRings := goodIn_r _ [11, 1, 2, 3, 4, 5, 6, 7, 12, 13, 14, 15, 16, 17, 18, 19, 20, 21, 22, 23, 24, 25, 26, 27, 28, 29, 30, 31, 32] (by decide +kernel) (by decide +kernel)
set_option maxRecDepth 20000 in
theorem gX7_cupRings_X7_plainRings : GoodIn wsX7_cupRings (wsV RX7 219 RX7 yX7_plainRings wsX7_plainRings) := goodIn_app (goodIn_of _ (by decide +kernel)) ggX7_cupRings_X7_plainRings
theorem dX7_cupRings_0 : decode cX7_cupRings 0 = .ok (.aload_n 0, 1) := by decide +kernel
theorem dX7_cupRings_1 : decode cX7_cupRings 1 = .ok (.bipush 20, 2) := by decide +kernel
theorem dX7_cupRings_3 : decode cX7_cupRings 3 = .ok (.invokevirtual 216, 3) := by decide +kernel
theorem dX7_cupRings_6 : decode cX7_cupRings 6 = .ok (.aload_n 0, 1) := by decide +kernel
theorem dX7_cupRings_7 : decode cX7_cupRings 7 = .ok (.iload_n 1, 1) := by decide +kernel
theorem dX7_cupRings_8 : decode cX7_cupRings 8 = .ok (.iload_n 2, 1) := by decide +kernel
theorem dX7_cupRings_9 : decode cX7_cupRings 9 = .ok (.invokevirtual 219, 3) := by decide +kernel
theorem dX7_cupRings_12 : decode cX7_cupRings 12 = .ok (.iconst 4, 1) := by decide +kernel
theorem dX7_cupRings_13 : decode cX7_cupRings 13 = .ok (.isub, 1) := by decide +kernel
theorem dX7_cupRings_14 : decode cX7_cupRings 14 = .ok (.ireturn, 1) := by decide +kernel
set_option maxRecDepth 20000 in
theorem ggX7_rings_X7_of : GoodIn wsX7_rings wsX7_of := goodIn_r _ [5, 6, 21, 22, 23, 24, 25, 26, 27, 28, 29, 30, 31, 32, 33, 34, 35, 36, 37, 38, 39, 40, 41] (by decide +kernel) (by decide +kernel)
set_option maxRecDepth 20000 in
theorem gX7_rings_X7_of : GoodIn wsX7_rings (wsV RX7 52 RX7 yX7_of wsX7_of) := goodIn_app (goodIn_of _ (by decide +kernel)) ggX7_rings_X7_of
set_option maxRecDepth 20000 in
theorem ggX7_rings_X7_cupRings : GoodIn wsX7_rings wsX7_cupRings := goodIn_r _ [10, 11, 12, 13, 4, 14, 15, 16, 17, 18, 19, 20, 21, 22, 23, 24, 25, 26, 27, 28, 29, 30, 31, 32, 33, 34, 35, 36, 37, 38, 39, 40, 41] (by decide +kernel) (by decide +kernel)
set_option maxRecDepth 20000 in
theorem gX7_rings_X7_cupRings : GoodIn wsX7_rings (wsV RX7 222 RX7 yX7_cupRings wsX7_cupRings) := goodIn_app (goodIn_of _ (by decide +kernel)) ggX7_rings_X7_cupRings
set_option maxRecDepth 20000 in
theorem ggX7_rings_X7_begins : GoodIn wsX7_rings wsX7_begins := goodIn_r _ [14, 15, 16, 21, 22, 23, 24, 25, 26, 27, 28, 29, 30, 31, 32, 33, 34, 35, 36, 37, 38, 39, 40, 41] (by decide +kernel) (by decide +kernel)
set_option maxRecDepth 20000 in
theorem gX7_rings_X7_begins : GoodIn wsX7_rings (wsV RX7 216 RX7 yX7_begins wsX7_begins) := goodIn_app (goodIn_of _ (by decide +kernel)) ggX7_rings_X7_begins
set_option maxRecDepth 20000 in
theorem ggX7_rings_X7_plainRings : GoodIn wsX7_rings wsX7_plainRings := goodIn_r _ [20, 11, 12, 13, 4, 14, 15, 16, 21, 22, 23, 24, 25, 26, 27, 28, 29, 30, 31, 32, 33, 34, 35, 36, 37, 38, 39, 40, 41] (by decide +kernel) (by decide +kernel)
set_option maxRecDepth 20000 in
theorem gX7_rings_X7_plainRings : GoodIn wsX7_rings (wsV RX7 219 RX7 yX7_plainRings wsX7_plainRings) := goodIn_app (goodIn_of _ (by decide +kernel)) ggX7_rings_X7_plainRings
theorem dX7_rings_0 : decode cX7_rings 0 = .ok (.aload_n 0, 1) := by decide +kernel
theorem dX7_rings_1 : decode cX7_rings 1 = .ok (.iload_n 1, 1) := by decide +kernel
theorem dX7_rings_2 : decode cX7_rings 2 = .ok (.iconst 0, 1) := by decide +kernel
theorem dX7_rings_3 : decode cX7_rings 3 = .ok (.invokevirtual 52, 3) := by decide +kernel
theorem dX7_rings_6 : decode cX7_rings 6 = .ok (.lookupswitch 65 #[(1, 34), (4, 41), (6, 56)], 34) := by decide +kernel
theorem dX7_rings_40 : decode cX7_rings 40 = .ok (.aload_n 0, 1) := by decide +kernel
theorem dX7_rings_41 : decode cX7_rings 41 = .ok (.iload_n 1, 1) := by decide +kernel
theorem dX7_rings_42 : decode cX7_rings 42 = .ok (.iload_n 2, 1) := by decide +kernel
theorem dX7_rings_43 : decode cX7_rings 43 = .ok (.invokevirtual 222, 3) := by decide +kernel
theorem dX7_rings_46 : decode cX7_rings 46 = .ok (.ireturn, 1) := by decide +kernel
theorem dX7_rings_47 : decode cX7_rings 47 = .ok (.aload_n 0, 1) := by decide +kernel
theorem dX7_rings_48 : decode cX7_rings 48 = .ok (.bipush 50, 2) := by decide +kernel
theorem dX7_rings_50 : decode cX7_rings 50 = .ok (.invokevirtual 216, 3) := by decide +kernel
theorem dX7_rings_53 : decode cX7_rings 53 = .ok (.aload_n 0, 1) := by decide +kernel
theorem dX7_rings_54 : decode cX7_rings 54 = .ok (.iload_n 1, 1) := by decide +kernel
theorem dX7_rings_55 : decode cX7_rings 55 = .ok (.iload_n 2, 1) := by decide +kernel
theorem dX7_rings_56 : decode cX7_rings 56 = .ok (.invokevirtual 222, 3) := by decide +kernel
theorem dX7_rings_59 : decode cX7_rings 59 = .ok (.iconst 3, 1) := by decide +kernel
theorem dX7_rings_60 : decode cX7_rings 60 = .ok (.imul, 1) := by decide +kernel
theorem dX7_rings_61 : decode cX7_rings 61 = .ok (.ireturn, 1) := by decide +kernel
theorem dX7_rings_62 : decode cX7_rings 62 = .ok (.aload_n 0, 1) := by decide +kernel
theorem dX7_rings_63 : decode cX7_rings 63 = .ok (.bipush 70, 2) := by decide +kernel
theorem dX7_rings_65 : decode cX7_rings 65 = .ok (.invokevirtual 216, 3) := by decide +kernel
theorem dX7_rings_68 : decode cX7_rings 68 = .ok (.bipush 9, 2) := by decide +kernel
theorem dX7_rings_70 : decode cX7_rings 70 = .ok (.ireturn, 1) := by decide +kernel
theorem dX7_rings_71 : decode cX7_rings 71 = .ok (.aload_n 0, 1) := by decide +kernel
theorem dX7_rings_72 : decode cX7_rings 72 = .ok (.iload_n 1, 1) := by decide +kernel
theorem dX7_rings_73 : decode cX7_rings 73 = .ok (.iload_n 2, 1) := by decide +kernel
theorem dX7_rings_74 : decode cX7_rings 74 = .ok (.invokevirtual 219, 3) := by decide +kernel
theorem dX7_rings_77 : decode cX7_rings 77 = .ok (.ireturn, 1) := by decide +kernel
set_option maxRecDepth 20000 in
theorem ggX7_plainSlips_X7_begins : GoodIn wsX7_plainSlips wsX7_begins := goodIn_r _ [5, 6, 7, 25, 26, 27, 28, 29, 30, 31, 32, 33, 34, 35, 36, 37, 38, 39, 40, 41, 42, 43, 44, 45] (by decide +kernel) (by decide +kernel)
set_option maxRecDepth 20000 in
theorem gX7_plainSlips_X7_begins : GoodIn wsX7_plainSlips (wsV RX7 216 RX7 yX7_begins wsX7_begins) := goodIn_app (goodIn_of _ (by decide +kernel)) ggX7_plainSlips_X7_begins
set_option maxRecDepth 20000 in
theorem ggX7_plainSlips_X7_rings : GoodIn wsX7_plainSlips wsX7_rings := goodIn_r _ [11, 12, 13, 14, 4, 15, 16, 17, 18, 19, 20, 1, 2, 3, 5, 6, 7, 21, 22, 23, 24, 25, 26, 27, 28, 29, 30, 31, 32, 33, 34, 35, 36, 37, 38, 39, 40, 41, 42, 43, 44, 45] (by decide +kernel) (by decide +kernel)
set_option maxRecDepth 20000 in
theorem gX7_plainSlips_X7_rings : GoodIn wsX7_plainSlips (wsV RX7 225 RX7 yX7_rings wsX7_rings) := goodIn_app (goodIn_of _ (by decide +kernel)) ggX7_plainSlips_X7_rings
theorem dX7_plainSlips_0 : decode cX7_plainSlips 0 = .ok (.aload_n 0, 1) := by decide +kernel
theorem dX7_plainSlips_1 : decode cX7_plainSlips 1 = .ok (.bipush 11, 2) := by decide +kernel
theorem dX7_plainSlips_3 : decode cX7_plainSlips 3 = .ok (.invokevirtual 216, 3) := by decide +kernel
theorem dX7_plainSlips_6 : decode cX7_plainSlips 6 = .ok (.aload_n 0, 1) := by decide +kernel
theorem dX7_plainSlips_7 : decode cX7_plainSlips 7 = .ok (.iload_n 1, 1) := by decide +kernel
theorem dX7_plainSlips_8 : decode cX7_plainSlips 8 = .ok (.iload_n 2, 1) := by decide +kernel
theorem dX7_plainSlips_9 : decode cX7_plainSlips 9 = .ok (.invokevirtual 225, 3) := by decide +kernel
theorem dX7_plainSlips_12 : decode cX7_plainSlips 12 = .ok (.iconst 2, 1) := by decide +kernel
theorem dX7_plainSlips_13 : decode cX7_plainSlips 13 = .ok (.imul, 1) := by decide +kernel
theorem dX7_plainSlips_14 : decode cX7_plainSlips 14 = .ok (.ireturn, 1) := by decide +kernel
set_option maxRecDepth 20000 in
theorem ggX7_boatSlips_X7_begins : GoodIn wsX7_boatSlips wsX7_begins := goodIn_r _ [5, 6, 7, 29, 30, 31, 32, 33, 34, 35, 36, 37, 38, 39, 40, 41, 42, 43, 44, 45, 46, 47, 48, 49] (by decide +kernel) (by decide +kernel)
set_option maxRecDepth 20000 in
theorem gX7_boatSlips_X7_begins : GoodIn wsX7_boatSlips (wsV RX7 216 RX7 yX7_begins wsX7_begins) := goodIn_app (goodIn_of _ (by decide +kernel)) ggX7_boatSlips_X7_begins
set_option maxRecDepth 20000 in
theorem ggX7_boatSlips_X7_plainSlips : GoodIn wsX7_boatSlips wsX7_plainSlips := goodIn_r _ [11, 1, 2, 3, 4, 5, 6, 7, 12, 13, 14, 15, 16, 17, 18, 19, 20, 21, 22, 23, 24, 25, 26, 27, 28, 29, 30, 31, 32, 33, 34, 35, 36, 37, 38, 39, 40, 41, 42, 43, 44, 45, 46, 47, 48, 49] (by decide +kernel) (by decide +kernel)
set_option maxRecDepth 20000 in
theorem gX7_boatSlips_X7_plainSlips : GoodIn wsX7_boatSlips (wsV RX7 228 RX7 yX7_plainSlips wsX7_plainSlips) := goodIn_app (goodIn_of _ (by decide +kernel)) ggX7_boatSlips_X7_plainSlips
theorem dX7_boatSlips_0 : decode cX7_boatSlips 0 = .ok (.aload_n 0, 1) := by decide +kernel
theorem dX7_boatSlips_1 : decode cX7_boatSlips 1 = .ok (.bipush 30, 2) := by decide +kernel
theorem dX7_boatSlips_3 : decode cX7_boatSlips 3 = .ok (.invokevirtual 216, 3) := by decide +kernel
theorem dX7_boatSlips_6 : decode cX7_boatSlips 6 = .ok (.aload_n 0, 1) := by decide +kernel
theorem dX7_boatSlips_7 : decode cX7_boatSlips 7 = .ok (.iload_n 1, 1) := by decide +kernel
theorem dX7_boatSlips_8 : decode cX7_boatSlips 8 = .ok (.iload_n 2, 1) := by decide +kernel
theorem dX7_boatSlips_9 : decode cX7_boatSlips 9 = .ok (.invokevirtual 228, 3) := by decide +kernel
theorem dX7_boatSlips_12 : decode cX7_boatSlips 12 = .ok (.ineg, 1) := by decide +kernel
theorem dX7_boatSlips_13 : decode cX7_boatSlips 13 = .ok (.ireturn, 1) := by decide +kernel
set_option maxRecDepth 20000 in
theorem ggX7_slips_X7_of : GoodIn wsX7_slips wsX7_of := goodIn_r _ [5, 6, 33, 34, 35, 36, 37, 38, 39, 40, 41, 42, 43, 44, 45, 46, 47, 48, 49, 50, 51, 52, 53] (by decide +kernel) (by decide +kernel)
set_option maxRecDepth 20000 in
theorem gX7_slips_X7_of : GoodIn wsX7_slips (wsV RX7 52 RX7 yX7_of wsX7_of) := goodIn_app (goodIn_of _ (by decide +kernel)) ggX7_slips_X7_of
set_option maxRecDepth 20000 in
theorem ggX7_slips_X7_boatSlips : GoodIn wsX7_slips wsX7_boatSlips := goodIn_r _ [10, 11, 12, 13, 4, 14, 15, 16, 17, 18, 19, 20, 21, 22, 23, 24, 1, 2, 3, 5, 6, 25, 26, 27, 28, 29, 30, 31, 32, 33, 34, 35, 36, 37, 38, 39, 40, 41, 42, 43, 44, 45, 46, 47, 48, 49, 50, 51, 52, 53] (by decide +kernel) (by decide +kernel)
set_option maxRecDepth 20000 in
theorem gX7_slips_X7_boatSlips : GoodIn wsX7_slips (wsV RX7 231 RX7 yX7_boatSlips wsX7_boatSlips) := goodIn_app (goodIn_of _ (by decide +kernel)) ggX7_slips_X7_boatSlips
set_option maxRecDepth 20000 in
theorem ggX7_slips_X7_begins : GoodIn wsX7_slips wsX7_begins := goodIn_r _ [14, 15, 16, 33, 34, 35, 36, 37, 38, 39, 40, 41, 42, 43, 44, 45, 46, 47, 48, 49, 50, 51, 52, 53] (by decide +kernel) (by decide +kernel)
set_option maxRecDepth 20000 in
theorem gX7_slips_X7_begins : GoodIn wsX7_slips (wsV RX7 216 RX7 yX7_begins wsX7_begins) := goodIn_app (goodIn_of _ (by decide +kernel)) ggX7_slips_X7_begins
set_option maxRecDepth 20000 in
theorem ggX7_slips_X7_plainSlips : GoodIn wsX7_slips wsX7_plainSlips := goodIn_r _ [20, 11, 12, 13, 4, 14, 15, 16, 21, 22, 23, 24, 1, 2, 3, 5, 6, 25, 26, 27, 28, 29, 30, 31, 32, 33, 34, 35, 36, 37, 38, 39, 40, 41, 42, 43, 44, 45, 46, 47, 48, 49, 50, 51, 52, 53] (by decide +kernel) (by decide +kernel)
set_option maxRecDepth 20000 in
theorem gX7_slips_X7_plainSlips : GoodIn wsX7_slips (wsV RX7 228 RX7 yX7_plainSlips wsX7_plainSlips) := goodIn_app (goodIn_of _ (by decide +kernel)) ggX7_slips_X7_plainSlips
theorem dX7_slips_0 : decode cX7_slips 0 = .ok (.aload_n 0, 1) := by decide +kernel
theorem dX7_slips_1 : decode cX7_slips 1 = .ok (.iload_n 1, 1) := by decide +kernel
theorem dX7_slips_2 : decode cX7_slips 2 = .ok (.iconst 0, 1) := by decide +kernel
theorem dX7_slips_3 : decode cX7_slips 3 = .ok (.invokevirtual 52, 3) := by decide +kernel
theorem dX7_slips_6 : decode cX7_slips 6 = .ok (.tableswitch 76 2 6 #[34, 76, 76, 41, 56], 34) := by decide +kernel
theorem dX7_slips_40 : decode cX7_slips 40 = .ok (.aload_n 0, 1) := by decide +kernel
theorem dX7_slips_41 : decode cX7_slips 41 = .ok (.iload_n 1, 1) := by decide +kernel
theorem dX7_slips_42 : decode cX7_slips 42 = .ok (.iload_n 2, 1) := by decide +kernel
theorem dX7_slips_43 : decode cX7_slips 43 = .ok (.invokevirtual 231, 3) := by decide +kernel
theorem dX7_slips_46 : decode cX7_slips 46 = .ok (.ireturn, 1) := by decide +kernel
theorem dX7_slips_47 : decode cX7_slips 47 = .ok (.aload_n 0, 1) := by decide +kernel
theorem dX7_slips_48 : decode cX7_slips 48 = .ok (.bipush 60, 2) := by decide +kernel
theorem dX7_slips_50 : decode cX7_slips 50 = .ok (.invokevirtual 216, 3) := by decide +kernel
theorem dX7_slips_53 : decode cX7_slips 53 = .ok (.aload_n 0, 1) := by decide +kernel
theorem dX7_slips_54 : decode cX7_slips 54 = .ok (.iload_n 1, 1) := by decide +kernel
theorem dX7_slips_55 : decode cX7_slips 55 = .ok (.iload_n 2, 1) := by decide +kernel
theorem dX7_slips_56 : decode cX7_slips 56 = .ok (.iconst 1, 1) := by decide +kernel
theorem dX7_slips_57 : decode cX7_slips 57 = .ok (.iadd, 1) := by decide +kernel
theorem dX7_slips_58 : decode cX7_slips 58 = .ok (.invokevirtual 231, 3) := by decide +kernel
theorem dX7_slips_61 : decode cX7_slips 61 = .ok (.ireturn, 1) := by decide +kernel
theorem dX7_slips_62 : decode cX7_slips 62 = .ok (.aload_n 0, 1) := by decide +kernel
theorem dX7_slips_63 : decode cX7_slips 63 = .ok (.bipush 71, 2) := by decide +kernel
theorem dX7_slips_65 : decode cX7_slips 65 = .ok (.invokevirtual 216, 3) := by decide +kernel
theorem dX7_slips_68 : decode cX7_slips 68 = .ok (.aload_n 0, 1) := by decide +kernel
theorem dX7_slips_69 : decode cX7_slips 69 = .ok (.iload_n 1, 1) := by decide +kernel
theorem dX7_slips_70 : decode cX7_slips 70 = .ok (.iload_n 2, 1) := by decide +kernel
theorem dX7_slips_71 : decode cX7_slips 71 = .ok (.invokevirtual 228, 3) := by decide +kernel
theorem dX7_slips_74 : decode cX7_slips 74 = .ok (.aload_n 0, 1) := by decide +kernel
theorem dX7_slips_75 : decode cX7_slips 75 = .ok (.iload_n 1, 1) := by decide +kernel
theorem dX7_slips_76 : decode cX7_slips 76 = .ok (.iconst 1, 1) := by decide +kernel
theorem dX7_slips_77 : decode cX7_slips 77 = .ok (.invokevirtual 52, 3) := by decide +kernel
theorem dX7_slips_80 : decode cX7_slips 80 = .ok (.iadd, 1) := by decide +kernel
theorem dX7_slips_81 : decode cX7_slips 81 = .ok (.ireturn, 1) := by decide +kernel
theorem dX7_slips_82 : decode cX7_slips 82 = .ok (.aload_n 0, 1) := by decide +kernel
theorem dX7_slips_83 : decode cX7_slips 83 = .ok (.iload_n 1, 1) := by decide +kernel
theorem dX7_slips_84 : decode cX7_slips 84 = .ok (.iload_n 2, 1) := by decide +kernel
theorem dX7_slips_85 : decode cX7_slips 85 = .ok (.invokevirtual 228, 3) := by decide +kernel
theorem dX7_slips_88 : decode cX7_slips 88 = .ok (.ireturn, 1) := by decide +kernel
set_option maxRecDepth 20000 in
theorem ggX7_plainCracks_X7_begins : GoodIn wsX7_plainCracks wsX7_begins := goodIn_r _ [5, 6, 7, 37, 38, 39, 40, 41, 42, 43, 44, 45, 46, 47, 48, 49, 50, 51, 52, 53, 54, 55, 56, 57] (by decide +kernel) (by decide +kernel)
set_option maxRecDepth 20000 in
theorem gX7_plainCracks_X7_begins : GoodIn wsX7_plainCracks (wsV RX7 216 RX7 yX7_begins wsX7_begins) := goodIn_app (goodIn_of _ (by decide +kernel)) ggX7_plainCracks_X7_begins
set_option maxRecDepth 20000 in
theorem ggX7_plainCracks_X7_slips : GoodIn wsX7_plainCracks wsX7_slips := goodIn_r _ [11, 12, 13, 14, 4, 15, 16, 17, 18, 19, 20, 1, 2, 3, 5, 6, 7, 21, 22, 23, 24, 25, 26, 27, 28, 29, 30, 31, 32, 33, 34, 35, 36, 37, 38, 39, 40, 41, 42, 43, 44, 45, 46, 47, 48, 49, 50, 51, 52, 53, 54, 55, 56, 57] (by decide +kernel) (by decide +kernel)
set_option maxRecDepth 20000 in
theorem gX7_plainCracks_X7_slips : GoodIn wsX7_plainCracks (wsV RX7 234 RX7 yX7_slips wsX7_slips) := goodIn_app (goodIn_of _ (by decide +kernel)) ggX7_plainCracks_X7_slips
set_option maxRecDepth 20000 in
theorem ggX7_plainCracks_X7_of : GoodIn wsX7_plainCracks wsX7_of := goodIn_r _ [15, 16, 37, 38, 39, 40, 41, 42, 43, 44, 45, 46, 47, 48, 49, 50, 51, 52, 53, 54, 55, 56, 57] (by decide +kernel) (by decide +kernel)
set_option maxRecDepth 20000 in
theorem gX7_plainCracks_X7_of : GoodIn wsX7_plainCracks (wsV RX7 52 RX7 yX7_of wsX7_of) := goodIn_app (goodIn_of _ (by decide +kernel)) ggX7_plainCracks_X7_of
theorem dX7_plainCracks_0 : decode cX7_plainCracks 0 = .ok (.aload_n 0, 1) := by decide +kernel
theorem dX7_plainCracks_1 : decode cX7_plainCracks 1 = .ok (.bipush 12, 2) := by decide +kernel
theorem dX7_plainCracks_3 : decode cX7_plainCracks 3 = .ok (.invokevirtual 216, 3) := by decide +kernel
theorem dX7_plainCracks_6 : decode cX7_plainCracks 6 = .ok (.aload_n 0, 1) := by decide +kernel
theorem dX7_plainCracks_7 : decode cX7_plainCracks 7 = .ok (.iload_n 1, 1) := by decide +kernel
theorem dX7_plainCracks_8 : decode cX7_plainCracks 8 = .ok (.iload_n 2, 1) := by decide +kernel
theorem dX7_plainCracks_9 : decode cX7_plainCracks 9 = .ok (.invokevirtual 234, 3) := by decide +kernel
theorem dX7_plainCracks_12 : decode cX7_plainCracks 12 = .ok (.aload_n 0, 1) := by decide +kernel
theorem dX7_plainCracks_13 : decode cX7_plainCracks 13 = .ok (.iload_n 1, 1) := by decide +kernel
theorem dX7_plainCracks_14 : decode cX7_plainCracks 14 = .ok (.iconst 1, 1) := by decide +kernel
theorem dX7_plainCracks_15 : decode cX7_plainCracks 15 = .ok (.invokevirtual 52, 3) := by decide +kernel
theorem dX7_plainCracks_18 : decode cX7_plainCracks 18 = .ok (.isub, 1) := by decide +kernel
theorem dX7_plainCracks_19 : decode cX7_plainCracks 19 = .ok (.ireturn, 1) := by decide +kernel
set_option maxRecDepth 20000 in
theorem ggX7_cracks_X7_of : GoodIn wsX7_cracks wsX7_of := goodIn_r _ [5, 6, 41, 42, 43, 44, 45, 46, 47, 48, 49, 50, 51, 52, 53, 54, 55, 56, 57, 58, 59, 60, 61] (by decide +kernel) (by decide +kernel)
set_option maxRecDepth 20000 in
theorem gX7_cracks_X7_of : GoodIn wsX7_cracks (wsV RX7 52 RX7 yX7_of wsX7_of) := goodIn_app (goodIn_of _ (by decide +kernel)) ggX7_cracks_X7_of
set_option maxRecDepth 20000 in
theorem ggX7_cracks_X7_begins : GoodIn wsX7_cracks wsX7_begins := goodIn_r _ [10, 11, 12, 41, 42, 43, 44, 45, 46, 47, 48, 49, 50, 51, 52, 53, 54, 55, 56, 57, 58, 59, 60, 61] (by decide +kernel) (by decide +kernel)
set_option maxRecDepth 20000 in
theorem gX7_cracks_X7_begins : GoodIn wsX7_cracks (wsV RX7 216 RX7 yX7_begins wsX7_begins) := goodIn_app (goodIn_of _ (by decide +kernel)) ggX7_cracks_X7_begins
set_option maxRecDepth 20000 in
theorem ggX7_cracks_X7_plainCracks : GoodIn wsX7_cracks wsX7_plainCracks := goodIn_r _ [16, 7, 8, 9, 4, 10, 11, 12, 17, 18, 19, 20, 1, 2, 3, 5, 6, 21, 22, 23, 24, 25, 26, 27, 28, 29, 30, 31, 32, 33, 34, 35, 36, 37, 38, 39, 40, 41, 42, 43, 44, 45, 46, 47, 48, 49, 50, 51, 52, 53, 54, 55, 56, 57, 58, 59, 60, 61] (by decide +kernel) (by decide +kernel)
set_option maxRecDepth 20000 in
theorem gX7_cracks_X7_plainCracks : GoodIn wsX7_cracks (wsV RX7 237 RX7 yX7_plainCracks wsX7_plainCracks) := goodIn_app (goodIn_of _ (by decide +kernel)) ggX7_cracks_X7_plainCracks
theorem dX7_cracks_0 : decode cX7_cracks 0 = .ok (.aload_n 0, 1) := by decide +kernel
theorem dX7_cracks_1 : decode cX7_cracks 1 = .ok (.iload_n 1, 1) := by decide +kernel
theorem dX7_cracks_2 : decode cX7_cracks 2 = .ok (.iconst 0, 1) := by decide +kernel
theorem dX7_cracks_3 : decode cX7_cracks 3 = .ok (.invokevirtual 52, 3) := by decide +kernel
theorem dX7_cracks_6 : decode cX7_cracks 6 = .ok (.lookupswitch 56 #[(3, 26), (4, 41)], 26) := by decide +kernel
theorem dX7_cracks_32 : decode cX7_cracks 32 = .ok (.aload_n 0, 1) := by decide +kernel
theorem dX7_cracks_33 : decode cX7_cracks 33 = .ok (.bipush 40, 2) := by decide +kernel
theorem dX7_cracks_35 : decode cX7_cracks 35 = .ok (.invokevirtual 216, 3) := by decide +kernel
theorem dX7_cracks_38 : decode cX7_cracks 38 = .ok (.aload_n 0, 1) := by decide +kernel
theorem dX7_cracks_39 : decode cX7_cracks 39 = .ok (.iload_n 1, 1) := by decide +kernel
theorem dX7_cracks_40 : decode cX7_cracks 40 = .ok (.iload_n 2, 1) := by decide +kernel
theorem dX7_cracks_41 : decode cX7_cracks 41 = .ok (.iconst 2, 1) := by decide +kernel
theorem dX7_cracks_42 : decode cX7_cracks 42 = .ok (.idiv, 1) := by decide +kernel
theorem dX7_cracks_43 : decode cX7_cracks 43 = .ok (.invokevirtual 237, 3) := by decide +kernel
theorem dX7_cracks_46 : decode cX7_cracks 46 = .ok (.ireturn, 1) := by decide +kernel
theorem dX7_cracks_47 : decode cX7_cracks 47 = .ok (.aload_n 0, 1) := by decide +kernel
theorem dX7_cracks_48 : decode cX7_cracks 48 = .ok (.bipush 51, 2) := by decide +kernel
theorem dX7_cracks_50 : decode cX7_cracks 50 = .ok (.invokevirtual 216, 3) := by decide +kernel
theorem dX7_cracks_53 : decode cX7_cracks 53 = .ok (.aload_n 0, 1) := by decide +kernel
theorem dX7_cracks_54 : decode cX7_cracks 54 = .ok (.iload_n 1, 1) := by decide +kernel
theorem dX7_cracks_55 : decode cX7_cracks 55 = .ok (.iload_n 2, 1) := by decide +kernel
theorem dX7_cracks_56 : decode cX7_cracks 56 = .ok (.invokevirtual 237, 3) := by decide +kernel
theorem dX7_cracks_59 : decode cX7_cracks 59 = .ok (.iload_n 1, 1) := by decide +kernel
theorem dX7_cracks_60 : decode cX7_cracks 60 = .ok (.ixor, 1) := by decide +kernel
theorem dX7_cracks_61 : decode cX7_cracks 61 = .ok (.ireturn, 1) := by decide +kernel
theorem dX7_cracks_62 : decode cX7_cracks 62 = .ok (.aload_n 0, 1) := by decide +kernel
theorem dX7_cracks_63 : decode cX7_cracks 63 = .ok (.iload_n 1, 1) := by decide +kernel
theorem dX7_cracks_64 : decode cX7_cracks 64 = .ok (.iload_n 2, 1) := by decide +kernel
theorem dX7_cracks_65 : decode cX7_cracks 65 = .ok (.invokevirtual 237, 3) := by decide +kernel
theorem dX7_cracks_68 : decode cX7_cracks 68 = .ok (.ireturn, 1) := by decide +kernel
set_option maxRecDepth 20000 in
theorem ggX7_plainParts_X7_begins : GoodIn wsX7_plainParts wsX7_begins := goodIn_r _ [6, 7, 8, 14, 15, 16, 17, 18, 19, 20, 21, 22, 23, 24, 25, 26, 27, 28, 29, 30, 31, 32, 33, 34] (by decide +kernel) (by decide +kernel)
set_option maxRecDepth 20000 in
theorem gX7_plainParts_X7_begins : GoodIn wsX7_plainParts (wsV RX7 216 RX7 yX7_begins wsX7_begins) := goodIn_app (goodIn_of _ (by decide +kernel)) ggX7_plainParts_X7_begins
set_option maxRecDepth 20000 in
theorem ggX7_plainParts_X7_of : GoodIn wsX7_plainParts wsX7_of := goodIn_r _ [12, 13, 14, 15, 16, 17, 18, 19, 20, 21, 22, 23, 24, 25, 26, 27, 28, 29, 30, 31, 32, 33, 34] (by decide +kernel) (by decide +kernel)
set_option maxRecDepth 20000 in
theorem gX7_plainParts_X7_of : GoodIn wsX7_plainParts (wsV RX7 52 RX7 yX7_of wsX7_of) := goodIn_app (goodIn_of _ (by decide +kernel)) ggX7_plainParts_X7_of
theorem dX7_plainParts_0 : decode cX7_plainParts 0 = .ok (.aload_n 0, 1) := by decide +kernel
theorem dX7_plainParts_1 : decode cX7_plainParts 1 = .ok (.bipush 13, 2) := by decide +kernel
theorem dX7_plainParts_3 : decode cX7_plainParts 3 = .ok (.invokevirtual 216, 3) := by decide +kernel
theorem dX7_plainParts_6 : decode cX7_plainParts 6 = .ok (.aload_n 0, 1) := by decide +kernel
theorem dX7_plainParts_7 : decode cX7_plainParts 7 = .ok (.iload_n 1, 1) := by decide +kernel
theorem dX7_plainParts_8 : decode cX7_plainParts 8 = .ok (.iconst 1, 1) := by decide +kernel
theorem dX7_plainParts_9 : decode cX7_plainParts 9 = .ok (.invokevirtual 52, 3) := by decide +kernel
theorem dX7_plainParts_12 : decode cX7_plainParts 12 = .ok (.iload_n 1, 1) := by decide +kernel
theorem dX7_plainParts_13 : decode cX7_plainParts 13 = .ok (.isub, 1) := by decide +kernel
theorem dX7_plainParts_14 : decode cX7_plainParts 14 = .ok (.istore_n 3, 1) := by decide +kernel
theorem dX7_plainParts_15 : decode cX7_plainParts 15 = .ok (.aload_n 0, 1) := by decide +kernel
theorem dX7_plainParts_16 : decode cX7_plainParts 16 = .ok (.iload_n 3, 1) := by decide +kernel
theorem dX7_plainParts_17 : decode cX7_plainParts 17 = .ok (.ifCond .ne 7, 3) := by decide +kernel
theorem dX7_plainParts_20 : decode cX7_plainParts 20 = .ok (.iconst 1, 1) := by decide +kernel
theorem dX7_plainParts_21 : decode cX7_plainParts 21 = .ok (.goto 4, 3) := by decide +kernel
theorem dX7_plainParts_24 : decode cX7_plainParts 24 = .ok (.iconst 0, 1) := by decide +kernel
theorem dX7_plainParts_25 : decode cX7_plainParts 25 = .ok (.putfield 240, 3) := by decide +kernel
theorem dX7_plainParts_28 : decode cX7_plainParts 28 = .ok (.aload_n 0, 1) := by decide +kernel
theorem dX7_plainParts_29 : decode cX7_plainParts 29 = .ok (.getfield 240, 3) := by decide +kernel
theorem dX7_plainParts_32 : decode cX7_plainParts 32 = .ok (.ifCond .eq 7, 3) := by decide +kernel
theorem dX7_plainParts_35 : decode cX7_plainParts 35 = .ok (.iconst 0, 1) := by decide +kernel
theorem dX7_plainParts_36 : decode cX7_plainParts 36 = .ok (.goto 6, 3) := by decide +kernel
theorem dX7_plainParts_39 : decode cX7_plainParts 39 = .ok (.iload_n 2, 1) := by decide +kernel
theorem dX7_plainParts_40 : decode cX7_plainParts 40 = .ok (.iload_n 3, 1) := by decide +kernel
theorem dX7_plainParts_41 : decode cX7_plainParts 41 = .ok (.idiv, 1) := by decide +kernel
theorem dX7_plainParts_42 : decode cX7_plainParts 42 = .ok (.ireturn, 1) := by decide +kernel
set_option maxRecDepth 20000 in
theorem ggX7_partsBy_X7_of : GoodIn wsX7_partsBy wsX7_of := goodIn_r _ [6, 7, 42, 43, 44, 45, 46, 47, 48, 49, 50, 51, 52, 53, 54, 55, 56, 57, 58, 59, 60, 61, 62] (by decide +kernel) (by decide +kernel)
set_option maxRecDepth 20000 in
theorem gX7_partsBy_X7_of : GoodIn wsX7_partsBy (wsV RX7 52 RX7 yX7_of wsX7_of) := goodIn_app (goodIn_of _ (by decide +kernel)) ggX7_partsBy_X7_of
set_option maxRecDepth 20000 in
theorem ggX7_partsBy_X7_begins : GoodIn wsX7_partsBy wsX7_begins := goodIn_r _ [11, 12, 13, 42, 43, 44, 45, 46, 47, 48, 49, 50, 51, 52, 53, 54, 55, 56, 57, 58, 59, 60, 61, 62] (by decide +kernel) (by decide +kernel)
set_option maxRecDepth 20000 in
theorem gX7_partsBy_X7_begins : GoodIn wsX7_partsBy (wsV RX7 216 RX7 yX7_begins wsX7_begins) := goodIn_app (goodIn_of _ (by decide +kernel)) ggX7_partsBy_X7_begins
set_option maxRecDepth 20000 in
theorem ggX7_partsBy_X7_plainParts : GoodIn wsX7_partsBy wsX7_plainParts := goodIn_r _ [17, 1, 8, 9, 10, 5, 11, 12, 13, 2, 3, 4, 6, 7, 42, 43, 44, 45, 46, 47, 48, 49, 50, 51, 52, 53, 54, 55, 56, 57, 58, 59, 60, 61, 62] (by decide +kernel) (by decide +kernel)
set_option maxRecDepth 20000 in
theorem gX7_partsBy_X7_plainParts : GoodIn wsX7_partsBy (wsV RX7 243 RX7 yX7_plainParts wsX7_plainParts) := goodIn_app (goodIn_of _ (by decide +kernel)) ggX7_partsBy_X7_plainParts
set_option maxRecDepth 20000 in
theorem ggX7_partsBy_X7_slips : GoodIn wsX7_partsBy wsX7_slips := goodIn_r _ [21, 2, 3, 4, 5, 6, 7, 22, 23, 24, 25, 8, 9, 10, 11, 12, 13, 26, 27, 28, 29, 30, 31, 32, 33, 34, 35, 36, 37, 38, 39, 40, 41, 42, 43, 44, 45, 46, 47, 48, 49, 50, 51, 52, 53, 54, 55, 56, 57, 58, 59, 60, 61, 62] (by decide +kernel) (by decide +kernel)
set_option maxRecDepth 20000 in
theorem gX7_partsBy_X7_slips : GoodIn wsX7_partsBy (wsV RX7 234 RX7 yX7_slips wsX7_slips) := goodIn_app (goodIn_of _ (by decide +kernel)) ggX7_partsBy_X7_slips
theorem dX7_partsBy_0 : decode cX7_partsBy 0 = .ok (.aload_n 0, 1) := by decide +kernel
theorem dX7_partsBy_1 : decode cX7_partsBy 1 = .ok (.iload_n 1, 1) := by decide +kernel
theorem dX7_partsBy_2 : decode cX7_partsBy 2 = .ok (.iconst 0, 1) := by decide +kernel
theorem dX7_partsBy_3 : decode cX7_partsBy 3 = .ok (.invokevirtual 52, 3) := by decide +kernel
theorem dX7_partsBy_6 : decode cX7_partsBy 6 = .ok (.iconst 1, 1) := by decide +kernel
theorem dX7_partsBy_7 : decode cX7_partsBy 7 = .ok (.if_icmp .eq 13, 3) := by decide +kernel
theorem dX7_partsBy_10 : decode cX7_partsBy 10 = .ok (.aload_n 0, 1) := by decide +kernel
theorem dX7_partsBy_11 : decode cX7_partsBy 11 = .ok (.iload_n 1, 1) := by decide +kernel
theorem dX7_partsBy_12 : decode cX7_partsBy 12 = .ok (.iconst 0, 1) := by decide +kernel
theorem dX7_partsBy_13 : decode cX7_partsBy 13 = .ok (.invokevirtual 52, 3) := by decide +kernel
theorem dX7_partsBy_16 : decode cX7_partsBy 16 = .ok (.iconst 4, 1) := by decide +kernel
theorem dX7_partsBy_17 : decode cX7_partsBy 17 = .ok (.if_icmp .ne 36, 3) := by decide +kernel
theorem dX7_partsBy_20 : decode cX7_partsBy 20 = .ok (.aload_n 0, 1) := by decide +kernel
theorem dX7_partsBy_21 : decode cX7_partsBy 21 = .ok (.bipush 21, 2) := by decide +kernel
theorem dX7_partsBy_23 : decode cX7_partsBy 23 = .ok (.invokevirtual 216, 3) := by decide +kernel
theorem dX7_partsBy_26 : decode cX7_partsBy 26 = .ok (.aload_n 0, 1) := by decide +kernel
theorem dX7_partsBy_27 : decode cX7_partsBy 27 = .ok (.iload_n 1, 1) := by decide +kernel
theorem dX7_partsBy_28 : decode cX7_partsBy 28 = .ok (.iload_n 2, 1) := by decide +kernel
theorem dX7_partsBy_29 : decode cX7_partsBy 29 = .ok (.invokevirtual 243, 3) := by decide +kernel
theorem dX7_partsBy_32 : decode cX7_partsBy 32 = .ok (.istore_n 3, 1) := by decide +kernel
theorem dX7_partsBy_33 : decode cX7_partsBy 33 = .ok (.aload_n 0, 1) := by decide +kernel
theorem dX7_partsBy_34 : decode cX7_partsBy 34 = .ok (.getfield 240, 3) := by decide +kernel
theorem dX7_partsBy_37 : decode cX7_partsBy 37 = .ok (.ifCond .eq 7, 3) := by decide +kernel
theorem dX7_partsBy_40 : decode cX7_partsBy 40 = .ok (.iconst 0, 1) := by decide +kernel
theorem dX7_partsBy_41 : decode cX7_partsBy 41 = .ok (.goto 11, 3) := by decide +kernel
theorem dX7_partsBy_44 : decode cX7_partsBy 44 = .ok (.iload_n 3, 1) := by decide +kernel
theorem dX7_partsBy_45 : decode cX7_partsBy 45 = .ok (.aload_n 0, 1) := by decide +kernel
theorem dX7_partsBy_46 : decode cX7_partsBy 46 = .ok (.iload_n 1, 1) := by decide +kernel
theorem dX7_partsBy_47 : decode cX7_partsBy 47 = .ok (.iconst 1, 1) := by decide +kernel
theorem dX7_partsBy_48 : decode cX7_partsBy 48 = .ok (.invokevirtual 234, 3) := by decide +kernel
theorem dX7_partsBy_51 : decode cX7_partsBy 51 = .ok (.iadd, 1) := by decide +kernel
theorem dX7_partsBy_52 : decode cX7_partsBy 52 = .ok (.ireturn, 1) := by decide +kernel
theorem dX7_partsBy_53 : decode cX7_partsBy 53 = .ok (.aload_n 0, 1) := by decide +kernel
theorem dX7_partsBy_54 : decode cX7_partsBy 54 = .ok (.iload_n 1, 1) := by decide +kernel
theorem dX7_partsBy_55 : decode cX7_partsBy 55 = .ok (.iload_n 2, 1) := by decide +kernel
theorem dX7_partsBy_56 : decode cX7_partsBy 56 = .ok (.invokevirtual 243, 3) := by decide +kernel
theorem dX7_partsBy_59 : decode cX7_partsBy 59 = .ok (.ireturn, 1) := by decide +kernel
set_option maxRecDepth 20000 in
theorem ggX7_voice_X7_isPiece : GoodIn wsX7_voice wsX7_isPiece := goodIn_r _ [9, 10, 11, 12, 8, 13, 69, 70, 71, 72, 73, 74, 75, 76, 77, 78, 79, 80, 81, 82, 83, 84, 85, 86, 87, 88, 89] (by decide +kernel) (by decide +kernel)
set_option maxRecDepth 20000 in
theorem gX7_voice_X7_isPiece : GoodIn wsX7_voice (wsV RX7 100 RX7 yX7_isPiece wsX7_isPiece) := goodIn_app (goodIn_of _ (by decide +kernel)) ggX7_voice_X7_isPiece
set_option maxRecDepth 20000 in
theorem ggX7_voice_X7_in : GoodIn wsX7_voice wsX7_in := goodIn_r _ [13] (by decide +kernel) (by decide +kernel)
set_option maxRecDepth 20000 in
theorem gX7_voice_X7_in : GoodIn wsX7_voice (va_wsS RX7 48 yX7_in wsX7_in) := goodIn_app (goodIn_of _ (by decide +kernel)) ggX7_voice_X7_in
set_option maxRecDepth 20000 in
theorem ggX7_voice_X7_error : GoodIn wsX7_voice wsX7_error := goodIn_r _ [17, 18, 19, 69, 70, 71, 72, 73, 74, 75, 76, 77, 78, 79, 80, 81, 82, 83, 84, 85, 86, 87, 88, 89] (by decide +kernel) (by decide +kernel)
set_option maxRecDepth 20000 in
theorem gX7_voice_X7_error : GoodIn wsX7_voice (wsV RX7 78 RX7 yX7_error wsX7_error) := goodIn_app (goodIn_of _ (by decide +kernel)) ggX7_voice_X7_error
set_option maxRecDepth 20000 in
theorem ggX7_voice_X7_rings : GoodIn wsX7_voice wsX7_rings := goodIn_r _ [23, 24, 25, 26, 8, 27, 10, 28, 29, 30, 31, 32, 33, 34, 35, 2, 36, 37, 38, 39, 40, 69, 70, 71, 72, 73, 74, 75, 76, 77, 78, 79, 80, 81, 82, 83, 84, 85, 86, 87, 88, 89] (by decide +kernel) (by decide +kernel)
set_option maxRecDepth 20000 in
theorem gX7_voice_X7_rings : GoodIn wsX7_voice (wsV RX7 225 RX7 yX7_rings wsX7_rings) := goodIn_app (goodIn_of _ (by decide +kernel)) ggX7_voice_X7_rings
set_option maxRecDepth 20000 in
theorem ggX7_voice_X7_slips : GoodIn wsX7_voice wsX7_slips := goodIn_r _ [44, 24, 25, 26, 8, 27, 10, 45, 46, 47, 48, 32, 33, 34, 35, 2, 36, 49, 50, 51, 52, 20, 21, 22, 23, 28, 29, 30, 31, 37, 38, 39, 40, 69, 70, 71, 72, 73, 74, 75, 76, 77, 78, 79, 80, 81, 82, 83, 84, 85, 86, 87, 88, 89] (by decide +kernel) (by decide +kernel)
set_option maxRecDepth 20000 in
theorem gX7_voice_X7_slips : GoodIn wsX7_voice (wsV RX7 234 RX7 yX7_slips wsX7_slips) := goodIn_app (goodIn_of _ (by decide +kernel)) ggX7_voice_X7_slips
set_option maxRecDepth 20000 in
theorem ggX7_voice_X7_cracks : GoodIn wsX7_voice wsX7_cracks := goodIn_r _ [56, 24, 25, 26, 8, 27, 10, 32, 33, 34, 35, 2, 36, 57, 58, 59, 60, 41, 42, 43, 44, 45, 46, 47, 48, 49, 50, 51, 52, 20, 21, 22, 23, 28, 29, 30, 31, 37, 38, 39, 40, 69, 70, 71, 72, 73, 74, 75, 76, 77, 78, 79, 80, 81, 82, 83, 84, 85, 86, 87, 88, 89] (by decide +kernel) (by decide +kernel)
set_option maxRecDepth 20000 in
theorem gX7_voice_X7_cracks : GoodIn wsX7_voice (wsV RX7 246 RX7 yX7_cracks wsX7_cracks) := goodIn_app (goodIn_of _ (by decide +kernel)) ggX7_voice_X7_cracks
set_option maxRecDepth 20000 in
theorem ggX7_voice_X7_partsBy : GoodIn wsX7_voice wsX7_partsBy := goodIn_r _ [64, 3, 24, 25, 26, 8, 27, 10, 32, 33, 34, 35, 2, 36, 65, 66, 67, 68, 41, 42, 43, 44, 45, 46, 47, 48, 49, 50, 51, 52, 20, 21, 22, 23, 28, 29, 30, 31, 37, 38, 39, 40, 69, 70, 71, 72, 73, 74, 75, 76, 77, 78, 79, 80, 81, 82, 83, 84, 85, 86, 87, 88, 89] (by decide +kernel) (by decide +kernel)
set_option maxRecDepth 20000 in
theorem gX7_voice_X7_partsBy : GoodIn wsX7_voice (wsV RX7 249 RX7 yX7_partsBy wsX7_partsBy) := goodIn_app (goodIn_of _ (by decide +kernel)) ggX7_voice_X7_partsBy
theorem dX7_voice_0 : decode cX7_voice 0 = .ok (.aload_n 0, 1) := by decide +kernel
theorem dX7_voice_1 : decode cX7_voice 1 = .ok (.iload_n 1, 1) := by decide +kernel
theorem dX7_voice_2 : decode cX7_voice 2 = .ok (.invokevirtual 100, 3) := by decide +kernel
theorem dX7_voice_5 : decode cX7_voice 5 = .ok (.ifCond .eq 12, 3) := by decide +kernel
theorem dX7_voice_8 : decode cX7_voice 8 = .ok (.iload_n 2, 1) := by decide +kernel
theorem dX7_voice_9 : decode cX7_voice 9 = .ok (.iconst 0, 1) := by decide +kernel
theorem dX7_voice_10 : decode cX7_voice 10 = .ok (.iconst 3, 1) := by decide +kernel
theorem dX7_voice_11 : decode cX7_voice 11 = .ok (.invokestatic 48, 3) := by decide +kernel
theorem dX7_voice_14 : decode cX7_voice 14 = .ok (.ifCond .ne 10, 3) := by decide +kernel
theorem dX7_voice_17 : decode cX7_voice 17 = .ok (.aload_n 0, 1) := by decide +kernel
theorem dX7_voice_18 : decode cX7_voice 18 = .ok (.ldc 77, 2) := by decide +kernel
theorem dX7_voice_20 : decode cX7_voice 20 = .ok (.invokevirtual 78, 3) := by decide +kernel
theorem dX7_voice_23 : decode cX7_voice 23 = .ok (.ireturn, 1) := by decide +kernel
theorem dX7_voice_24 : decode cX7_voice 24 = .ok (.aload_n 0, 1) := by decide +kernel
theorem dX7_voice_25 : decode cX7_voice 25 = .ok (.iconst 0, 1) := by decide +kernel
theorem dX7_voice_26 : decode cX7_voice 26 = .ok (.putfield 213, 3) := by decide +kernel
theorem dX7_voice_29 : decode cX7_voice 29 = .ok (.aload_n 0, 1) := by decide +kernel
theorem dX7_voice_30 : decode cX7_voice 30 = .ok (.iconst 0, 1) := by decide +kernel
theorem dX7_voice_31 : decode cX7_voice 31 = .ok (.putfield 240, 3) := by decide +kernel
theorem dX7_voice_34 : decode cX7_voice 34 = .ok (.iload_n 2, 1) := by decide +kernel
theorem dX7_voice_35 : decode cX7_voice 35 = .ok (.ifCond .ne 12, 3) := by decide +kernel
theorem dX7_voice_38 : decode cX7_voice 38 = .ok (.aload_n 0, 1) := by decide +kernel
theorem dX7_voice_39 : decode cX7_voice 39 = .ok (.iload_n 1, 1) := by decide +kernel
theorem dX7_voice_40 : decode cX7_voice 40 = .ok (.iload_n 3, 1) := by decide +kernel
theorem dX7_voice_41 : decode cX7_voice 41 = .ok (.invokevirtual 225, 3) := by decide +kernel
theorem dX7_voice_44 : decode cX7_voice 44 = .ok (.goto 37, 3) := by decide +kernel
theorem dX7_voice_47 : decode cX7_voice 47 = .ok (.iload_n 2, 1) := by decide +kernel
theorem dX7_voice_48 : decode cX7_voice 48 = .ok (.iconst 1, 1) := by decide +kernel
theorem dX7_voice_49 : decode cX7_voice 49 = .ok (.if_icmp .ne 12, 3) := by decide +kernel
theorem dX7_voice_52 : decode cX7_voice 52 = .ok (.aload_n 0, 1) := by decide +kernel
theorem dX7_voice_53 : decode cX7_voice 53 = .ok (.iload_n 1, 1) := by decide +kernel
theorem dX7_voice_54 : decode cX7_voice 54 = .ok (.iload_n 3, 1) := by decide +kernel
theorem dX7_voice_55 : decode cX7_voice 55 = .ok (.invokevirtual 234, 3) := by decide +kernel
theorem dX7_voice_58 : decode cX7_voice 58 = .ok (.goto 23, 3) := by decide +kernel
theorem dX7_voice_61 : decode cX7_voice 61 = .ok (.iload_n 2, 1) := by decide +kernel
theorem dX7_voice_62 : decode cX7_voice 62 = .ok (.iconst 2, 1) := by decide +kernel
theorem dX7_voice_63 : decode cX7_voice 63 = .ok (.if_icmp .ne 12, 3) := by decide +kernel
theorem dX7_voice_66 : decode cX7_voice 66 = .ok (.aload_n 0, 1) := by decide +kernel
theorem dX7_voice_67 : decode cX7_voice 67 = .ok (.iload_n 1, 1) := by decide +kernel
theorem dX7_voice_68 : decode cX7_voice 68 = .ok (.iload_n 3, 1) := by decide +kernel
theorem dX7_voice_69 : decode cX7_voice 69 = .ok (.invokevirtual 246, 3) := by decide +kernel
theorem dX7_voice_72 : decode cX7_voice 72 = .ok (.goto 9, 3) := by decide +kernel
theorem dX7_voice_75 : decode cX7_voice 75 = .ok (.aload_n 0, 1) := by decide +kernel
theorem dX7_voice_76 : decode cX7_voice 76 = .ok (.iload_n 1, 1) := by decide +kernel
theorem dX7_voice_77 : decode cX7_voice 77 = .ok (.iload_n 3, 1) := by decide +kernel
theorem dX7_voice_78 : decode cX7_voice 78 = .ok (.invokevirtual 249, 3) := by decide +kernel
theorem dX7_voice_81 : decode cX7_voice 81 = .ok (.istore 4, 2) := by decide +kernel
theorem dX7_voice_83 : decode cX7_voice 83 = .ok (.aload_n 0, 1) := by decide +kernel
theorem dX7_voice_84 : decode cX7_voice 84 = .ok (.getfield 240, 3) := by decide +kernel
theorem dX7_voice_87 : decode cX7_voice 87 = .ok (.ifCond .eq 12, 3) := by decide +kernel
theorem dX7_voice_90 : decode cX7_voice 90 = .ok (.aload_n 0, 1) := by decide +kernel
theorem dX7_voice_91 : decode cX7_voice 91 = .ok (.ldc 252, 2) := by decide +kernel
theorem dX7_voice_93 : decode cX7_voice 93 = .ok (.invokevirtual 78, 3) := by decide +kernel
theorem dX7_voice_96 : decode cX7_voice 96 = .ok (.goto 5, 3) := by decide +kernel
theorem dX7_voice_99 : decode cX7_voice 99 = .ok (.iload 4, 2) := by decide +kernel
theorem dX7_voice_101 : decode cX7_voice 101 = .ok (.ireturn, 1) := by decide +kernel
set_option maxRecDepth 20000 in
theorem ggX7_body_X7_in : GoodIn wsX7_body wsX7_in := goodIn_r _ [7] (by decide +kernel) (by decide +kernel)
set_option maxRecDepth 20000 in
theorem gX7_body_X7_in : GoodIn wsX7_body (va_wsS RX7 48 yX7_in wsX7_in) := goodIn_app (goodIn_of _ (by decide +kernel)) ggX7_body_X7_in
set_option maxRecDepth 20000 in
theorem ggX7_body_X7_error : GoodIn wsX7_body wsX7_error := goodIn_r _ [11, 12, 13, 14, 15, 16, 17, 18, 19, 20, 21, 22, 23, 24, 25, 26, 27, 28, 29, 30, 31, 32, 33, 34] (by decide +kernel) (by decide +kernel)
set_option maxRecDepth 20000 in
theorem gX7_body_X7_error : GoodIn wsX7_body (wsV RX7 78 RX7 yX7_error wsX7_error) := goodIn_app (goodIn_of _ (by decide +kernel)) ggX7_body_X7_error

theorem dX7_body_0 : decode cX7_body 0 = .ok (.iload_n 1, 1) := by decide +kernel
theorem dX7_body_1 : decode cX7_body 1 = .ok (.iconst 0, 1) := by decide +kernel
theorem dX7_body_2 : decode cX7_body 2 = .ok (.aload_n 0, 1) := by decide +kernel
theorem dX7_body_3 : decode cX7_body 3 = .ok (.getfield 213, 3) := by decide +kernel
theorem dX7_body_6 : decode cX7_body 6 = .ok (.iconst 1, 1) := by decide +kernel
theorem dX7_body_7 : decode cX7_body 7 = .ok (.isub, 1) := by decide +kernel
theorem dX7_body_8 : decode cX7_body 8 = .ok (.invokestatic 48, 3) := by decide +kernel
theorem dX7_body_11 : decode cX7_body 11 = .ok (.ifCond .eq 12, 3) := by decide +kernel
theorem dX7_body_14 : decode cX7_body 14 = .ok (.aload_n 0, 1) := by decide +kernel
theorem dX7_body_15 : decode cX7_body 15 = .ok (.getfield 44, 3) := by decide +kernel
theorem dX7_body_18 : decode cX7_body 18 = .ok (.iload_n 1, 1) := by decide +kernel
theorem dX7_body_19 : decode cX7_body 19 = .ok (.iaload, 1) := by decide +kernel
theorem dX7_body_20 : decode cX7_body 20 = .ok (.goto 9, 3) := by decide +kernel
theorem dX7_body_23 : decode cX7_body 23 = .ok (.aload_n 0, 1) := by decide +kernel
theorem dX7_body_24 : decode cX7_body 24 = .ok (.ldc 206, 2) := by decide +kernel
theorem dX7_body_26 : decode cX7_body 26 = .ok (.invokevirtual 78, 3) := by decide +kernel
theorem dX7_body_29 : decode cX7_body 29 = .ok (.ireturn, 1) := by decide +kernel
set_option maxRecDepth 20000 in
theorem ggX7_isSheet_X7_in : GoodIn wsX7_isSheet wsX7_in := goodIn_r _ [4] (by decide +kernel) (by decide +kernel)
set_option maxRecDepth 20000 in
theorem gX7_isSheet_X7_in : GoodIn wsX7_isSheet (va_wsS RX7 48 yX7_in wsX7_in) := goodIn_app (goodIn_of _ (by decide +kernel)) ggX7_isSheet_X7_in
theorem dX7_isSheet_0 : decode cX7_isSheet 0 = .ok (.iload_n 0, 1) := by decide +kernel
theorem dX7_isSheet_1 : decode cX7_isSheet 1 = .ok (.iconst 0, 1) := by decide +kernel
theorem dX7_isSheet_2 : decode cX7_isSheet 2 = .ok (.iconst 3, 1) := by decide +kernel
theorem dX7_isSheet_3 : decode cX7_isSheet 3 = .ok (.invokestatic 48, 3) := by decide +kernel
theorem dX7_isSheet_6 : decode cX7_isSheet 6 = .ok (.ireturn, 1) := by decide +kernel
set_option maxRecDepth 20000 in
theorem ggX7_sheet_X7_isSheet : GoodIn wsX7_sheet wsX7_isSheet := goodIn_r _ [9, 10, 11, 8, 12] (by decide +kernel) (by decide +kernel)
set_option maxRecDepth 20000 in
theorem gX7_sheet_X7_isSheet : GoodIn wsX7_sheet (va_wsS RX7 207 yX7_isSheet wsX7_isSheet) := goodIn_app (goodIn_of _ (by decide +kernel)) ggX7_sheet_X7_isSheet
set_option maxRecDepth 20000 in
theorem ggX7_sheet_X7_error : GoodIn wsX7_sheet wsX7_error := goodIn_r _ [16, 17, 18, 19, 20, 21, 22, 23, 24, 25, 26, 27, 28, 29, 30, 31, 32, 33, 34, 35, 36, 37, 38, 39] (by decide +kernel) (by decide +kernel)
set_option maxRecDepth 20000 in
theorem gX7_sheet_X7_error : GoodIn wsX7_sheet (wsV RX7 78 RX7 yX7_error wsX7_error) := goodIn_app (goodIn_of _ (by decide +kernel)) ggX7_sheet_X7_error
theorem dX7_sheet_0 : decode cX7_sheet 0 = .ok (.iload_n 1, 1) := by decide +kernel
theorem dX7_sheet_1 : decode cX7_sheet 1 = .ok (.invokestatic 207, 3) := by decide +kernel
theorem dX7_sheet_4 : decode cX7_sheet 4 = .ok (.ifCond .eq 25, 3) := by decide +kernel
theorem dX7_sheet_7 : decode cX7_sheet 7 = .ok (.iload_n 2, 1) := by decide +kernel
theorem dX7_sheet_8 : decode cX7_sheet 8 = .ok (.ifCond .eq 28, 3) := by decide +kernel
theorem dX7_sheet_11 : decode cX7_sheet 11 = .ok (.iload_n 2, 1) := by decide +kernel
theorem dX7_sheet_12 : decode cX7_sheet 12 = .ok (.bipush 8, 2) := by decide +kernel
theorem dX7_sheet_14 : decode cX7_sheet 14 = .ok (.if_icmp .eq 22, 3) := by decide +kernel
theorem dX7_sheet_17 : decode cX7_sheet 17 = .ok (.iload_n 2, 1) := by decide +kernel
theorem dX7_sheet_18 : decode cX7_sheet 18 = .ok (.bipush 16, 2) := by decide +kernel
theorem dX7_sheet_20 : decode cX7_sheet 20 = .ok (.if_icmp .eq 16, 3) := by decide +kernel
theorem dX7_sheet_23 : decode cX7_sheet 23 = .ok (.iload_n 2, 1) := by decide +kernel
theorem dX7_sheet_24 : decode cX7_sheet 24 = .ok (.bipush 32, 2) := by decide +kernel
theorem dX7_sheet_26 : decode cX7_sheet 26 = .ok (.if_icmp .eq 10, 3) := by decide +kernel
theorem dX7_sheet_29 : decode cX7_sheet 29 = .ok (.aload_n 0, 1) := by decide +kernel
theorem dX7_sheet_30 : decode cX7_sheet 30 = .ok (.ldc 77, 2) := by decide +kernel
theorem dX7_sheet_32 : decode cX7_sheet 32 = .ok (.invokevirtual 78, 3) := by decide +kernel
theorem dX7_sheet_35 : decode cX7_sheet 35 = .ok (.ireturn, 1) := by decide +kernel
theorem dX7_sheet_36 : decode cX7_sheet 36 = .ok (.iload_n 2, 1) := by decide +kernel
theorem dX7_sheet_37 : decode cX7_sheet 37 = .ok (.ifCond .le 14, 3) := by decide +kernel
theorem dX7_sheet_40 : decode cX7_sheet 40 = .ok (.iload_n 3, 1) := by decide +kernel
theorem dX7_sheet_41 : decode cX7_sheet 41 = .ok (.ifCond .ge 10, 3) := by decide +kernel
theorem dX7_sheet_44 : decode cX7_sheet 44 = .ok (.aload_n 0, 1) := by decide +kernel
theorem dX7_sheet_45 : decode cX7_sheet 45 = .ok (.ldc 113, 2) := by decide +kernel
theorem dX7_sheet_47 : decode cX7_sheet 47 = .ok (.invokevirtual 78, 3) := by decide +kernel
theorem dX7_sheet_50 : decode cX7_sheet 50 = .ok (.ireturn, 1) := by decide +kernel
theorem dX7_sheet_51 : decode cX7_sheet 51 = .ok (.iload_n 2, 1) := by decide +kernel
theorem dX7_sheet_52 : decode cX7_sheet 52 = .ok (.ifCond .le 16, 3) := by decide +kernel
theorem dX7_sheet_55 : decode cX7_sheet 55 = .ok (.iload_n 3, 1) := by decide +kernel
theorem dX7_sheet_56 : decode cX7_sheet 56 = .ok (.bipush 24, 2) := by decide +kernel
theorem dX7_sheet_58 : decode cX7_sheet 58 = .ok (.if_icmp .le 10, 3) := by decide +kernel
theorem dX7_sheet_61 : decode cX7_sheet 61 = .ok (.aload_n 0, 1) := by decide +kernel
theorem dX7_sheet_62 : decode cX7_sheet 62 = .ok (.ldc 77, 2) := by decide +kernel
theorem dX7_sheet_64 : decode cX7_sheet 64 = .ok (.invokevirtual 78, 3) := by decide +kernel
theorem dX7_sheet_67 : decode cX7_sheet 67 = .ok (.ireturn, 1) := by decide +kernel
theorem dX7_sheet_68 : decode cX7_sheet 68 = .ok (.aload_n 0, 1) := by decide +kernel
theorem dX7_sheet_69 : decode cX7_sheet 69 = .ok (.getfield 19, 3) := by decide +kernel
theorem dX7_sheet_72 : decode cX7_sheet 72 = .ok (.iload_n 1, 1) := by decide +kernel
theorem dX7_sheet_73 : decode cX7_sheet 73 = .ok (.iload_n 2, 1) := by decide +kernel
theorem dX7_sheet_74 : decode cX7_sheet 74 = .ok (.iastore, 1) := by decide +kernel
theorem dX7_sheet_75 : decode cX7_sheet 75 = .ok (.aload_n 0, 1) := by decide +kernel
theorem dX7_sheet_76 : decode cX7_sheet 76 = .ok (.getfield 22, 3) := by decide +kernel
theorem dX7_sheet_79 : decode cX7_sheet 79 = .ok (.iload_n 1, 1) := by decide +kernel
theorem dX7_sheet_80 : decode cX7_sheet 80 = .ok (.iload_n 2, 1) := by decide +kernel
theorem dX7_sheet_81 : decode cX7_sheet 81 = .ok (.ifCond .ne 7, 3) := by decide +kernel
theorem dX7_sheet_84 : decode cX7_sheet 84 = .ok (.iconst 0, 1) := by decide +kernel
theorem dX7_sheet_85 : decode cX7_sheet 85 = .ok (.goto 4, 3) := by decide +kernel
theorem dX7_sheet_88 : decode cX7_sheet 88 = .ok (.iload_n 3, 1) := by decide +kernel
theorem dX7_sheet_89 : decode cX7_sheet 89 = .ok (.iastore, 1) := by decide +kernel
theorem dX7_sheet_90 : decode cX7_sheet 90 = .ok (.iconst 0, 1) := by decide +kernel
theorem dX7_sheet_91 : decode cX7_sheet 91 = .ok (.istore 4, 2) := by decide +kernel
theorem dX7_sheet_93 : decode cX7_sheet 93 = .ok (.iload 4, 2) := by decide +kernel
theorem dX7_sheet_95 : decode cX7_sheet 95 = .ok (.bipush 24, 2) := by decide +kernel
theorem dX7_sheet_97 : decode cX7_sheet 97 = .ok (.if_icmp .ge 22, 3) := by decide +kernel
theorem dX7_sheet_100 : decode cX7_sheet 100 = .ok (.aload_n 0, 1) := by decide +kernel
theorem dX7_sheet_101 : decode cX7_sheet 101 = .ok (.getfield 25, 3) := by decide +kernel
theorem dX7_sheet_104 : decode cX7_sheet 104 = .ok (.bipush 24, 2) := by decide +kernel
theorem dX7_sheet_106 : decode cX7_sheet 106 = .ok (.iload_n 1, 1) := by decide +kernel
theorem dX7_sheet_107 : decode cX7_sheet 107 = .ok (.imul, 1) := by decide +kernel
theorem dX7_sheet_108 : decode cX7_sheet 108 = .ok (.iload 4, 2) := by decide +kernel
theorem dX7_sheet_110 : decode cX7_sheet 110 = .ok (.iadd, 1) := by decide +kernel
theorem dX7_sheet_111 : decode cX7_sheet 111 = .ok (.iconst 0, 1) := by decide +kernel
theorem dX7_sheet_112 : decode cX7_sheet 112 = .ok (.iastore, 1) := by decide +kernel
theorem dX7_sheet_113 : decode cX7_sheet 113 = .ok (.iinc 4 1, 3) := by decide +kernel
theorem dX7_sheet_116 : decode cX7_sheet 116 = .ok (.goto (-23), 3) := by decide +kernel
theorem dX7_sheet_119 : decode cX7_sheet 119 = .ok (.iconst 1, 1) := by decide +kernel
theorem dX7_sheet_120 : decode cX7_sheet 120 = .ok (.ireturn, 1) := by decide +kernel
set_option maxRecDepth 20000 in
theorem ggX7_notThere_X7_isSheet : GoodIn wsX7_notThere wsX7_isSheet := goodIn_r _ [7, 8, 9, 6, 10] (by decide +kernel) (by decide +kernel)
set_option maxRecDepth 20000 in
theorem gX7_notThere_X7_isSheet : GoodIn wsX7_notThere (va_wsS RX7 207 yX7_isSheet wsX7_isSheet) := goodIn_app (goodIn_of _ (by decide +kernel)) ggX7_notThere_X7_isSheet
theorem dX7_notThere_0 : decode cX7_notThere 0 = .ok (.iload_n 1, 1) := by decide +kernel
theorem dX7_notThere_1 : decode cX7_notThere 1 = .ok (.invokestatic 207, 3) := by decide +kernel
theorem dX7_notThere_4 : decode cX7_notThere 4 = .ok (.ifCond .ne 8, 3) := by decide +kernel
theorem dX7_notThere_7 : decode cX7_notThere 7 = .ok (.ldc 77, 2) := by decide +kernel
theorem dX7_notThere_9 : decode cX7_notThere 9 = .ok (.goto 18, 3) := by decide +kernel
theorem dX7_notThere_12 : decode cX7_notThere 12 = .ok (.aload_n 0, 1) := by decide +kernel
theorem dX7_notThere_13 : decode cX7_notThere 13 = .ok (.getfield 19, 3) := by decide +kernel
theorem dX7_notThere_16 : decode cX7_notThere 16 = .ok (.iload_n 1, 1) := by decide +kernel
theorem dX7_notThere_17 : decode cX7_notThere 17 = .ok (.iaload, 1) := by decide +kernel
theorem dX7_notThere_18 : decode cX7_notThere 18 = .ok (.ifCond .ne 8, 3) := by decide +kernel
theorem dX7_notThere_21 : decode cX7_notThere 21 = .ok (.ldc 206, 2) := by decide +kernel
theorem dX7_notThere_23 : decode cX7_notThere 23 = .ok (.goto 4, 3) := by decide +kernel
theorem dX7_notThere_26 : decode cX7_notThere 26 = .ok (.iconst 0, 1) := by decide +kernel
theorem dX7_notThere_27 : decode cX7_notThere 27 = .ok (.ireturn, 1) := by decide +kernel
set_option maxRecDepth 20000 in
theorem ggX7_put_X7_notThere : GoodIn wsX7_put wsX7_notThere := goodIn_r _ [9, 2, 4, 10, 11, 12, 8, 13, 14, 15, 16, 23, 24, 25, 26, 27, 28, 29, 30, 31, 32, 33, 34, 35, 36, 37, 38, 39, 40, 41, 42, 43] (by decide +kernel) (by decide +kernel)
set_option maxRecDepth 20000 in
theorem gX7_put_X7_notThere : GoodIn wsX7_put (wsV RX7 253 RX7 yX7_notThere wsX7_notThere) := goodIn_app (goodIn_of _ (by decide +kernel)) ggX7_put_X7_notThere
set_option maxRecDepth 20000 in
theorem ggX7_put_X7_in : GoodIn wsX7_put wsX7_in := goodIn_r _ [16] (by decide +kernel) (by decide +kernel)
set_option maxRecDepth 20000 in
theorem gX7_put_X7_in : GoodIn wsX7_put (va_wsS RX7 48 yX7_in wsX7_in) := goodIn_app (goodIn_of _ (by decide +kernel)) ggX7_put_X7_in
set_option maxRecDepth 20000 in
theorem ggX7_put_X7_error : GoodIn wsX7_put wsX7_error := goodIn_r _ [20, 21, 22, 23, 24, 25, 26, 27, 28, 29, 30, 31, 32, 33, 34, 35, 36, 37, 38, 39, 40, 41, 42, 43] (by decide +kernel) (by decide +kernel)
set_option maxRecDepth 20000 in
theorem gX7_put_X7_error : GoodIn wsX7_put (wsV RX7 78 RX7 yX7_error wsX7_error) := goodIn_app (goodIn_of _ (by decide +kernel)) ggX7_put_X7_error
theorem dX7_put_0 : decode cX7_put 0 = .ok (.aload_n 0, 1) := by decide +kernel
theorem dX7_put_1 : decode cX7_put 1 = .ok (.iload_n 1, 1) := by decide +kernel
theorem dX7_put_2 : decode cX7_put 2 = .ok (.invokevirtual 253, 3) := by decide +kernel
theorem dX7_put_5 : decode cX7_put 5 = .ok (.istore 4, 2) := by decide +kernel
theorem dX7_put_7 : decode cX7_put 7 = .ok (.iload 4, 2) := by decide +kernel
theorem dX7_put_9 : decode cX7_put 9 = .ok (.ifCond .ne 24, 3) := by decide +kernel
theorem dX7_put_12 : decode cX7_put 12 = .ok (.iload_n 2, 1) := by decide +kernel
theorem dX7_put_13 : decode cX7_put 13 = .ok (.iconst 0, 1) := by decide +kernel
theorem dX7_put_14 : decode cX7_put 14 = .ok (.aload_n 0, 1) := by decide +kernel
theorem dX7_put_15 : decode cX7_put 15 = .ok (.getfield 22, 3) := by decide +kernel
theorem dX7_put_18 : decode cX7_put 18 = .ok (.iload_n 1, 1) := by decide +kernel
theorem dX7_put_19 : decode cX7_put 19 = .ok (.iaload, 1) := by decide +kernel
theorem dX7_put_20 : decode cX7_put 20 = .ok (.iconst 1, 1) := by decide +kernel
theorem dX7_put_21 : decode cX7_put 21 = .ok (.isub, 1) := by decide +kernel
theorem dX7_put_22 : decode cX7_put 22 = .ok (.invokestatic 48, 3) := by decide +kernel
theorem dX7_put_25 : decode cX7_put 25 = .ok (.ifCond .ne 8, 3) := by decide +kernel
theorem dX7_put_28 : decode cX7_put 28 = .ok (.ldc 77, 2) := by decide +kernel
theorem dX7_put_30 : decode cX7_put 30 = .ok (.goto 5, 3) := by decide +kernel
theorem dX7_put_33 : decode cX7_put 33 = .ok (.iload 4, 2) := by decide +kernel
theorem dX7_put_35 : decode cX7_put 35 = .ok (.istore 4, 2) := by decide +kernel
theorem dX7_put_37 : decode cX7_put 37 = .ok (.iload 4, 2) := by decide +kernel
theorem dX7_put_39 : decode cX7_put 39 = .ok (.ifCond .eq 10, 3) := by decide +kernel
theorem dX7_put_42 : decode cX7_put 42 = .ok (.aload_n 0, 1) := by decide +kernel
theorem dX7_put_43 : decode cX7_put 43 = .ok (.iload 4, 2) := by decide +kernel
theorem dX7_put_45 : decode cX7_put 45 = .ok (.invokevirtual 78, 3) := by decide +kernel
theorem dX7_put_48 : decode cX7_put 48 = .ok (.ireturn, 1) := by decide +kernel
theorem dX7_put_49 : decode cX7_put 49 = .ok (.aload_n 0, 1) := by decide +kernel
theorem dX7_put_50 : decode cX7_put 50 = .ok (.getfield 25, 3) := by decide +kernel
theorem dX7_put_53 : decode cX7_put 53 = .ok (.bipush 24, 2) := by decide +kernel
theorem dX7_put_55 : decode cX7_put 55 = .ok (.iload_n 1, 1) := by decide +kernel
theorem dX7_put_56 : decode cX7_put 56 = .ok (.imul, 1) := by decide +kernel
theorem dX7_put_57 : decode cX7_put 57 = .ok (.iload_n 2, 1) := by decide +kernel
theorem dX7_put_58 : decode cX7_put 58 = .ok (.iadd, 1) := by decide +kernel
theorem dX7_put_59 : decode cX7_put 59 = .ok (.aload_n 0, 1) := by decide +kernel
theorem dX7_put_60 : decode cX7_put 60 = .ok (.getfield 19, 3) := by decide +kernel
theorem dX7_put_63 : decode cX7_put 63 = .ok (.iload_n 1, 1) := by decide +kernel
theorem dX7_put_64 : decode cX7_put 64 = .ok (.iaload, 1) := by decide +kernel
theorem dX7_put_65 : decode cX7_put 65 = .ok (.bipush 8, 2) := by decide +kernel
theorem dX7_put_67 : decode cX7_put 67 = .ok (.if_icmp .ne 8, 3) := by decide +kernel
theorem dX7_put_70 : decode cX7_put 70 = .ok (.iload_n 3, 1) := by decide +kernel
theorem dX7_put_71 : decode cX7_put 71 = .ok (.i2b, 1) := by decide +kernel
theorem dX7_put_72 : decode cX7_put 72 = .ok (.goto 20, 3) := by decide +kernel
theorem dX7_put_75 : decode cX7_put 75 = .ok (.aload_n 0, 1) := by decide +kernel
theorem dX7_put_76 : decode cX7_put 76 = .ok (.getfield 19, 3) := by decide +kernel
theorem dX7_put_79 : decode cX7_put 79 = .ok (.iload_n 1, 1) := by decide +kernel
theorem dX7_put_80 : decode cX7_put 80 = .ok (.iaload, 1) := by decide +kernel
theorem dX7_put_81 : decode cX7_put 81 = .ok (.bipush 16, 2) := by decide +kernel
theorem dX7_put_83 : decode cX7_put 83 = .ok (.if_icmp .ne 8, 3) := by decide +kernel
theorem dX7_put_86 : decode cX7_put 86 = .ok (.iload_n 3, 1) := by decide +kernel
theorem dX7_put_87 : decode cX7_put 87 = .ok (.i2s, 1) := by decide +kernel
theorem dX7_put_88 : decode cX7_put 88 = .ok (.goto 4, 3) := by decide +kernel
theorem dX7_put_91 : decode cX7_put 91 = .ok (.iload_n 3, 1) := by decide +kernel
theorem dX7_put_92 : decode cX7_put 92 = .ok (.iastore, 1) := by decide +kernel
theorem dX7_put_93 : decode cX7_put 93 = .ok (.iconst 1, 1) := by decide +kernel
theorem dX7_put_94 : decode cX7_put 94 = .ok (.ireturn, 1) := by decide +kernel
set_option maxRecDepth 20000 in
theorem ggX7_notMoved_X7_isSheet : GoodIn wsX7_notMoved wsX7_isSheet := goodIn_r _ [9, 10, 11, 8, 12] (by decide +kernel) (by decide +kernel)
set_option maxRecDepth 20000 in
theorem gX7_notMoved_X7_isSheet : GoodIn wsX7_notMoved (va_wsS RX7 207 yX7_isSheet wsX7_isSheet) := goodIn_app (goodIn_of _ (by decide +kernel)) ggX7_notMoved_X7_isSheet
theorem dX7_notMoved_0 : decode cX7_notMoved 0 = .ok (.iload_n 1, 1) := by decide +kernel
theorem dX7_notMoved_1 : decode cX7_notMoved 1 = .ok (.invokestatic 207, 3) := by decide +kernel
theorem dX7_notMoved_4 : decode cX7_notMoved 4 = .ok (.ifCond .eq 10, 3) := by decide +kernel
theorem dX7_notMoved_7 : decode cX7_notMoved 7 = .ok (.iload_n 3, 1) := by decide +kernel
theorem dX7_notMoved_8 : decode cX7_notMoved 8 = .ok (.invokestatic 207, 3) := by decide +kernel
theorem dX7_notMoved_11 : decode cX7_notMoved 11 = .ok (.ifCond .ne 6, 3) := by decide +kernel
theorem dX7_notMoved_14 : decode cX7_notMoved 14 = .ok (.ldc 77, 2) := by decide +kernel
theorem dX7_notMoved_16 : decode cX7_notMoved 16 = .ok (.ireturn, 1) := by decide +kernel
theorem dX7_notMoved_17 : decode cX7_notMoved 17 = .ok (.aload_n 0, 1) := by decide +kernel
theorem dX7_notMoved_18 : decode cX7_notMoved 18 = .ok (.getfield 19, 3) := by decide +kernel
theorem dX7_notMoved_21 : decode cX7_notMoved 21 = .ok (.iload_n 1, 1) := by decide +kernel
theorem dX7_notMoved_22 : decode cX7_notMoved 22 = .ok (.iaload, 1) := by decide +kernel
theorem dX7_notMoved_23 : decode cX7_notMoved 23 = .ok (.ifCond .eq 12, 3) := by decide +kernel
theorem dX7_notMoved_26 : decode cX7_notMoved 26 = .ok (.aload_n 0, 1) := by decide +kernel
theorem dX7_notMoved_27 : decode cX7_notMoved 27 = .ok (.getfield 19, 3) := by decide +kernel
theorem dX7_notMoved_30 : decode cX7_notMoved 30 = .ok (.iload_n 3, 1) := by decide +kernel
theorem dX7_notMoved_31 : decode cX7_notMoved 31 = .ok (.iaload, 1) := by decide +kernel
theorem dX7_notMoved_32 : decode cX7_notMoved 32 = .ok (.ifCond .ne 6, 3) := by decide +kernel
theorem dX7_notMoved_35 : decode cX7_notMoved 35 = .ok (.ldc 206, 2) := by decide +kernel
theorem dX7_notMoved_37 : decode cX7_notMoved 37 = .ok (.ireturn, 1) := by decide +kernel
theorem dX7_notMoved_38 : decode cX7_notMoved 38 = .ok (.aload_n 0, 1) := by decide +kernel
theorem dX7_notMoved_39 : decode cX7_notMoved 39 = .ok (.getfield 19, 3) := by decide +kernel
theorem dX7_notMoved_42 : decode cX7_notMoved 42 = .ok (.iload_n 1, 1) := by decide +kernel
theorem dX7_notMoved_43 : decode cX7_notMoved 43 = .ok (.iaload, 1) := by decide +kernel
theorem dX7_notMoved_44 : decode cX7_notMoved 44 = .ok (.aload_n 0, 1) := by decide +kernel
theorem dX7_notMoved_45 : decode cX7_notMoved 45 = .ok (.getfield 19, 3) := by decide +kernel
theorem dX7_notMoved_48 : decode cX7_notMoved 48 = .ok (.iload_n 3, 1) := by decide +kernel
theorem dX7_notMoved_49 : decode cX7_notMoved 49 = .ok (.iaload, 1) := by decide +kernel
theorem dX7_notMoved_50 : decode cX7_notMoved 50 = .ok (.if_icmp .eq 6, 3) := by decide +kernel
theorem dX7_notMoved_53 : decode cX7_notMoved 53 = .ok (.ldc 112, 2) := by decide +kernel
theorem dX7_notMoved_55 : decode cX7_notMoved 55 = .ok (.ireturn, 1) := by decide +kernel
theorem dX7_notMoved_56 : decode cX7_notMoved 56 = .ok (.iload 5, 2) := by decide +kernel
theorem dX7_notMoved_58 : decode cX7_notMoved 58 = .ok (.ifCond .lt 43, 3) := by decide +kernel
theorem dX7_notMoved_61 : decode cX7_notMoved 61 = .ok (.iload_n 2, 1) := by decide +kernel
theorem dX7_notMoved_62 : decode cX7_notMoved 62 = .ok (.ifCond .lt 39, 3) := by decide +kernel
theorem dX7_notMoved_65 : decode cX7_notMoved 65 = .ok (.iload 4, 2) := by decide +kernel
theorem dX7_notMoved_67 : decode cX7_notMoved 67 = .ok (.ifCond .lt 34, 3) := by decide +kernel
theorem dX7_notMoved_70 : decode cX7_notMoved 70 = .ok (.iload 5, 2) := by decide +kernel
theorem dX7_notMoved_72 : decode cX7_notMoved 72 = .ok (.aload_n 0, 1) := by decide +kernel
theorem dX7_notMoved_73 : decode cX7_notMoved 73 = .ok (.getfield 22, 3) := by decide +kernel
theorem dX7_notMoved_76 : decode cX7_notMoved 76 = .ok (.iload_n 1, 1) := by decide +kernel
theorem dX7_notMoved_77 : decode cX7_notMoved 77 = .ok (.iaload, 1) := by decide +kernel
theorem dX7_notMoved_78 : decode cX7_notMoved 78 = .ok (.iload_n 2, 1) := by decide +kernel
theorem dX7_notMoved_79 : decode cX7_notMoved 79 = .ok (.isub, 1) := by decide +kernel
theorem dX7_notMoved_80 : decode cX7_notMoved 80 = .ok (.if_icmp .gt 21, 3) := by decide +kernel
theorem dX7_notMoved_83 : decode cX7_notMoved 83 = .ok (.iload 5, 2) := by decide +kernel
theorem dX7_notMoved_85 : decode cX7_notMoved 85 = .ok (.aload_n 0, 1) := by decide +kernel
theorem dX7_notMoved_86 : decode cX7_notMoved 86 = .ok (.getfield 22, 3) := by decide +kernel
theorem dX7_notMoved_89 : decode cX7_notMoved 89 = .ok (.iload_n 3, 1) := by decide +kernel
theorem dX7_notMoved_90 : decode cX7_notMoved 90 = .ok (.iaload, 1) := by decide +kernel
theorem dX7_notMoved_91 : decode cX7_notMoved 91 = .ok (.iload 4, 2) := by decide +kernel
theorem dX7_notMoved_93 : decode cX7_notMoved 93 = .ok (.isub, 1) := by decide +kernel
theorem dX7_notMoved_94 : decode cX7_notMoved 94 = .ok (.if_icmp .gt 7, 3) := by decide +kernel
theorem dX7_notMoved_97 : decode cX7_notMoved 97 = .ok (.iconst 1, 1) := by decide +kernel
theorem dX7_notMoved_98 : decode cX7_notMoved 98 = .ok (.goto 4, 3) := by decide +kernel
theorem dX7_notMoved_101 : decode cX7_notMoved 101 = .ok (.iconst 0, 1) := by decide +kernel
theorem dX7_notMoved_102 : decode cX7_notMoved 102 = .ok (.istore 6, 2) := by decide +kernel
theorem dX7_notMoved_104 : decode cX7_notMoved 104 = .ok (.iload 6, 2) := by decide +kernel
theorem dX7_notMoved_106 : decode cX7_notMoved 106 = .ok (.ifCond .eq 7, 3) := by decide +kernel
theorem dX7_notMoved_109 : decode cX7_notMoved 109 = .ok (.iconst 0, 1) := by decide +kernel
theorem dX7_notMoved_110 : decode cX7_notMoved 110 = .ok (.goto 5, 3) := by decide +kernel
theorem dX7_notMoved_113 : decode cX7_notMoved 113 = .ok (.ldc 77, 2) := by decide +kernel
theorem dX7_notMoved_115 : decode cX7_notMoved 115 = .ok (.ireturn, 1) := by decide +kernel
set_option maxRecDepth 20000 in
theorem ggX7_move_X7_notMoved : GoodIn wsX7_move wsX7_notMoved := goodIn_r _ [6, 7, 8, 9, 10, 11, 12, 13, 5, 14, 15, 16, 17, 24, 25, 26, 27, 28, 29, 30, 31, 32, 33, 34, 35, 36, 37, 38, 39, 40, 41, 42, 43, 44] (by decide +kernel) (by decide +kernel)
set_option maxRecDepth 20000 in
theorem gX7_move_X7_notMoved : GoodIn wsX7_move (wsV RX7 256 RX7 yX7_notMoved wsX7_notMoved) := goodIn_app (goodIn_of _ (by decide +kernel)) ggX7_move_X7_notMoved
set_option maxRecDepth 20000 in
theorem ggX7_move_X7_error : GoodIn wsX7_move wsX7_error := goodIn_r _ [21, 22, 23, 24, 25, 26, 27, 28, 29, 30, 31, 32, 33, 34, 35, 36, 37, 38, 39, 40, 41, 42, 43, 44] (by decide +kernel) (by decide +kernel)
set_option maxRecDepth 20000 in
theorem gX7_move_X7_error : GoodIn wsX7_move (wsV RX7 78 RX7 yX7_error wsX7_error) := goodIn_app (goodIn_of _ (by decide +kernel)) ggX7_move_X7_error
theorem dX7_move_0 : decode cX7_move 0 = .ok (.aload_n 0, 1) := by decide +kernel
theorem dX7_move_1 : decode cX7_move 1 = .ok (.iload_n 1, 1) := by decide +kernel
theorem dX7_move_2 : decode cX7_move 2 = .ok (.iload_n 2, 1) := by decide +kernel
theorem dX7_move_3 : decode cX7_move 3 = .ok (.iload_n 3, 1) := by decide +kernel
theorem dX7_move_4 : decode cX7_move 4 = .ok (.iload 4, 2) := by decide +kernel
theorem dX7_move_6 : decode cX7_move 6 = .ok (.iload 5, 2) := by decide +kernel
theorem dX7_move_8 : decode cX7_move 8 = .ok (.invokevirtual 256, 3) := by decide +kernel
theorem dX7_move_11 : decode cX7_move 11 = .ok (.istore 6, 2) := by decide +kernel
theorem dX7_move_13 : decode cX7_move 13 = .ok (.iload 6, 2) := by decide +kernel
theorem dX7_move_15 : decode cX7_move 15 = .ok (.ifCond .eq 10, 3) := by decide +kernel
theorem dX7_move_18 : decode cX7_move 18 = .ok (.aload_n 0, 1) := by decide +kernel
theorem dX7_move_19 : decode cX7_move 19 = .ok (.iload 6, 2) := by decide +kernel
theorem dX7_move_21 : decode cX7_move 21 = .ok (.invokevirtual 78, 3) := by decide +kernel
theorem dX7_move_24 : decode cX7_move 24 = .ok (.ireturn, 1) := by decide +kernel
theorem dX7_move_25 : decode cX7_move 25 = .ok (.iconst 0, 1) := by decide +kernel
theorem dX7_move_26 : decode cX7_move 26 = .ok (.istore 7, 2) := by decide +kernel
theorem dX7_move_28 : decode cX7_move 28 = .ok (.iload 7, 2) := by decide +kernel
theorem dX7_move_30 : decode cX7_move 30 = .ok (.iload 5, 2) := by decide +kernel
theorem dX7_move_32 : decode cX7_move 32 = .ok (.if_icmp .ge 58, 3) := by decide +kernel
theorem dX7_move_35 : decode cX7_move 35 = .ok (.iload_n 2, 1) := by decide +kernel
theorem dX7_move_36 : decode cX7_move 36 = .ok (.iload 4, 2) := by decide +kernel
theorem dX7_move_38 : decode cX7_move 38 = .ok (.if_icmp .ge 13, 3) := by decide +kernel
theorem dX7_move_41 : decode cX7_move 41 = .ok (.iload 5, 2) := by decide +kernel
theorem dX7_move_43 : decode cX7_move 43 = .ok (.iconst 1, 1) := by decide +kernel
theorem dX7_move_44 : decode cX7_move 44 = .ok (.isub, 1) := by decide +kernel
theorem dX7_move_45 : decode cX7_move 45 = .ok (.iload 7, 2) := by decide +kernel
theorem dX7_move_47 : decode cX7_move 47 = .ok (.isub, 1) := by decide +kernel
theorem dX7_move_48 : decode cX7_move 48 = .ok (.goto 5, 3) := by decide +kernel
theorem dX7_move_51 : decode cX7_move 51 = .ok (.iload 7, 2) := by decide +kernel
theorem dX7_move_53 : decode cX7_move 53 = .ok (.istore 8, 2) := by decide +kernel
theorem dX7_move_55 : decode cX7_move 55 = .ok (.aload_n 0, 1) := by decide +kernel
theorem dX7_move_56 : decode cX7_move 56 = .ok (.getfield 25, 3) := by decide +kernel
theorem dX7_move_59 : decode cX7_move 59 = .ok (.bipush 24, 2) := by decide +kernel
theorem dX7_move_61 : decode cX7_move 61 = .ok (.iload_n 3, 1) := by decide +kernel
theorem dX7_move_62 : decode cX7_move 62 = .ok (.imul, 1) := by decide +kernel
theorem dX7_move_63 : decode cX7_move 63 = .ok (.iload 4, 2) := by decide +kernel
theorem dX7_move_65 : decode cX7_move 65 = .ok (.iadd, 1) := by decide +kernel
theorem dX7_move_66 : decode cX7_move 66 = .ok (.iload 8, 2) := by decide +kernel
theorem dX7_move_68 : decode cX7_move 68 = .ok (.iadd, 1) := by decide +kernel
theorem dX7_move_69 : decode cX7_move 69 = .ok (.aload_n 0, 1) := by decide +kernel
theorem dX7_move_70 : decode cX7_move 70 = .ok (.getfield 25, 3) := by decide +kernel
theorem dX7_move_73 : decode cX7_move 73 = .ok (.bipush 24, 2) := by decide +kernel
theorem dX7_move_75 : decode cX7_move 75 = .ok (.iload_n 1, 1) := by decide +kernel
theorem dX7_move_76 : decode cX7_move 76 = .ok (.imul, 1) := by decide +kernel
theorem dX7_move_77 : decode cX7_move 77 = .ok (.iload_n 2, 1) := by decide +kernel
theorem dX7_move_78 : decode cX7_move 78 = .ok (.iadd, 1) := by decide +kernel
theorem dX7_move_79 : decode cX7_move 79 = .ok (.iload 8, 2) := by decide +kernel
theorem dX7_move_81 : decode cX7_move 81 = .ok (.iadd, 1) := by decide +kernel
theorem dX7_move_82 : decode cX7_move 82 = .ok (.iaload, 1) := by decide +kernel
theorem dX7_move_83 : decode cX7_move 83 = .ok (.iastore, 1) := by decide +kernel
theorem dX7_move_84 : decode cX7_move 84 = .ok (.iinc 7 1, 3) := by decide +kernel
theorem dX7_move_87 : decode cX7_move 87 = .ok (.goto (-59), 3) := by decide +kernel
theorem dX7_move_90 : decode cX7_move 90 = .ok (.iload 5, 2) := by decide +kernel
theorem dX7_move_92 : decode cX7_move 92 = .ok (.ireturn, 1) := by decide +kernel
set_option maxRecDepth 20000 in
theorem ggX7_cares_X7_notThere : GoodIn wsX7_cares wsX7_notThere := goodIn_r _ [8, 9, 10, 11, 12, 13, 7, 14, 15, 16, 17, 24, 25, 26, 27, 28, 29, 30, 31, 32, 33, 34, 35, 36, 37, 38, 39, 40, 41, 42, 43, 44] (by decide +kernel) (by decide +kernel)
set_option maxRecDepth 20000 in
theorem gX7_cares_X7_notThere : GoodIn wsX7_cares (wsV RX7 253 RX7 yX7_notThere wsX7_notThere) := goodIn_app (goodIn_of _ (by decide +kernel)) ggX7_cares_X7_notThere
set_option maxRecDepth 20000 in
theorem ggX7_cares_X7_error : GoodIn wsX7_cares wsX7_error := goodIn_r _ [21, 22, 23, 24, 25, 26, 27, 28, 29, 30, 31, 32, 33, 34, 35, 36, 37, 38, 39, 40, 41, 42, 43, 44] (by decide +kernel) (by decide +kernel)
set_option maxRecDepth 20000 in
theorem gX7_cares_X7_error : GoodIn wsX7_cares (wsV RX7 78 RX7 yX7_error wsX7_error) := goodIn_app (goodIn_of _ (by decide +kernel)) ggX7_cares_X7_error
set_option maxRecDepth 20000 in
theorem ggX7_cares_X7_in : GoodIn wsX7_cares wsX7_in := goodIn_r _ [17] (by decide +kernel) (by decide +kernel)
set_option maxRecDepth 20000 in
theorem gX7_cares_X7_in : GoodIn wsX7_cares (va_wsS RX7 48 yX7_in wsX7_in) := goodIn_app (goodIn_of _ (by decide +kernel)) ggX7_cares_X7_in
theorem dX7_cares_0 : decode cX7_cares 0 = .ok (.aload_n 0, 1) := by decide +kernel
theorem dX7_cares_1 : decode cX7_cares 1 = .ok (.iload_n 1, 1) := by decide +kernel
theorem dX7_cares_2 : decode cX7_cares 2 = .ok (.invokevirtual 253, 3) := by decide +kernel
theorem dX7_cares_5 : decode cX7_cares 5 = .ok (.istore_n 2, 1) := by decide +kernel
theorem dX7_cares_6 : decode cX7_cares 6 = .ok (.iload_n 2, 1) := by decide +kernel
theorem dX7_cares_7 : decode cX7_cares 7 = .ok (.ifCond .eq 9, 3) := by decide +kernel
theorem dX7_cares_10 : decode cX7_cares 10 = .ok (.aload_n 0, 1) := by decide +kernel
theorem dX7_cares_11 : decode cX7_cares 11 = .ok (.iload_n 2, 1) := by decide +kernel
theorem dX7_cares_12 : decode cX7_cares 12 = .ok (.invokevirtual 78, 3) := by decide +kernel
theorem dX7_cares_15 : decode cX7_cares 15 = .ok (.ireturn, 1) := by decide +kernel
theorem dX7_cares_16 : decode cX7_cares 16 = .ok (.iconst 0, 1) := by decide +kernel
theorem dX7_cares_17 : decode cX7_cares 17 = .ok (.istore_n 3, 1) := by decide +kernel
theorem dX7_cares_18 : decode cX7_cares 18 = .ok (.iload_n 3, 1) := by decide +kernel
theorem dX7_cares_19 : decode cX7_cares 19 = .ok (.aload_n 0, 1) := by decide +kernel
theorem dX7_cares_20 : decode cX7_cares 20 = .ok (.getfield 22, 3) := by decide +kernel
theorem dX7_cares_23 : decode cX7_cares 23 = .ok (.iload_n 1, 1) := by decide +kernel
theorem dX7_cares_24 : decode cX7_cares 24 = .ok (.iaload, 1) := by decide +kernel
theorem dX7_cares_25 : decode cX7_cares 25 = .ok (.if_icmp .ge 61, 3) := by decide +kernel
theorem dX7_cares_28 : decode cX7_cares 28 = .ok (.iload_n 3, 1) := by decide +kernel
theorem dX7_cares_29 : decode cX7_cares 29 = .ok (.aload_n 0, 1) := by decide +kernel
theorem dX7_cares_30 : decode cX7_cares 30 = .ok (.getfield 9, 3) := by decide +kernel
theorem dX7_cares_33 : decode cX7_cares 33 = .ok (.iconst 3, 1) := by decide +kernel
theorem dX7_cares_34 : decode cX7_cares 34 = .ok (.iaload, 1) := by decide +kernel
theorem dX7_cares_35 : decode cX7_cares 35 = .ok (.if_icmp .ge 51, 3) := by decide +kernel
theorem dX7_cares_38 : decode cX7_cares 38 = .ok (.aload_n 0, 1) := by decide +kernel
theorem dX7_cares_39 : decode cX7_cares 39 = .ok (.getfield 25, 3) := by decide +kernel
theorem dX7_cares_42 : decode cX7_cares 42 = .ok (.bipush 24, 2) := by decide +kernel
theorem dX7_cares_44 : decode cX7_cares 44 = .ok (.iload_n 1, 1) := by decide +kernel
theorem dX7_cares_45 : decode cX7_cares 45 = .ok (.imul, 1) := by decide +kernel
theorem dX7_cares_46 : decode cX7_cares 46 = .ok (.iload_n 3, 1) := by decide +kernel
theorem dX7_cares_47 : decode cX7_cares 47 = .ok (.iadd, 1) := by decide +kernel
theorem dX7_cares_48 : decode cX7_cares 48 = .ok (.iaload, 1) := by decide +kernel
theorem dX7_cares_49 : decode cX7_cares 49 = .ok (.iconst 0, 1) := by decide +kernel
theorem dX7_cares_50 : decode cX7_cares 50 = .ok (.bipush 9, 2) := by decide +kernel
theorem dX7_cares_52 : decode cX7_cares 52 = .ok (.invokestatic 48, 3) := by decide +kernel
theorem dX7_cares_55 : decode cX7_cares 55 = .ok (.ifCond .eq 31, 3) := by decide +kernel
theorem dX7_cares_58 : decode cX7_cares 58 = .ok (.aload_n 0, 1) := by decide +kernel
theorem dX7_cares_59 : decode cX7_cares 59 = .ok (.getfield 9, 3) := by decide +kernel
theorem dX7_cares_62 : decode cX7_cares 62 = .ok (.bipush 6, 2) := by decide +kernel
theorem dX7_cares_64 : decode cX7_cares 64 = .ok (.iconst 3, 1) := by decide +kernel
theorem dX7_cares_65 : decode cX7_cares 65 = .ok (.iload_n 3, 1) := by decide +kernel
theorem dX7_cares_66 : decode cX7_cares 66 = .ok (.imul, 1) := by decide +kernel
theorem dX7_cares_67 : decode cX7_cares 67 = .ok (.iadd, 1) := by decide +kernel
theorem dX7_cares_68 : decode cX7_cares 68 = .ok (.aload_n 0, 1) := by decide +kernel
theorem dX7_cares_69 : decode cX7_cares 69 = .ok (.getfield 25, 3) := by decide +kernel
theorem dX7_cares_72 : decode cX7_cares 72 = .ok (.bipush 24, 2) := by decide +kernel
theorem dX7_cares_74 : decode cX7_cares 74 = .ok (.iload_n 1, 1) := by decide +kernel
theorem dX7_cares_75 : decode cX7_cares 75 = .ok (.imul, 1) := by decide +kernel
theorem dX7_cares_76 : decode cX7_cares 76 = .ok (.iload_n 3, 1) := by decide +kernel
theorem dX7_cares_77 : decode cX7_cares 77 = .ok (.iadd, 1) := by decide +kernel
theorem dX7_cares_78 : decode cX7_cares 78 = .ok (.iaload, 1) := by decide +kernel
theorem dX7_cares_79 : decode cX7_cares 79 = .ok (.iastore, 1) := by decide +kernel
theorem dX7_cares_80 : decode cX7_cares 80 = .ok (.iinc 3 1, 3) := by decide +kernel
theorem dX7_cares_83 : decode cX7_cares 83 = .ok (.goto (-65), 3) := by decide +kernel
theorem dX7_cares_86 : decode cX7_cares 86 = .ok (.iload_n 3, 1) := by decide +kernel
theorem dX7_cares_87 : decode cX7_cares 87 = .ok (.ireturn, 1) := by decide +kernel
set_option maxRecDepth 20000 in
theorem ggX7_judge_X7_notThere : GoodIn wsX7_judge wsX7_notThere := goodIn_r _ [8, 9, 10, 11, 12, 13, 7, 14, 15, 16, 17, 28, 29, 30, 31, 32, 33, 34, 35, 36, 37, 38, 39, 40, 41, 42, 43, 44, 45, 46, 47, 48] (by decide +kernel) (by decide +kernel)
set_option maxRecDepth 20000 in
theorem gX7_judge_X7_notThere : GoodIn wsX7_judge (wsV RX7 253 RX7 yX7_notThere wsX7_notThere) := goodIn_app (goodIn_of _ (by decide +kernel)) ggX7_judge_X7_notThere
set_option maxRecDepth 20000 in
theorem ggX7_judge_X7_error : GoodIn wsX7_judge wsX7_error := goodIn_r _ [21, 22, 23, 28, 29, 30, 31, 32, 33, 34, 35, 36, 37, 38, 39, 40, 41, 42, 43, 44, 45, 46, 47, 48] (by decide +kernel) (by decide +kernel)
set_option maxRecDepth 20000 in
theorem gX7_judge_X7_error : GoodIn wsX7_judge (wsV RX7 78 RX7 yX7_error wsX7_error) := goodIn_app (goodIn_of _ (by decide +kernel)) ggX7_judge_X7_error
set_option maxRecDepth 20000 in
theorem ggX7_judge_X7_of : GoodIn wsX7_judge wsX7_of := goodIn_r _ [27, 2, 28, 29, 30, 31, 32, 33, 34, 35, 36, 37, 38, 39, 40, 41, 42, 43, 44, 45, 46, 47, 48] (by decide +kernel) (by decide +kernel)
set_option maxRecDepth 20000 in
theorem gX7_judge_X7_of : GoodIn wsX7_judge (wsV RX7 52 RX7 yX7_of wsX7_of) := goodIn_app (goodIn_of _ (by decide +kernel)) ggX7_judge_X7_of
theorem dX7_judge_0 : decode cX7_judge 0 = .ok (.aload_n 0, 1) := by decide +kernel
theorem dX7_judge_1 : decode cX7_judge 1 = .ok (.iload_n 1, 1) := by decide +kernel
theorem dX7_judge_2 : decode cX7_judge 2 = .ok (.invokevirtual 253, 3) := by decide +kernel
theorem dX7_judge_5 : decode cX7_judge 5 = .ok (.istore_n 2, 1) := by decide +kernel
theorem dX7_judge_6 : decode cX7_judge 6 = .ok (.iload_n 2, 1) := by decide +kernel
theorem dX7_judge_7 : decode cX7_judge 7 = .ok (.ifCond .eq 9, 3) := by decide +kernel
theorem dX7_judge_10 : decode cX7_judge 10 = .ok (.aload_n 0, 1) := by decide +kernel
theorem dX7_judge_11 : decode cX7_judge 11 = .ok (.iload_n 2, 1) := by decide +kernel
theorem dX7_judge_12 : decode cX7_judge 12 = .ok (.invokevirtual 78, 3) := by decide +kernel
theorem dX7_judge_15 : decode cX7_judge 15 = .ok (.ireturn, 1) := by decide +kernel
theorem dX7_judge_16 : decode cX7_judge 16 = .ok (.iconst 0, 1) := by decide +kernel
theorem dX7_judge_17 : decode cX7_judge 17 = .ok (.istore_n 3, 1) := by decide +kernel
theorem dX7_judge_18 : decode cX7_judge 18 = .ok (.iload_n 3, 1) := by decide +kernel
theorem dX7_judge_19 : decode cX7_judge 19 = .ok (.aload_n 0, 1) := by decide +kernel
theorem dX7_judge_20 : decode cX7_judge 20 = .ok (.getfield 22, 3) := by decide +kernel
theorem dX7_judge_23 : decode cX7_judge 23 = .ok (.iload_n 1, 1) := by decide +kernel
theorem dX7_judge_24 : decode cX7_judge 24 = .ok (.iaload, 1) := by decide +kernel
theorem dX7_judge_25 : decode cX7_judge 25 = .ok (.if_icmp .ge 39, 3) := by decide +kernel
theorem dX7_judge_28 : decode cX7_judge 28 = .ok (.iload_n 3, 1) := by decide +kernel
theorem dX7_judge_29 : decode cX7_judge 29 = .ok (.aload_n 0, 1) := by decide +kernel
theorem dX7_judge_30 : decode cX7_judge 30 = .ok (.getfield 9, 3) := by decide +kernel
theorem dX7_judge_33 : decode cX7_judge 33 = .ok (.iconst 2, 1) := by decide +kernel
theorem dX7_judge_34 : decode cX7_judge 34 = .ok (.iaload, 1) := by decide +kernel
theorem dX7_judge_35 : decode cX7_judge 35 = .ok (.if_icmp .ge 29, 3) := by decide +kernel
theorem dX7_judge_38 : decode cX7_judge 38 = .ok (.aload_n 0, 1) := by decide +kernel
theorem dX7_judge_39 : decode cX7_judge 39 = .ok (.getfield 25, 3) := by decide +kernel
theorem dX7_judge_42 : decode cX7_judge 42 = .ok (.bipush 24, 2) := by decide +kernel
theorem dX7_judge_44 : decode cX7_judge 44 = .ok (.iload_n 1, 1) := by decide +kernel
theorem dX7_judge_45 : decode cX7_judge 45 = .ok (.imul, 1) := by decide +kernel
theorem dX7_judge_46 : decode cX7_judge 46 = .ok (.iload_n 3, 1) := by decide +kernel
theorem dX7_judge_47 : decode cX7_judge 47 = .ok (.iadd, 1) := by decide +kernel
theorem dX7_judge_48 : decode cX7_judge 48 = .ok (.iaload, 1) := by decide +kernel
theorem dX7_judge_49 : decode cX7_judge 49 = .ok (.aload_n 0, 1) := by decide +kernel
theorem dX7_judge_50 : decode cX7_judge 50 = .ok (.iload_n 3, 1) := by decide +kernel
theorem dX7_judge_51 : decode cX7_judge 51 = .ok (.iconst 3, 1) := by decide +kernel
theorem dX7_judge_52 : decode cX7_judge 52 = .ok (.invokevirtual 52, 3) := by decide +kernel
theorem dX7_judge_55 : decode cX7_judge 55 = .ok (.if_icmp .ne 9, 3) := by decide +kernel
theorem dX7_judge_58 : decode cX7_judge 58 = .ok (.iinc 3 1, 3) := by decide +kernel
theorem dX7_judge_61 : decode cX7_judge 61 = .ok (.goto (-43), 3) := by decide +kernel
theorem dX7_judge_64 : decode cX7_judge 64 = .ok (.iload_n 3, 1) := by decide +kernel
theorem dX7_judge_65 : decode cX7_judge 65 = .ok (.ireturn, 1) := by decide +kernel
set_option maxRecDepth 20000 in
theorem ggX7_image_X7_copyAll : GoodIn wsX7_image wsX7_copyAll := goodIn_r _ [7] (by decide +kernel) (by decide +kernel)
set_option maxRecDepth 20000 in
theorem gX7_image_X7_copyAll : GoodIn wsX7_image (va_wsS RX7 260 yX7_copyAll wsX7_copyAll) := goodIn_app (goodIn_of _ (by decide +kernel)) ggX7_image_X7_copyAll
theorem dX7_image_0 : decode cX7_image 0 = .ok (.aload_n 0, 1) := by decide +kernel
theorem dX7_image_1 : decode cX7_image 1 = .ok (.getfield 9, 3) := by decide +kernel
theorem dX7_image_4 : decode cX7_image 4 = .ok (.aload_n 0, 1) := by decide +kernel
theorem dX7_image_5 : decode cX7_image 5 = .ok (.getfield 13, 3) := by decide +kernel
theorem dX7_image_8 : decode cX7_image 8 = .ok (.invokestatic 260, 3) := by decide +kernel
theorem dX7_image_11 : decode cX7_image 11 = .ok (.aload_n 0, 1) := by decide +kernel
theorem dX7_image_12 : decode cX7_image 12 = .ok (.dup, 1) := by decide +kernel
theorem dX7_image_13 : decode cX7_image 13 = .ok (.getfield 264, 3) := by decide +kernel
theorem dX7_image_16 : decode cX7_image 16 = .ok (.iconst 1, 1) := by decide +kernel
theorem dX7_image_17 : decode cX7_image 17 = .ok (.iadd, 1) := by decide +kernel
theorem dX7_image_18 : decode cX7_image 18 = .ok (.putfield 264, 3) := by decide +kernel
theorem dX7_image_21 : decode cX7_image 21 = .ok (.aload_n 0, 1) := by decide +kernel
theorem dX7_image_22 : decode cX7_image 22 = .ok (.getfield 264, 3) := by decide +kernel
theorem dX7_image_25 : decode cX7_image 25 = .ok (.ireturn, 1) := by decide +kernel
set_option maxRecDepth 20000 in
theorem ggX7_restore_X7_error : GoodIn wsX7_restore wsX7_error := goodIn_r _ [9, 10, 11, 15, 16, 17, 18, 19, 20, 21, 22, 23, 24, 25, 26, 27, 28, 29, 30, 31, 32, 33, 34, 35] (by decide +kernel) (by decide +kernel)
set_option maxRecDepth 20000 in
theorem gX7_restore_X7_error : GoodIn wsX7_restore (wsV RX7 78 RX7 yX7_error wsX7_error) := goodIn_app (goodIn_of _ (by decide +kernel)) ggX7_restore_X7_error
set_option maxRecDepth 20000 in
theorem ggX7_restore_X7_copyAll : GoodIn wsX7_restore wsX7_copyAll := goodIn_r _ [14] (by decide +kernel) (by decide +kernel)
set_option maxRecDepth 20000 in
theorem gX7_restore_X7_copyAll : GoodIn wsX7_restore (va_wsS RX7 260 yX7_copyAll wsX7_copyAll) := goodIn_app (goodIn_of _ (by decide +kernel)) ggX7_restore_X7_copyAll
theorem dX7_restore_0 : decode cX7_restore 0 = .ok (.aload_n 0, 1) := by decide +kernel
theorem dX7_restore_1 : decode cX7_restore 1 = .ok (.getfield 264, 3) := by decide +kernel
theorem dX7_restore_4 : decode cX7_restore 4 = .ok (.ifCond .ne 10, 3) := by decide +kernel
theorem dX7_restore_7 : decode cX7_restore 7 = .ok (.aload_n 0, 1) := by decide +kernel
theorem dX7_restore_8 : decode cX7_restore 8 = .ok (.ldc 206, 2) := by decide +kernel
theorem dX7_restore_10 : decode cX7_restore 10 = .ok (.invokevirtual 78, 3) := by decide +kernel
theorem dX7_restore_13 : decode cX7_restore 13 = .ok (.ireturn, 1) := by decide +kernel
theorem dX7_restore_14 : decode cX7_restore 14 = .ok (.aload_n 0, 1) := by decide +kernel
theorem dX7_restore_15 : decode cX7_restore 15 = .ok (.getfield 13, 3) := by decide +kernel
theorem dX7_restore_18 : decode cX7_restore 18 = .ok (.aload_n 0, 1) := by decide +kernel
theorem dX7_restore_19 : decode cX7_restore 19 = .ok (.getfield 9, 3) := by decide +kernel
theorem dX7_restore_22 : decode cX7_restore 22 = .ok (.invokestatic 260, 3) := by decide +kernel
theorem dX7_restore_25 : decode cX7_restore 25 = .ok (.aload_n 0, 1) := by decide +kernel
theorem dX7_restore_26 : decode cX7_restore 26 = .ok (.getfield 9, 3) := by decide +kernel
theorem dX7_restore_29 : decode cX7_restore 29 = .ok (.iconst 0, 1) := by decide +kernel
theorem dX7_restore_30 : decode cX7_restore 30 = .ok (.iaload, 1) := by decide +kernel
theorem dX7_restore_31 : decode cX7_restore 31 = .ok (.ireturn, 1) := by decide +kernel
set_option maxRecDepth 20000 in
theorem ggX7_tell_X7_error : GoodIn wsX7_tell wsX7_error := goodIn_r _ [7, 8, 9, 10, 11, 12, 13, 14, 15, 16, 17, 18, 19, 20, 21, 22, 23, 24, 25, 26, 27, 28, 29, 30] (by decide +kernel) (by decide +kernel)
set_option maxRecDepth 20000 in
theorem gX7_tell_X7_error : GoodIn wsX7_tell (wsV RX7 78 RX7 yX7_error wsX7_error) := goodIn_app (goodIn_of _ (by decide +kernel)) ggX7_tell_X7_error
theorem dX7_tell_0 : decode cX7_tell 0 = .ok (.aload_n 0, 1) := by decide +kernel
theorem dX7_tell_1 : decode cX7_tell 1 = .ok (.getfield 9, 3) := by decide +kernel
theorem dX7_tell_4 : decode cX7_tell 4 = .ok (.iconst 5, 1) := by decide +kernel
theorem dX7_tell_5 : decode cX7_tell 5 = .ok (.iaload, 1) := by decide +kernel
theorem dX7_tell_6 : decode cX7_tell 6 = .ok (.bipush 24, 2) := by decide +kernel
theorem dX7_tell_8 : decode cX7_tell 8 = .ok (.if_icmp .ne 10, 3) := by decide +kernel
theorem dX7_tell_11 : decode cX7_tell 11 = .ok (.aload_n 0, 1) := by decide +kernel
theorem dX7_tell_12 : decode cX7_tell 12 = .ok (.ldc 82, 2) := by decide +kernel
theorem dX7_tell_14 : decode cX7_tell 14 = .ok (.invokevirtual 78, 3) := by decide +kernel
theorem dX7_tell_17 : decode cX7_tell 17 = .ok (.ireturn, 1) := by decide +kernel
theorem dX7_tell_18 : decode cX7_tell 18 = .ok (.aload_n 0, 1) := by decide +kernel
theorem dX7_tell_19 : decode cX7_tell 19 = .ok (.getfield 9, 3) := by decide +kernel
theorem dX7_tell_22 : decode cX7_tell 22 = .ok (.bipush 117, 2) := by decide +kernel
theorem dX7_tell_24 : decode cX7_tell 24 = .ok (.aload_n 0, 1) := by decide +kernel
theorem dX7_tell_25 : decode cX7_tell 25 = .ok (.getfield 9, 3) := by decide +kernel
theorem dX7_tell_28 : decode cX7_tell 28 = .ok (.iconst 5, 1) := by decide +kernel
theorem dX7_tell_29 : decode cX7_tell 29 = .ok (.iaload, 1) := by decide +kernel
theorem dX7_tell_30 : decode cX7_tell 30 = .ok (.iadd, 1) := by decide +kernel
theorem dX7_tell_31 : decode cX7_tell 31 = .ok (.iload_n 1, 1) := by decide +kernel
theorem dX7_tell_32 : decode cX7_tell 32 = .ok (.iastore, 1) := by decide +kernel
theorem dX7_tell_33 : decode cX7_tell 33 = .ok (.aload_n 0, 1) := by decide +kernel
theorem dX7_tell_34 : decode cX7_tell 34 = .ok (.getfield 9, 3) := by decide +kernel
theorem dX7_tell_37 : decode cX7_tell 37 = .ok (.iconst 5, 1) := by decide +kernel
theorem dX7_tell_38 : decode cX7_tell 38 = .ok (.dup2, 1) := by decide +kernel
theorem dX7_tell_39 : decode cX7_tell 39 = .ok (.iaload, 1) := by decide +kernel
theorem dX7_tell_40 : decode cX7_tell 40 = .ok (.iconst 1, 1) := by decide +kernel
theorem dX7_tell_41 : decode cX7_tell 41 = .ok (.iadd, 1) := by decide +kernel
theorem dX7_tell_42 : decode cX7_tell 42 = .ok (.iastore, 1) := by decide +kernel
theorem dX7_tell_43 : decode cX7_tell 43 = .ok (.aload_n 0, 1) := by decide +kernel
theorem dX7_tell_44 : decode cX7_tell 44 = .ok (.getfield 9, 3) := by decide +kernel
theorem dX7_tell_47 : decode cX7_tell 47 = .ok (.iconst 5, 1) := by decide +kernel
theorem dX7_tell_48 : decode cX7_tell 48 = .ok (.iaload, 1) := by decide +kernel
theorem dX7_tell_49 : decode cX7_tell 49 = .ok (.ireturn, 1) := by decide +kernel
set_option maxRecDepth 20000 in
theorem ggX7_check_X7_isPerson : GoodIn wsX7_check wsX7_isPerson := goodIn_r _ [6, 1, 7, 8, 5, 9, 14, 15, 16, 17, 18, 19, 20, 21, 22, 23, 24, 25, 26, 27, 28, 29, 30, 31, 32, 33, 34] (by decide +kernel) (by decide +kernel)
set_option maxRecDepth 20000 in
theorem gX7_check_X7_isPerson : GoodIn wsX7_check (wsV RX7 83 RX7 yX7_isPerson wsX7_isPerson) := goodIn_app (goodIn_of _ (by decide +kernel)) ggX7_check_X7_isPerson
set_option maxRecDepth 20000 in
theorem ggX7_check_X7_about : GoodIn wsX7_check wsX7_about := goodIn_r _ [13, 1, 14, 15, 16, 17, 18, 19, 20, 21, 22, 23, 24, 25, 26, 27, 28, 29, 30, 31, 32, 33, 34] (by decide +kernel) (by decide +kernel)
set_option maxRecDepth 20000 in
theorem gX7_check_X7_about : GoodIn wsX7_check (wsV RX7 67 RX7 yX7_about wsX7_about) := goodIn_app (goodIn_of _ (by decide +kernel)) ggX7_check_X7_about
theorem dX7_check_0 : decode cX7_check 0 = .ok (.aload_n 0, 1) := by decide +kernel
theorem dX7_check_1 : decode cX7_check 1 = .ok (.getfield 9, 3) := by decide +kernel
theorem dX7_check_4 : decode cX7_check 4 = .ok (.iconst 5, 1) := by decide +kernel
theorem dX7_check_5 : decode cX7_check 5 = .ok (.iaload, 1) := by decide +kernel
theorem dX7_check_6 : decode cX7_check 6 = .ok (.istore_n 1, 1) := by decide +kernel
theorem dX7_check_7 : decode cX7_check 7 = .ok (.aload_n 0, 1) := by decide +kernel
theorem dX7_check_8 : decode cX7_check 8 = .ok (.getfield 9, 3) := by decide +kernel
theorem dX7_check_11 : decode cX7_check 11 = .ok (.iconst 5, 1) := by decide +kernel
theorem dX7_check_12 : decode cX7_check 12 = .ok (.iconst 0, 1) := by decide +kernel
theorem dX7_check_13 : decode cX7_check 13 = .ok (.iastore, 1) := by decide +kernel
theorem dX7_check_14 : decode cX7_check 14 = .ok (.iconst 0, 1) := by decide +kernel
theorem dX7_check_15 : decode cX7_check 15 = .ok (.istore_n 2, 1) := by decide +kernel
theorem dX7_check_16 : decode cX7_check 16 = .ok (.iload_n 2, 1) := by decide +kernel
theorem dX7_check_17 : decode cX7_check 17 = .ok (.iload_n 1, 1) := by decide +kernel
theorem dX7_check_18 : decode cX7_check 18 = .ok (.if_icmp .ge 39, 3) := by decide +kernel
theorem dX7_check_21 : decode cX7_check 21 = .ok (.aload_n 0, 1) := by decide +kernel
theorem dX7_check_22 : decode cX7_check 22 = .ok (.iload_n 2, 1) := by decide +kernel
theorem dX7_check_23 : decode cX7_check 23 = .ok (.invokevirtual 83, 3) := by decide +kernel
theorem dX7_check_26 : decode cX7_check 26 = .ok (.ifCond .eq 21, 3) := by decide +kernel
theorem dX7_check_29 : decode cX7_check 29 = .ok (.aload_n 0, 1) := by decide +kernel
theorem dX7_check_30 : decode cX7_check 30 = .ok (.getfield 9, 3) := by decide +kernel
theorem dX7_check_33 : decode cX7_check 33 = .ok (.bipush 117, 2) := by decide +kernel
theorem dX7_check_35 : decode cX7_check 35 = .ok (.iload_n 2, 1) := by decide +kernel
theorem dX7_check_36 : decode cX7_check 36 = .ok (.iadd, 1) := by decide +kernel
theorem dX7_check_37 : decode cX7_check 37 = .ok (.iaload, 1) := by decide +kernel
theorem dX7_check_38 : decode cX7_check 38 = .ok (.aload_n 0, 1) := by decide +kernel
theorem dX7_check_39 : decode cX7_check 39 = .ok (.iload_n 2, 1) := by decide +kernel
theorem dX7_check_40 : decode cX7_check 40 = .ok (.iconst 2, 1) := by decide +kernel
theorem dX7_check_41 : decode cX7_check 41 = .ok (.invokevirtual 67, 3) := by decide +kernel
theorem dX7_check_44 : decode cX7_check 44 = .ok (.if_icmp .eq 7, 3) := by decide +kernel
theorem dX7_check_47 : decode cX7_check 47 = .ok (.iconst 1, 1) := by decide +kernel
theorem dX7_check_48 : decode cX7_check 48 = .ok (.iload_n 2, 1) := by decide +kernel
theorem dX7_check_49 : decode cX7_check 49 = .ok (.iadd, 1) := by decide +kernel
theorem dX7_check_50 : decode cX7_check 50 = .ok (.ireturn, 1) := by decide +kernel
theorem dX7_check_51 : decode cX7_check 51 = .ok (.iinc 2 1, 3) := by decide +kernel
theorem dX7_check_54 : decode cX7_check 54 = .ok (.goto (-38), 3) := by decide +kernel
theorem dX7_check_57 : decode cX7_check 57 = .ok (.iconst 0, 1) := by decide +kernel
theorem dX7_check_58 : decode cX7_check 58 = .ok (.ireturn, 1) := by decide +kernel
set_option maxRecDepth 20000 in
theorem ggX7_count_X7_shards : GoodIn wsX7_count wsX7_shards := goodIn_r _ [8, 1, 9, 10, 11, 7, 12, 19, 20, 21, 22, 23, 24, 25, 26, 27, 28, 29, 30, 31, 32, 33, 34, 35, 36, 37, 38, 39] (by decide +kernel) (by decide +kernel)
set_option maxRecDepth 20000 in
theorem gX7_count_X7_shards : GoodIn wsX7_count (wsV RX7 56 RX7 yX7_shards wsX7_shards) := goodIn_app (goodIn_of _ (by decide +kernel)) ggX7_count_X7_shards
set_option maxRecDepth 20000 in
theorem ggX7_count_X7_error : GoodIn wsX7_count wsX7_error := goodIn_r _ [16, 17, 18, 19, 20, 21, 22, 23, 24, 25, 26, 27, 28, 29, 30, 31, 32, 33, 34, 35, 36, 37, 38, 39] (by decide +kernel) (by decide +kernel)
set_option maxRecDepth 20000 in
theorem gX7_count_X7_error : GoodIn wsX7_count (wsV RX7 78 RX7 yX7_error wsX7_error) := goodIn_app (goodIn_of _ (by decide +kernel)) ggX7_count_X7_error
theorem dX7_count_0 : decode cX7_count 0 = .ok (.iload_n 1, 1) := by decide +kernel
theorem dX7_count_1 : decode cX7_count 1 = .ok (.tableswitch 99 0 7 #[47, 54, 61, 68, 73, 80, 87, 92], 47) := by decide +kernel
theorem dX7_count_48 : decode cX7_count 48 = .ok (.aload_n 0, 1) := by decide +kernel
theorem dX7_count_49 : decode cX7_count 49 = .ok (.getfield 9, 3) := by decide +kernel
theorem dX7_count_52 : decode cX7_count 52 = .ok (.iconst 2, 1) := by decide +kernel
theorem dX7_count_53 : decode cX7_count 53 = .ok (.iaload, 1) := by decide +kernel
theorem dX7_count_54 : decode cX7_count 54 = .ok (.ireturn, 1) := by decide +kernel
theorem dX7_count_55 : decode cX7_count 55 = .ok (.aload_n 0, 1) := by decide +kernel
theorem dX7_count_56 : decode cX7_count 56 = .ok (.getfield 9, 3) := by decide +kernel
theorem dX7_count_59 : decode cX7_count 59 = .ok (.iconst 3, 1) := by decide +kernel
theorem dX7_count_60 : decode cX7_count 60 = .ok (.iaload, 1) := by decide +kernel
theorem dX7_count_61 : decode cX7_count 61 = .ok (.ireturn, 1) := by decide +kernel
theorem dX7_count_62 : decode cX7_count 62 = .ok (.aload_n 0, 1) := by decide +kernel
theorem dX7_count_63 : decode cX7_count 63 = .ok (.getfield 9, 3) := by decide +kernel
theorem dX7_count_66 : decode cX7_count 66 = .ok (.iconst 0, 1) := by decide +kernel
theorem dX7_count_67 : decode cX7_count 67 = .ok (.iaload, 1) := by decide +kernel
theorem dX7_count_68 : decode cX7_count 68 = .ok (.ireturn, 1) := by decide +kernel
theorem dX7_count_69 : decode cX7_count 69 = .ok (.aload_n 0, 1) := by decide +kernel
theorem dX7_count_70 : decode cX7_count 70 = .ok (.invokevirtual 56, 3) := by decide +kernel
theorem dX7_count_73 : decode cX7_count 73 = .ok (.ireturn, 1) := by decide +kernel
theorem dX7_count_74 : decode cX7_count 74 = .ok (.aload_n 0, 1) := by decide +kernel
theorem dX7_count_75 : decode cX7_count 75 = .ok (.getfield 9, 3) := by decide +kernel
theorem dX7_count_78 : decode cX7_count 78 = .ok (.iconst 4, 1) := by decide +kernel
theorem dX7_count_79 : decode cX7_count 79 = .ok (.iaload, 1) := by decide +kernel
theorem dX7_count_80 : decode cX7_count 80 = .ok (.ireturn, 1) := by decide +kernel
theorem dX7_count_81 : decode cX7_count 81 = .ok (.aload_n 0, 1) := by decide +kernel
theorem dX7_count_82 : decode cX7_count 82 = .ok (.getfield 9, 3) := by decide +kernel
theorem dX7_count_85 : decode cX7_count 85 = .ok (.iconst 5, 1) := by decide +kernel
theorem dX7_count_86 : decode cX7_count 86 = .ok (.iaload, 1) := by decide +kernel
theorem dX7_count_87 : decode cX7_count 87 = .ok (.ireturn, 1) := by decide +kernel
theorem dX7_count_88 : decode cX7_count 88 = .ok (.aload_n 0, 1) := by decide +kernel
theorem dX7_count_89 : decode cX7_count 89 = .ok (.getfield 213, 3) := by decide +kernel
theorem dX7_count_92 : decode cX7_count 92 = .ok (.ireturn, 1) := by decide +kernel
theorem dX7_count_93 : decode cX7_count 93 = .ok (.aload_n 0, 1) := by decide +kernel
theorem dX7_count_94 : decode cX7_count 94 = .ok (.getfield 9, 3) := by decide +kernel
theorem dX7_count_97 : decode cX7_count 97 = .ok (.iconst 1, 1) := by decide +kernel
theorem dX7_count_98 : decode cX7_count 98 = .ok (.iaload, 1) := by decide +kernel
theorem dX7_count_99 : decode cX7_count 99 = .ok (.ireturn, 1) := by decide +kernel
theorem dX7_count_100 : decode cX7_count 100 = .ok (.aload_n 0, 1) := by decide +kernel
theorem dX7_count_101 : decode cX7_count 101 = .ok (.ldc 77, 2) := by decide +kernel
theorem dX7_count_103 : decode cX7_count 103 = .ok (.invokevirtual 78, 3) := by decide +kernel
theorem dX7_count_106 : decode cX7_count 106 = .ok (.ireturn, 1) := by decide +kernel
set_option maxRecDepth 20000 in
theorem ggX7_told_X7_in : GoodIn wsX7_told wsX7_in := goodIn_r _ [6] (by decide +kernel) (by decide +kernel)
set_option maxRecDepth 20000 in
theorem gX7_told_X7_in : GoodIn wsX7_told (va_wsS RX7 48 yX7_in wsX7_in) := goodIn_app (goodIn_of _ (by decide +kernel)) ggX7_told_X7_in
set_option maxRecDepth 20000 in
theorem ggX7_told_X7_error : GoodIn wsX7_told wsX7_error := goodIn_r _ [10, 1, 11, 12, 13, 14, 15, 16, 17, 18, 19, 20, 21, 22, 23, 24, 25, 26, 27, 28, 29, 30, 31, 32] (by decide +kernel) (by decide +kernel)
set_option maxRecDepth 20000 in
theorem gX7_told_X7_error : GoodIn wsX7_told (wsV RX7 78 RX7 yX7_error wsX7_error) := goodIn_app (goodIn_of _ (by decide +kernel)) ggX7_told_X7_error
theorem dX7_told_0 : decode cX7_told 0 = .ok (.iload_n 1, 1) := by decide +kernel
theorem dX7_told_1 : decode cX7_told 1 = .ok (.iconst 1, 1) := by decide +kernel
theorem dX7_told_2 : decode cX7_told 2 = .ok (.bipush 6, 2) := by decide +kernel
theorem dX7_told_4 : decode cX7_told 4 = .ok (.invokestatic 48, 3) := by decide +kernel
theorem dX7_told_7 : decode cX7_told 7 = .ok (.ifCond .eq 12, 3) := by decide +kernel
theorem dX7_told_10 : decode cX7_told 10 = .ok (.aload_n 0, 1) := by decide +kernel
theorem dX7_told_11 : decode cX7_told 11 = .ok (.getfield 16, 3) := by decide +kernel
theorem dX7_told_14 : decode cX7_told 14 = .ok (.iload_n 1, 1) := by decide +kernel
theorem dX7_told_15 : decode cX7_told 15 = .ok (.iaload, 1) := by decide +kernel
theorem dX7_told_16 : decode cX7_told 16 = .ok (.goto 9, 3) := by decide +kernel
theorem dX7_told_19 : decode cX7_told 19 = .ok (.aload_n 0, 1) := by decide +kernel
theorem dX7_told_20 : decode cX7_told 20 = .ok (.ldc 77, 2) := by decide +kernel
theorem dX7_told_22 : decode cX7_told 22 = .ok (.invokevirtual 78, 3) := by decide +kernel
theorem dX7_told_25 : decode cX7_told 25 = .ok (.ireturn, 1) := by decide +kernel
theorem dJ6_bitCount_0f7a4_0 : decode cJ6_bitCount_0f7a4 0 = .ok (.iload_n 0, 1) := by decide +kernel
theorem dJ6_bitCount_0f7a4_1 : decode cJ6_bitCount_0f7a4 1 = .ok (.iload_n 0, 1) := by decide +kernel
theorem dJ6_bitCount_0f7a4_2 : decode cJ6_bitCount_0f7a4 2 = .ok (.iconst 1, 1) := by decide +kernel
theorem dJ6_bitCount_0f7a4_3 : decode cJ6_bitCount_0f7a4 3 = .ok (.iushr, 1) := by decide +kernel
theorem dJ6_bitCount_0f7a4_4 : decode cJ6_bitCount_0f7a4 4 = .ok (.ldc_w 265, 3) := by decide +kernel
theorem dJ6_bitCount_0f7a4_7 : decode cJ6_bitCount_0f7a4 7 = .ok (.iand, 1) := by decide +kernel
theorem dJ6_bitCount_0f7a4_8 : decode cJ6_bitCount_0f7a4 8 = .ok (.isub, 1) := by decide +kernel
theorem dJ6_bitCount_0f7a4_9 : decode cJ6_bitCount_0f7a4 9 = .ok (.istore_n 0, 1) := by decide +kernel
theorem dJ6_bitCount_0f7a4_10 : decode cJ6_bitCount_0f7a4 10 = .ok (.iload_n 0, 1) := by decide +kernel
theorem dJ6_bitCount_0f7a4_11 : decode cJ6_bitCount_0f7a4 11 = .ok (.ldc_w 266, 3) := by decide +kernel
theorem dJ6_bitCount_0f7a4_14 : decode cJ6_bitCount_0f7a4 14 = .ok (.iand, 1) := by decide +kernel
theorem dJ6_bitCount_0f7a4_15 : decode cJ6_bitCount_0f7a4 15 = .ok (.iload_n 0, 1) := by decide +kernel
theorem dJ6_bitCount_0f7a4_16 : decode cJ6_bitCount_0f7a4 16 = .ok (.iconst 2, 1) := by decide +kernel
theorem dJ6_bitCount_0f7a4_17 : decode cJ6_bitCount_0f7a4 17 = .ok (.iushr, 1) := by decide +kernel
theorem dJ6_bitCount_0f7a4_18 : decode cJ6_bitCount_0f7a4 18 = .ok (.ldc_w 266, 3) := by decide +kernel
theorem dJ6_bitCount_0f7a4_21 : decode cJ6_bitCount_0f7a4 21 = .ok (.iand, 1) := by decide +kernel
theorem dJ6_bitCount_0f7a4_22 : decode cJ6_bitCount_0f7a4 22 = .ok (.iadd, 1) := by decide +kernel
theorem dJ6_bitCount_0f7a4_23 : decode cJ6_bitCount_0f7a4 23 = .ok (.istore_n 0, 1) := by decide +kernel
theorem dJ6_bitCount_0f7a4_24 : decode cJ6_bitCount_0f7a4 24 = .ok (.iload_n 0, 1) := by decide +kernel
theorem dJ6_bitCount_0f7a4_25 : decode cJ6_bitCount_0f7a4 25 = .ok (.iload_n 0, 1) := by decide +kernel
theorem dJ6_bitCount_0f7a4_26 : decode cJ6_bitCount_0f7a4 26 = .ok (.iconst 4, 1) := by decide +kernel
theorem dJ6_bitCount_0f7a4_27 : decode cJ6_bitCount_0f7a4 27 = .ok (.iushr, 1) := by decide +kernel
theorem dJ6_bitCount_0f7a4_28 : decode cJ6_bitCount_0f7a4 28 = .ok (.iadd, 1) := by decide +kernel
theorem dJ6_bitCount_0f7a4_29 : decode cJ6_bitCount_0f7a4 29 = .ok (.ldc_w 267, 3) := by decide +kernel
theorem dJ6_bitCount_0f7a4_32 : decode cJ6_bitCount_0f7a4 32 = .ok (.iand, 1) := by decide +kernel
theorem dJ6_bitCount_0f7a4_33 : decode cJ6_bitCount_0f7a4 33 = .ok (.istore_n 0, 1) := by decide +kernel
theorem dJ6_bitCount_0f7a4_34 : decode cJ6_bitCount_0f7a4 34 = .ok (.iload_n 0, 1) := by decide +kernel
theorem dJ6_bitCount_0f7a4_35 : decode cJ6_bitCount_0f7a4 35 = .ok (.iload_n 0, 1) := by decide +kernel
theorem dJ6_bitCount_0f7a4_36 : decode cJ6_bitCount_0f7a4 36 = .ok (.bipush 8, 2) := by decide +kernel
theorem dJ6_bitCount_0f7a4_38 : decode cJ6_bitCount_0f7a4 38 = .ok (.iushr, 1) := by decide +kernel
theorem dJ6_bitCount_0f7a4_39 : decode cJ6_bitCount_0f7a4 39 = .ok (.iadd, 1) := by decide +kernel
theorem dJ6_bitCount_0f7a4_40 : decode cJ6_bitCount_0f7a4 40 = .ok (.istore_n 0, 1) := by decide +kernel
theorem dJ6_bitCount_0f7a4_41 : decode cJ6_bitCount_0f7a4 41 = .ok (.iload_n 0, 1) := by decide +kernel
theorem dJ6_bitCount_0f7a4_42 : decode cJ6_bitCount_0f7a4 42 = .ok (.iload_n 0, 1) := by decide +kernel
theorem dJ6_bitCount_0f7a4_43 : decode cJ6_bitCount_0f7a4 43 = .ok (.bipush 16, 2) := by decide +kernel
theorem dJ6_bitCount_0f7a4_45 : decode cJ6_bitCount_0f7a4 45 = .ok (.iushr, 1) := by decide +kernel
theorem dJ6_bitCount_0f7a4_46 : decode cJ6_bitCount_0f7a4 46 = .ok (.iadd, 1) := by decide +kernel
theorem dJ6_bitCount_0f7a4_47 : decode cJ6_bitCount_0f7a4 47 = .ok (.istore_n 0, 1) := by decide +kernel
theorem dJ6_bitCount_0f7a4_48 : decode cJ6_bitCount_0f7a4 48 = .ok (.iload_n 0, 1) := by decide +kernel
theorem dJ6_bitCount_0f7a4_49 : decode cJ6_bitCount_0f7a4 49 = .ok (.bipush 63, 2) := by decide +kernel
theorem dJ6_bitCount_0f7a4_51 : decode cJ6_bitCount_0f7a4 51 = .ok (.iand, 1) := by decide +kernel
theorem dJ6_bitCount_0f7a4_52 : decode cJ6_bitCount_0f7a4 52 = .ok (.ireturn, 1) := by decide +kernel
theorem dJ9_max_7cf53_0 : decode cJ9_max_7cf53 0 = .ok (.iload_n 0, 1) := by decide +kernel
theorem dJ9_max_7cf53_1 : decode cJ9_max_7cf53 1 = .ok (.iload_n 1, 1) := by decide +kernel
theorem dJ9_max_7cf53_2 : decode cJ9_max_7cf53 2 = .ok (.if_icmp .lt 7, 3) := by decide +kernel
theorem dJ9_max_7cf53_5 : decode cJ9_max_7cf53 5 = .ok (.iload_n 0, 1) := by decide +kernel
theorem dJ9_max_7cf53_6 : decode cJ9_max_7cf53 6 = .ok (.goto 4, 3) := by decide +kernel
theorem dJ9_max_7cf53_9 : decode cJ9_max_7cf53 9 = .ok (.iload_n 1, 1) := by decide +kernel
theorem dJ9_max_7cf53_10 : decode cJ9_max_7cf53 10 = .ok (.ireturn, 1) := by decide +kernel
theorem dJ9_min_7cf53_0 : decode cJ9_min_7cf53 0 = .ok (.iload_n 0, 1) := by decide +kernel
theorem dJ9_min_7cf53_1 : decode cJ9_min_7cf53 1 = .ok (.iload_n 1, 1) := by decide +kernel
theorem dJ9_min_7cf53_2 : decode cJ9_min_7cf53 2 = .ok (.if_icmp .gt 7, 3) := by decide +kernel
theorem dJ9_min_7cf53_5 : decode cJ9_min_7cf53 5 = .ok (.iload_n 0, 1) := by decide +kernel
theorem dJ9_min_7cf53_6 : decode cJ9_min_7cf53 6 = .ok (.goto 4, 3) := by decide +kernel
theorem dJ9_min_7cf53_9 : decode cJ9_min_7cf53 9 = .ok (.iload_n 1, 1) := by decide +kernel
theorem dJ9_min_7cf53_10 : decode cJ9_min_7cf53 10 = .ok (.ireturn, 1) := by decide +kernel
set_option maxRecDepth 20000 in
theorem ggL_law_X6_init : GoodIn wsL_law wsX6_init := goodIn_r _ [9, 10, 11, 12, 13, 14, 15, 16, 17, 18, 19, 20, 21, 22, 23, 24, 25, 26, 27, 28, 29, 30, 31, 32, 33, 34, 35, 36, 37, 38, 39, 40, 41, 42, 43, 44, 45, 46, 47, 48, 49, 50, 51, 52, 53, 54, 55, 56, 57, 58, 59, 60, 61, 62, 63, 64, 65, 66, 67, 68, 69, 70, 71, 72, 73, 74, 75, 76, 77, 78, 79, 80, 81, 1030, 1031, 1032, 1033, 1034, 1035, 1036, 1037, 1038, 1039, 1040, 1041, 1042, 1043, 1044, 1045, 1001, 1002, 1003, 1004, 1005, 1006, 1007, 1008, 1046, 1047, 1048, 1049, 1050, 1051, 1052, 1053, 1054, 1055, 1056, 1057, 1058, 1059, 1060, 1061, 1062, 1063, 1064, 1065, 1066] (by decide +kernel) (by decide +kernel)
set_option maxRecDepth 20000 in
theorem gL_law_X6_init : GoodIn wsL_law (wsX6_init) := ggL_law_X6_init
set_option maxRecDepth 20000 in
theorem ggL_law_X7_init : GoodIn wsL_law wsX7_init := goodIn_r _ [84, 85, 11, 12, 30, 86, 87, 88, 89, 90, 91, 92, 93, 94, 95, 70, 96, 97, 1009, 1010, 1011, 1012, 1013, 1014, 1015, 1016, 1017, 1018, 1019, 1020, 1021, 1022, 1023, 1024, 1025, 1026, 1027, 1028, 1029] (by decide +kernel) (by decide +kernel)
set_option maxRecDepth 20000 in
theorem gL_law_X7_init : GoodIn wsL_law (wsX7_init) := ggL_law_X7_init
set_option maxRecDepth 20000 in
theorem ggL_law_X6_person : GoodIn wsL_law wsX6_person := goodIn_r _ [101, 16, 102, 103, 104, 2, 105, 106, 107, 108, 109, 31, 110, 111, 112, 113, 15, 114, 115, 41, 42, 43, 1001, 1002, 1003, 1004, 1005, 1006, 1007, 1008, 1030, 1031, 1032, 1033, 1034, 1035, 1036, 1037, 1038, 1039, 1040, 1041, 1042, 1043, 1044, 1045] (by decide +kernel) (by decide +kernel)
set_option maxRecDepth 20000 in
theorem gL_law_X6_person : GoodIn wsL_law (wsV RL 13 RX6 yX6_person wsX6_person) := goodIn_app (goodIn_of _ (by decide +kernel)) ggL_law_X6_person
set_option maxRecDepth 20000 in
theorem ggL_law_X7_person : GoodIn wsL_law wsX7_person := goodIn_r _ [119, 120, 86, 121, 122, 123, 5, 124, 125, 126, 127, 128, 88, 129, 1009, 1010, 1011, 1012, 1013, 1014, 1015, 1016, 1017, 1018, 1019, 1020, 1021, 1022, 1023, 1024, 1025, 1026, 1027, 1028, 1029] (by decide +kernel) (by decide +kernel)
set_option maxRecDepth 20000 in
theorem gL_law_X7_person : GoodIn wsL_law (wsV RL 17 RX7 yX7_person wsX7_person) := goodIn_app (goodIn_of _ (by decide +kernel)) ggL_law_X7_person
set_option maxRecDepth 20000 in
theorem ggL_law_X6_personIs : GoodIn wsL_law wsX6_personIs := goodIn_r _ [133, 16, 134, 135, 136, 137, 138, 139, 15, 140, 115, 106, 107, 108, 2, 109, 31, 110, 141, 142, 143, 144, 43, 42, 145, 146, 147, 148, 149, 150, 151, 152, 153, 154, 155, 156, 157, 158, 159, 160, 161, 162, 163, 164, 47, 165, 166, 167, 168, 51, 169, 170, 171, 53, 172, 173, 174, 175, 176, 177, 58, 59, 178, 179, 180, 181, 182, 183, 184, 185, 186, 187, 188, 189, 1001, 1002, 1003, 1004, 1005, 1006, 1007, 1008, 1030, 1031, 1032, 1033, 1034, 1035, 1036, 1037, 1038, 1039, 1040, 1041, 1042, 1043, 1044, 1045, 1064, 1065, 1066] (by decide +kernel) (by decide +kernel)
set_option maxRecDepth 20000 in
theorem gL_law_X6_personIs : GoodIn wsL_law (wsV RL 18 RX6 yX6_personIs wsX6_personIs) := goodIn_app (goodIn_of _ (by decide +kernel)) ggL_law_X6_personIs
set_option maxRecDepth 20000 in
theorem ggL_law_X7_personIs : GoodIn wsL_law wsX7_personIs := goodIn_r _ [193, 120, 194, 195, 196, 5, 197, 86, 122, 123, 124, 125, 126, 127, 128, 88, 129, 198, 199, 200, 201, 202, 203, 204, 205, 206, 207, 208, 209, 210, 211, 212, 213, 214, 215, 216, 217, 218, 219, 220, 221, 94, 222, 223, 224, 225, 95, 226, 227, 228, 229, 230, 231, 1009, 1010, 1011, 1012, 1013, 1014, 1015, 1016, 1017, 1018, 1019, 1020, 1021, 1022, 1023, 1024, 1025, 1026, 1027, 1028, 1029] (by decide +kernel) (by decide +kernel)
set_option maxRecDepth 20000 in
theorem gL_law_X7_personIs : GoodIn wsL_law (wsV RL 21 RX7 yX7_personIs wsX7_personIs) := goodIn_app (goodIn_of _ (by decide +kernel)) ggL_law_X7_personIs
set_option maxRecDepth 20000 in
theorem ggL_law_X6_piece : GoodIn wsL_law wsX6_piece := goodIn_r _ [235, 16, 236, 103, 104, 2, 105, 137, 138, 139, 15, 140, 115, 106, 107, 108, 109, 31, 110, 237, 238, 239, 240, 164, 46, 47, 241, 242, 243, 244, 44, 45, 1001, 1002, 1003, 1004, 1005, 1006, 1007, 1008, 1030, 1031, 1032, 1033, 1034, 1035, 1036, 1037, 1038, 1039, 1040, 1041, 1042, 1043, 1044, 1045] (by decide +kernel) (by decide +kernel)
set_option maxRecDepth 20000 in
theorem gL_law_X6_piece : GoodIn wsL_law (wsV RL 22 RX6 yX6_piece wsX6_piece) := goodIn_app (goodIn_of _ (by decide +kernel)) ggL_law_X6_piece
set_option maxRecDepth 20000 in
theorem ggL_law_X7_piece : GoodIn wsL_law wsX7_piece := goodIn_r _ [248, 120, 86, 121, 249, 250, 5, 251, 122, 123, 124, 194, 195, 196, 197, 125, 126, 127, 128, 88, 129, 252, 253, 254, 255, 1009, 1010, 1011, 1012, 1013, 1014, 1015, 1016, 1017, 1018, 1019, 1020, 1021, 1022, 1023, 1024, 1025, 1026, 1027, 1028, 1029] (by decide +kernel) (by decide +kernel)
set_option maxRecDepth 20000 in
theorem gL_law_X7_piece : GoodIn wsL_law (wsV RL 25 RX7 yX7_piece wsX7_piece) := goodIn_app (goodIn_of _ (by decide +kernel)) ggL_law_X7_piece
set_option maxRecDepth 20000 in
theorem ggL_law_X6_pieceIs : GoodIn wsL_law wsX6_pieceIs := goodIn_r _ [259, 16, 260, 261, 262, 263, 264, 265, 266, 267, 15, 268, 164, 106, 107, 108, 2, 109, 31, 110, 269, 270, 271, 272, 45, 44, 160, 161, 162, 163, 47, 146, 147, 145, 273, 274, 275, 276, 41, 277, 278, 279, 280, 281, 282, 283, 284, 285, 165, 166, 167, 168, 51, 169, 170, 171, 53, 172, 173, 174, 175, 176, 177, 58, 59, 178, 179, 180, 181, 182, 183, 184, 185, 186, 187, 158, 188, 189, 157, 159, 1001, 1002, 1003, 1004, 1005, 1006, 1007, 1008, 1030, 1031, 1032, 1033, 1034, 1035, 1036, 1037, 1038, 1039, 1040, 1041, 1042, 1043, 1044, 1045, 1064, 1065, 1066] (by decide +kernel) (by decide +kernel)
set_option maxRecDepth 20000 in
theorem gL_law_X6_pieceIs : GoodIn wsL_law (wsV RL 26 RX6 yX6_pieceIs wsX6_pieceIs) := goodIn_app (goodIn_of _ (by decide +kernel)) ggL_law_X6_pieceIs
set_option maxRecDepth 20000 in
theorem ggL_law_X7_pieceIs : GoodIn wsL_law wsX7_pieceIs := goodIn_r _ [289, 120, 290, 291, 292, 5, 293, 86, 122, 123, 124, 125, 126, 127, 128, 88, 129, 214, 215, 216, 217, 294, 295, 296, 297, 198, 199, 200, 201, 298, 299, 300, 301, 302, 303, 304, 305, 210, 211, 212, 213, 218, 219, 220, 221, 94, 222, 223, 224, 225, 95, 226, 227, 228, 229, 230, 231, 306, 307, 308, 309, 310, 311, 312, 313, 1009, 1010, 1011, 1012, 1013, 1014, 1015, 1016, 1017, 1018, 1019, 1020, 1021, 1022, 1023, 1024, 1025, 1026, 1027, 1028, 1029] (by decide +kernel) (by decide +kernel)
set_option maxRecDepth 20000 in
theorem gL_law_X7_pieceIs : GoodIn wsL_law (wsV RL 29 RX7 yX7_pieceIs wsX7_pieceIs) := goodIn_app (goodIn_of _ (by decide +kernel)) ggL_law_X7_pieceIs
set_option maxRecDepth 20000 in
theorem ggL_law_X6_become : GoodIn wsL_law wsX6_become := goodIn_r _ [317, 16, 260, 265, 266, 267, 15, 268, 164, 103, 104, 2, 105, 106, 107, 108, 109, 31, 110, 318, 242, 243, 244, 44, 45, 1001, 1002, 1003, 1004, 1005, 1006, 1007, 1008, 1030, 1031, 1032, 1033, 1034, 1035, 1036, 1037, 1038, 1039, 1040, 1041, 1042, 1043, 1044, 1045] (by decide +kernel) (by decide +kernel)
set_option maxRecDepth 20000 in
theorem gL_law_X6_become : GoodIn wsL_law (wsV RL 30 RX6 yX6_become wsX6_become) := goodIn_app (goodIn_of _ (by decide +kernel)) ggL_law_X6_become
set_option maxRecDepth 20000 in
theorem ggL_law_X7_become : GoodIn wsL_law wsX7_become := goodIn_r _ [322, 120, 290, 291, 292, 5, 293, 86, 122, 123, 124, 249, 250, 251, 125, 126, 127, 128, 88, 129, 252, 253, 254, 255, 323, 324, 325, 326, 1009, 1010, 1011, 1012, 1013, 1014, 1015, 1016, 1017, 1018, 1019, 1020, 1021, 1022, 1023, 1024, 1025, 1026, 1027, 1028, 1029] (by decide +kernel) (by decide +kernel)
set_option maxRecDepth 20000 in
theorem gL_law_X7_become : GoodIn wsL_law (wsV RL 33 RX7 yX7_become wsX7_become) := goodIn_app (goodIn_of _ (by decide +kernel)) ggL_law_X7_become
set_option maxRecDepth 20000 in
theorem ggL_law_X6_as : GoodIn wsL_law wsX6_as := goodIn_r _ [330, 16, 260, 261, 265, 266, 267, 15, 268, 164, 103, 104, 2, 105, 106, 107, 108, 109, 31, 110, 331, 332, 333, 334, 1001, 1002, 1003, 1004, 1005, 1006, 1007, 1008, 1030, 1031, 1032, 1033, 1034, 1035, 1036, 1037, 1038, 1039, 1040, 1041, 1042, 1043, 1044, 1045] (by decide +kernel) (by decide +kernel)
set_option maxRecDepth 20000 in
theorem gL_law_X6_as : GoodIn wsL_law (wsV RL 34 RX6 yX6_as wsX6_as) := goodIn_app (goodIn_of _ (by decide +kernel)) ggL_law_X6_as
set_option maxRecDepth 20000 in
theorem ggL_law_X7_as : GoodIn wsL_law wsX7_as := goodIn_r _ [338, 120, 339, 290, 291, 292, 5, 293, 86, 122, 123, 124, 125, 126, 127, 128, 88, 129, 214, 215, 216, 217, 1009, 1010, 1011, 1012, 1013, 1014, 1015, 1016, 1017, 1018, 1019, 1020, 1021, 1022, 1023, 1024, 1025, 1026, 1027, 1028, 1029] (by decide +kernel) (by decide +kernel)
set_option maxRecDepth 20000 in
theorem gL_law_X7_as : GoodIn wsL_law (wsV RL 37 RX7 yX7_as wsX7_as) := goodIn_app (goodIn_of _ (by decide +kernel)) ggL_law_X7_as
set_option maxRecDepth 20000 in
theorem ggL_law_X6_minds : GoodIn wsL_law wsX6_minds := goodIn_r _ [343, 16, 134, 137, 138, 139, 15, 140, 115, 103, 104, 2, 105, 106, 107, 108, 109, 31, 110, 1001, 1002, 1003, 1004, 1005, 1006, 1007, 1008, 1030, 1031, 1032, 1033, 1034, 1035, 1036, 1037, 1038, 1039, 1040, 1041, 1042, 1043, 1044, 1045] (by decide +kernel) (by decide +kernel)
set_option maxRecDepth 20000 in
theorem gL_law_X6_minds : GoodIn wsL_law (wsV RL 38 RX6 yX6_minds wsX6_minds) := goodIn_app (goodIn_of _ (by decide +kernel)) ggL_law_X6_minds
set_option maxRecDepth 20000 in
theorem ggL_law_X7_minds : GoodIn wsL_law wsX7_minds := goodIn_r _ [347, 120, 194, 195, 196, 5, 197, 86, 122, 123, 124, 323, 324, 325, 326, 125, 126, 127, 128, 88, 129, 1009, 1010, 1011, 1012, 1013, 1014, 1015, 1016, 1017, 1018, 1019, 1020, 1021, 1022, 1023, 1024, 1025, 1026, 1027, 1028, 1029] (by decide +kernel) (by decide +kernel)
set_option maxRecDepth 20000 in
theorem gL_law_X7_minds : GoodIn wsL_law (wsV RL 41 RX7 yX7_minds wsX7_minds) := goodIn_app (goodIn_of _ (by decide +kernel)) ggL_law_X7_minds
set_option maxRecDepth 20000 in
theorem ggL_law_X6_lend : GoodIn wsL_law wsX6_lend := goodIn_r _ [351, 16, 262, 265, 266, 267, 15, 268, 164, 137, 138, 139, 140, 115, 106, 107, 108, 2, 109, 31, 110, 1001, 1002, 1003, 1004, 1005, 1006, 1007, 1008, 1030, 1031, 1032, 1033, 1034, 1035, 1036, 1037, 1038, 1039, 1040, 1041, 1042, 1043, 1044, 1045] (by decide +kernel) (by decide +kernel)
set_option maxRecDepth 20000 in
theorem gL_law_X6_lend : GoodIn wsL_law (wsV RL 42 RX6 yX6_lend wsX6_lend) := goodIn_app (goodIn_of _ (by decide +kernel)) ggL_law_X6_lend
set_option maxRecDepth 20000 in
theorem ggL_law_X7_lend : GoodIn wsL_law wsX7_lend := goodIn_r _ [355, 120, 290, 291, 292, 5, 293, 86, 122, 123, 124, 194, 195, 196, 197, 323, 324, 325, 326, 125, 126, 127, 128, 88, 129, 1009, 1010, 1011, 1012, 1013, 1014, 1015, 1016, 1017, 1018, 1019, 1020, 1021, 1022, 1023, 1024, 1025, 1026, 1027, 1028, 1029] (by decide +kernel) (by decide +kernel)
set_option maxRecDepth 20000 in
theorem gL_law_X7_lend : GoodIn wsL_law (wsV RL 45 RX7 yX7_lend wsX7_lend) := goodIn_app (goodIn_of _ (by decide +kernel)) ggL_law_X7_lend
set_option maxRecDepth 20000 in
theorem ggL_law_X6_wall : GoodIn wsL_law wsX6_wall := goodIn_r _ [359, 16, 263, 265, 266, 267, 15, 268, 164, 103, 104, 2, 105, 106, 107, 108, 109, 31, 110, 145, 146, 147, 1001, 1002, 1003, 1004, 1005, 1006, 1007, 1008, 1030, 1031, 1032, 1033, 1034, 1035, 1036, 1037, 1038, 1039, 1040, 1041, 1042, 1043, 1044, 1045] (by decide +kernel) (by decide +kernel)
set_option maxRecDepth 20000 in
theorem gL_law_X6_wall : GoodIn wsL_law (wsV RL 46 RX6 yX6_wall wsX6_wall) := goodIn_app (goodIn_of _ (by decide +kernel)) ggL_law_X6_wall
set_option maxRecDepth 20000 in
theorem ggL_law_X7_wall : GoodIn wsL_law wsX7_wall := goodIn_r _ [363, 120, 364, 290, 291, 292, 5, 293, 86, 122, 123, 124, 125, 126, 127, 128, 88, 129, 214, 215, 216, 217, 252, 253, 254, 255, 1009, 1010, 1011, 1012, 1013, 1014, 1015, 1016, 1017, 1018, 1019, 1020, 1021, 1022, 1023, 1024, 1025, 1026, 1027, 1028, 1029] (by decide +kernel) (by decide +kernel)
set_option maxRecDepth 20000 in
theorem gL_law_X7_wall : GoodIn wsL_law (wsV RL 49 RX7 yX7_wall wsX7_wall) := goodIn_app (goodIn_of _ (by decide +kernel)) ggL_law_X7_wall
set_option maxRecDepth 20000 in
theorem ggL_law_X6_risk : GoodIn wsL_law wsX6_risk := goodIn_r _ [368, 16, 265, 266, 267, 15, 268, 164, 137, 138, 139, 140, 115, 106, 107, 108, 2, 109, 31, 110, 273, 274, 275, 276, 41, 277, 278, 279, 280, 281, 282, 283, 284, 285, 45, 44, 160, 161, 162, 163, 47, 146, 147, 165, 166, 167, 168, 51, 169, 170, 171, 53, 172, 173, 174, 175, 176, 177, 58, 59, 178, 179, 180, 181, 182, 183, 184, 185, 186, 187, 158, 188, 189, 157, 159, 1001, 1002, 1003, 1004, 1005, 1006, 1007, 1008, 1030, 1031, 1032, 1033, 1034, 1035, 1036, 1037, 1038, 1039, 1040, 1041, 1042, 1043, 1044, 1045, 1064, 1065, 1066] (by decide +kernel) (by decide +kernel)
set_option maxRecDepth 20000 in
theorem gL_law_X6_risk : GoodIn wsL_law (wsV RL 50 RX6 yX6_risk wsX6_risk) := goodIn_app (goodIn_of _ (by decide +kernel)) ggL_law_X6_risk
set_option maxRecDepth 20000 in
theorem ggL_law_X7_risk : GoodIn wsL_law wsX7_risk := goodIn_r _ [372, 120, 290, 291, 292, 5, 293, 86, 122, 123, 124, 194, 195, 196, 197, 294, 295, 296, 297, 198, 199, 200, 201, 298, 299, 300, 301, 302, 303, 304, 305, 214, 215, 216, 217, 210, 211, 212, 213, 218, 219, 220, 221, 94, 222, 223, 224, 225, 95, 226, 227, 228, 229, 230, 231, 125, 126, 127, 128, 88, 129, 1009, 1010, 1011, 1012, 1013, 1014, 1015, 1016, 1017, 1018, 1019, 1020, 1021, 1022, 1023, 1024, 1025, 1026, 1027, 1028, 1029] (by decide +kernel) (by decide +kernel)
set_option maxRecDepth 20000 in
theorem gL_law_X7_risk : GoodIn wsL_law (wsV RL 53 RX7 yX7_risk wsX7_risk) := goodIn_app (goodIn_of _ (by decide +kernel)) ggL_law_X7_risk
set_option maxRecDepth 20000 in
theorem ggL_law_X6_drop : GoodIn wsL_law wsX6_drop := goodIn_r _ [376, 16, 263, 265, 266, 267, 15, 268, 164, 106, 107, 108, 2, 109, 31, 110, 377, 378, 379, 380, 281, 46, 43, 47, 381, 270, 271, 272, 45, 44, 160, 161, 162, 163, 146, 147, 145, 1001, 1002, 1003, 1004, 1005, 1006, 1007, 1008, 1030, 1031, 1032, 1033, 1034, 1035, 1036, 1037, 1038, 1039, 1040, 1041, 1042, 1043, 1044, 1045] (by decide +kernel) (by decide +kernel)
set_option maxRecDepth 20000 in
theorem gL_law_X6_drop : GoodIn wsL_law (wsV RL 54 RX6 yX6_drop wsX6_drop) := goodIn_app (goodIn_of _ (by decide +kernel)) ggL_law_X6_drop
set_option maxRecDepth 20000 in
theorem ggL_law_X7_drop : GoodIn wsL_law wsX7_drop := goodIn_r _ [385, 120, 364, 290, 291, 292, 5, 293, 86, 122, 123, 124, 125, 126, 127, 128, 88, 129, 214, 215, 216, 217, 386, 387, 388, 389, 306, 307, 308, 309, 310, 311, 312, 313, 210, 211, 212, 213, 229, 230, 231, 252, 253, 254, 255, 1009, 1010, 1011, 1012, 1013, 1014, 1015, 1016, 1017, 1018, 1019, 1020, 1021, 1022, 1023, 1024, 1025, 1026, 1027, 1028, 1029] (by decide +kernel) (by decide +kernel)
set_option maxRecDepth 20000 in
theorem gL_law_X7_drop : GoodIn wsL_law (wsV RL 58 RX7 yX7_drop wsX7_drop) := goodIn_app (goodIn_of _ (by decide +kernel)) ggL_law_X7_drop
set_option maxRecDepth 20000 in
theorem ggL_law_X6_feed : GoodIn wsL_law wsX6_feed := goodIn_r _ [393, 16, 394, 106, 107, 108, 2, 109, 31, 110, 395, 396, 397, 15, 398, 399, 48, 400, 1001, 1002, 1003, 1004, 1005, 1006, 1007, 1008, 1030, 1031, 1032, 1033, 1034, 1035, 1036, 1037, 1038, 1039, 1040, 1041, 1042, 1043, 1044, 1045] (by decide +kernel) (by decide +kernel)
set_option maxRecDepth 20000 in
theorem gL_law_X6_feed : GoodIn wsL_law (wsV RL 61 RX6 yX6_feed wsX6_feed) := goodIn_app (goodIn_of _ (by decide +kernel)) ggL_law_X6_feed
set_option maxRecDepth 20000 in
theorem ggL_law_X7_feed : GoodIn wsL_law wsX7_feed := goodIn_r _ [404, 120, 86, 121, 405, 122, 123, 5, 124, 125, 126, 127, 128, 88, 129, 1009, 1010, 1011, 1012, 1013, 1014, 1015, 1016, 1017, 1018, 1019, 1020, 1021, 1022, 1023, 1024, 1025, 1026, 1027, 1028, 1029] (by decide +kernel) (by decide +kernel)
set_option maxRecDepth 20000 in
theorem gL_law_X7_feed : GoodIn wsL_law (wsV RL 65 RX7 yX7_feed wsX7_feed) := goodIn_app (goodIn_of _ (by decide +kernel)) ggL_law_X7_feed
set_option maxRecDepth 20000 in
theorem ggL_law_X6_text : GoodIn wsL_law wsX6_text := goodIn_r _ [409, 21, 16, 410, 394, 411, 412, 413, 414, 103, 104, 2, 105, 106, 107, 108, 109, 31, 110, 415, 416, 417, 20, 418, 65, 419, 420, 421, 422, 423, 424, 425, 426, 427, 428, 429, 430, 431, 432, 433, 434, 435, 436, 437, 438, 439, 440, 441, 442, 443, 444, 64, 445, 446, 447, 448, 449, 450, 451, 452, 453, 454, 455, 456, 457, 458, 459, 460, 461, 462, 463, 464, 465, 466, 467, 53, 468, 58, 469, 173, 1001, 1002, 1003, 1004, 1005, 1006, 1007, 1008, 1030, 1031, 1032, 1033, 1034, 1035, 1036, 1037, 1038, 1039, 1040, 1041, 1042, 1043, 1044, 1045, 1046, 1047, 1048, 1049, 1050, 1051, 1064, 1065, 1066] (by decide +kernel) (by decide +kernel)
set_option maxRecDepth 20000 in
theorem gL_law_X6_text : GoodIn wsL_law (wsV RL 66 RX6 yX6_text wsX6_text) := goodIn_app (goodIn_of _ (by decide +kernel)) ggL_law_X6_text
set_option maxRecDepth 20000 in
theorem ggL_law_X7_text : GoodIn wsL_law wsX7_text := goodIn_r _ [473, 120, 474, 475, 476, 477, 478, 86, 92, 93, 122, 123, 5, 124, 125, 126, 127, 128, 88, 129, 479, 480, 481, 482, 483, 484, 485, 486, 487, 488, 489, 490, 491, 492, 493, 494, 495, 496, 497, 498, 499, 500, 501, 502, 503, 504, 505, 506, 507, 508, 509, 510, 511, 512, 513, 514, 515, 516, 517, 518, 519, 520, 521, 522, 1009, 1010, 1011, 1012, 1013, 1014, 1015, 1016, 1017, 1018, 1019, 1020, 1021, 1022, 1023, 1024, 1025, 1026, 1027, 1028, 1029] (by decide +kernel) (by decide +kernel)
set_option maxRecDepth 20000 in
theorem gL_law_X7_text : GoodIn wsL_law (wsV RL 69 RX7 yX7_text wsX7_text) := goodIn_app (goodIn_of _ (by decide +kernel)) ggL_law_X7_text
set_option maxRecDepth 20000 in
theorem ggL_law_X6_untell : GoodIn wsL_law wsX6_untell := goodIn_r _ [526, 16, 412, 103, 104, 2, 105, 106, 107, 108, 109, 31, 110, 527, 170, 171, 53, 172, 173, 528, 529, 530, 531, 145, 146, 147, 1001, 1002, 1003, 1004, 1005, 1006, 1007, 1008, 1030, 1031, 1032, 1033, 1034, 1035, 1036, 1037, 1038, 1039, 1040, 1041, 1042, 1043, 1044, 1045, 1064, 1065, 1066] (by decide +kernel) (by decide +kernel)
set_option maxRecDepth 20000 in
theorem gL_law_X6_untell : GoodIn wsL_law (wsV RL 70 RX6 yX6_untell wsX6_untell) := goodIn_app (goodIn_of _ (by decide +kernel)) ggL_law_X6_untell
set_option maxRecDepth 20000 in
theorem ggL_law_X7_untell : GoodIn wsL_law wsX7_untell := goodIn_r _ [535, 120, 122, 123, 5, 124, 125, 126, 127, 128, 88, 129, 323, 324, 325, 326, 86, 1009, 1010, 1011, 1012, 1013, 1014, 1015, 1016, 1017, 1018, 1019, 1020, 1021, 1022, 1023, 1024, 1025, 1026, 1027, 1028, 1029] (by decide +kernel) (by decide +kernel)
set_option maxRecDepth 20000 in
theorem gL_law_X7_untell : GoodIn wsL_law (wsV RL 73 RX7 yX7_untell wsX7_untell) := goodIn_app (goodIn_of _ (by decide +kernel)) ggL_law_X7_untell
set_option maxRecDepth 20000 in
theorem ggL_law_X6_law : GoodIn wsL_law wsX6_law := goodIn_r _ [539, 16, 103, 104, 2, 105, 106, 107, 108, 109, 31, 110, 540, 166, 167, 15, 168, 51, 169, 170, 171, 53, 172, 173, 174, 175, 176, 177, 58, 59, 178, 179, 180, 181, 182, 183, 184, 185, 186, 187, 158, 188, 189, 157, 159, 1001, 1002, 1003, 1004, 1005, 1006, 1007, 1008, 1030, 1031, 1032, 1033, 1034, 1035, 1036, 1037, 1038, 1039, 1040, 1041, 1042, 1043, 1044, 1045, 1064, 1065, 1066] (by decide +kernel) (by decide +kernel)
set_option maxRecDepth 20000 in
theorem gL_law_X6_law : GoodIn wsL_law (wsV RL 74 RX6 yX6_law wsX6_law) := goodIn_app (goodIn_of _ (by decide +kernel)) ggL_law_X6_law
set_option maxRecDepth 20000 in
theorem ggL_law_X7_law : GoodIn wsL_law wsX7_law := goodIn_r _ [544, 120, 122, 123, 5, 124, 218, 219, 220, 221, 94, 86, 222, 223, 224, 225, 95, 226, 227, 228, 229, 230, 231, 125, 126, 127, 128, 88, 129, 1009, 1010, 1011, 1012, 1013, 1014, 1015, 1016, 1017, 1018, 1019, 1020, 1021, 1022, 1023, 1024, 1025, 1026, 1027, 1028, 1029] (by decide +kernel) (by decide +kernel)
set_option maxRecDepth 20000 in
theorem gL_law_X7_law : GoodIn wsL_law (wsV RL 78 RX7 yX7_law wsX7_law) := goodIn_app (goodIn_of _ (by decide +kernel)) ggL_law_X7_law
set_option maxRecDepth 20000 in
theorem ggL_law_X6_days : GoodIn wsL_law wsX6_days := goodIn_r _ [548, 16, 264, 106, 107, 108, 2, 109, 31, 110, 1001, 1002, 1003, 1004, 1005, 1006, 1007, 1008, 1030, 1031, 1032, 1033, 1034, 1035, 1036, 1037, 1038, 1039, 1040, 1041, 1042, 1043, 1044, 1045] (by decide +kernel) (by decide +kernel)
set_option maxRecDepth 20000 in
theorem gL_law_X6_days : GoodIn wsL_law (wsV RL 79 RX6 yX6_days wsX6_days) := goodIn_app (goodIn_of _ (by decide +kernel)) ggL_law_X6_days
set_option maxRecDepth 20000 in
theorem ggL_law_X7_days : GoodIn wsL_law wsX7_days := goodIn_r _ [552, 120, 86, 364, 122, 123, 5, 124, 125, 126, 127, 128, 88, 129, 1009, 1010, 1011, 1012, 1013, 1014, 1015, 1016, 1017, 1018, 1019, 1020, 1021, 1022, 1023, 1024, 1025, 1026, 1027, 1028, 1029] (by decide +kernel) (by decide +kernel)
set_option maxRecDepth 20000 in
theorem gL_law_X7_days : GoodIn wsL_law (wsV RL 82 RX7 yX7_days wsX7_days) := goodIn_app (goodIn_of _ (by decide +kernel)) ggL_law_X7_days
set_option maxRecDepth 20000 in
theorem ggL_law_X6_loose : GoodIn wsL_law wsX6_loose := goodIn_r _ [556, 16, 264, 106, 107, 108, 2, 109, 31, 110, 557, 558, 559, 15, 560, 164, 46, 47, 281, 561, 142, 143, 144, 43, 42, 562, 563, 564, 565, 40, 566, 567, 274, 275, 276, 41, 277, 278, 279, 280, 282, 283, 284, 285, 45, 44, 160, 161, 162, 163, 146, 147, 165, 166, 167, 168, 51, 169, 170, 171, 53, 172, 173, 174, 175, 176, 177, 58, 59, 178, 179, 180, 181, 182, 183, 184, 185, 186, 187, 158, 188, 189, 157, 159, 568, 378, 379, 380, 381, 270, 271, 272, 1001, 1002, 1003, 1004, 1005, 1006, 1007, 1008, 1030, 1031, 1032, 1033, 1034, 1035, 1036, 1037, 1038, 1039, 1040, 1041, 1042, 1043, 1044, 1045, 1064, 1065, 1066] (by decide +kernel) (by decide +kernel)
set_option maxRecDepth 20000 in
theorem gL_law_X6_loose : GoodIn wsL_law (wsV RL 83 RX6 yX6_loose wsX6_loose) := goodIn_app (goodIn_of _ (by decide +kernel)) ggL_law_X6_loose
set_option maxRecDepth 20000 in
theorem ggL_law_X7_loose : GoodIn wsL_law wsX7_loose := goodIn_r _ [572, 120, 86, 364, 122, 123, 5, 124, 125, 126, 127, 128, 88, 129, 573, 574, 575, 576, 214, 215, 216, 217, 202, 203, 204, 205, 198, 199, 200, 201, 577, 578, 579, 580, 581, 294, 295, 296, 297, 298, 299, 300, 301, 302, 303, 304, 305, 210, 211, 212, 213, 218, 219, 220, 221, 94, 222, 223, 224, 225, 95, 226, 227, 228, 229, 230, 231, 386, 387, 388, 389, 306, 307, 308, 309, 310, 311, 312, 313, 252, 253, 254, 255, 1009, 1010, 1011, 1012, 1013, 1014, 1015, 1016, 1017, 1018, 1019, 1020, 1021, 1022, 1023, 1024, 1025, 1026, 1027, 1028, 1029] (by decide +kernel) (by decide +kernel)
set_option maxRecDepth 20000 in
theorem gL_law_X7_loose : GoodIn wsL_law (wsV RL 86 RX7 yX7_loose wsX7_loose) := goodIn_app (goodIn_of _ (by decide +kernel)) ggL_law_X7_loose
set_option maxRecDepth 20000 in
theorem ggL_law_X6_seed : GoodIn wsL_law wsX6_seed := goodIn_r _ [585, 16, 586, 1001, 1002, 1003, 1004, 1005, 1006, 1007, 1008, 1030, 1031, 1032, 1033, 1034, 1035, 1036, 1037, 1038, 1039, 1040, 1041, 1042, 1043, 1044, 1045] (by decide +kernel) (by decide +kernel)
set_option maxRecDepth 20000 in
theorem gL_law_X6_seed : GoodIn wsL_law (wsV RL 87 RX6 yX6_seed wsX6_seed) := goodIn_app (goodIn_of _ (by decide +kernel)) ggL_law_X6_seed
set_option maxRecDepth 20000 in
theorem ggL_law_X7_seed : GoodIn wsL_law wsX7_seed := goodIn_r _ [590, 323, 324, 325, 5, 326, 86, 1009, 1010, 1011, 1012, 1013, 1014, 1015, 1016, 1017, 1018, 1019, 1020, 1021, 1022, 1023, 1024, 1025, 1026, 1027, 1028, 1029] (by decide +kernel) (by decide +kernel)
set_option maxRecDepth 20000 in
theorem gL_law_X7_seed : GoodIn wsL_law (wsV RL 90 RX7 yX7_seed wsX7_seed) := goodIn_app (goodIn_of _ (by decide +kernel)) ggL_law_X7_seed
set_option maxRecDepth 20000 in
theorem ggL_law_X6_left : GoodIn wsL_law wsX6_left := goodIn_r _ [594, 16, 25, 137, 138, 139, 15, 140, 115, 106, 107, 108, 2, 109, 31, 110, 595, 596, 597, 24, 598, 599, 600, 601, 602, 603, 604, 605, 606, 607, 270, 271, 272, 45, 44, 160, 161, 162, 163, 164, 47, 146, 147, 608, 609, 610, 611, 612, 613, 614, 615, 616, 617, 618, 153, 154, 155, 42, 43, 156, 157, 158, 159, 1001, 1002, 1003, 1004, 1005, 1006, 1007, 1008, 1030, 1031, 1032, 1033, 1034, 1035, 1036, 1037, 1038, 1039, 1040, 1041, 1042, 1043, 1044, 1045] (by decide +kernel) (by decide +kernel)
set_option maxRecDepth 20000 in
theorem gL_law_X6_left : GoodIn wsL_law (wsV RL 91 RX6 yX6_left wsX6_left) := goodIn_app (goodIn_of _ (by decide +kernel)) ggL_law_X6_left
set_option maxRecDepth 20000 in
theorem ggL_law_X7_left : GoodIn wsL_law wsX7_left := goodIn_r _ [622, 120, 194, 195, 196, 5, 197, 86, 122, 123, 124, 125, 126, 127, 128, 88, 129, 206, 207, 208, 209, 198, 199, 200, 201, 623, 624, 625, 626, 214, 215, 216, 217, 306, 307, 308, 309, 310, 311, 312, 313, 210, 211, 212, 213, 627, 628, 629, 1009, 1010, 1011, 1012, 1013, 1014, 1015, 1016, 1017, 1018, 1019, 1020, 1021, 1022, 1023, 1024, 1025, 1026, 1027, 1028, 1029] (by decide +kernel) (by decide +kernel)
set_option maxRecDepth 20000 in
theorem gL_law_X7_left : GoodIn wsL_law (wsV RL 94 RX7 yX7_left wsX7_left) := goodIn_app (goodIn_of _ (by decide +kernel)) ggL_law_X7_left
set_option maxRecDepth 20000 in
theorem ggL_law_X6_odds : GoodIn wsL_law wsX6_odds := goodIn_r _ [633, 16, 25, 634, 635, 137, 138, 139, 15, 140, 115, 103, 104, 2, 105, 106, 107, 108, 109, 31, 110, 636, 637, 638, 24, 639, 71, 640, 641, 642, 643, 599, 644, 645, 600, 601, 602, 603, 604, 605, 606, 607, 270, 271, 272, 45, 44, 160, 161, 162, 163, 164, 47, 146, 147, 646, 278, 279, 280, 281, 282, 283, 284, 285, 165, 166, 167, 168, 51, 169, 170, 171, 53, 172, 173, 174, 175, 176, 177, 58, 59, 178, 179, 180, 181, 182, 183, 184, 185, 186, 187, 158, 188, 189, 157, 159, 647, 648, 649, 650, 651, 652, 653, 1001, 1002, 1003, 1004, 1005, 1006, 1007, 1008, 1052, 1053, 1054, 1030, 1031, 1032, 1033, 1034, 1035, 1036, 1037, 1038, 1039, 1040, 1041, 1042, 1043, 1044, 1045, 1064, 1065, 1066] (by decide +kernel) (by decide +kernel)
set_option maxRecDepth 20000 in
theorem gL_law_X6_odds : GoodIn wsL_law (wsV RL 95 RX6 yX6_odds wsX6_odds) := goodIn_app (goodIn_of _ (by decide +kernel)) ggL_law_X6_odds
set_option maxRecDepth 20000 in
theorem ggL_law_X7_odds : GoodIn wsL_law wsX7_odds := goodIn_r _ [657, 120, 96, 658, 194, 195, 196, 5, 197, 86, 122, 123, 124, 125, 126, 127, 128, 88, 129, 659, 660, 661, 662, 663, 623, 624, 625, 626, 214, 215, 216, 217, 306, 307, 308, 309, 310, 311, 312, 313, 210, 211, 212, 213, 294, 295, 296, 297, 198, 199, 200, 201, 298, 299, 300, 301, 302, 303, 304, 305, 218, 219, 220, 221, 94, 222, 223, 224, 225, 95, 226, 227, 228, 229, 230, 231, 664, 665, 666, 1009, 1010, 1011, 1012, 1013, 1014, 1015, 1016, 1017, 1018, 1019, 1020, 1021, 1022, 1023, 1024, 1025, 1026, 1027, 1028, 1029] (by decide +kernel) (by decide +kernel)
set_option maxRecDepth 20000 in
theorem gL_law_X7_odds : GoodIn wsL_law (wsV RL 99 RX7 yX7_odds wsX7_odds) := goodIn_app (goodIn_of _ (by decide +kernel)) ggL_law_X7_odds
set_option maxRecDepth 20000 in
theorem ggL_law_X6_through : GoodIn wsL_law wsX6_through := goodIn_r _ [670, 16, 25, 634, 635, 137, 138, 139, 15, 140, 115, 103, 104, 2, 105, 106, 107, 108, 109, 31, 110, 671, 672, 673, 24, 674, 71, 640, 641, 642, 643, 599, 644, 645, 600, 601, 602, 603, 604, 605, 606, 607, 270, 271, 272, 45, 44, 160, 161, 162, 163, 164, 47, 146, 147, 646, 278, 279, 280, 281, 282, 283, 284, 285, 165, 166, 167, 168, 51, 169, 170, 171, 53, 172, 173, 174, 175, 176, 177, 58, 59, 178, 179, 180, 181, 182, 183, 184, 185, 186, 187, 158, 188, 189, 157, 159, 675, 153, 154, 155, 42, 43, 156, 647, 648, 649, 650, 651, 652, 653, 1001, 1002, 1003, 1004, 1005, 1006, 1007, 1008, 1052, 1053, 1054, 1030, 1031, 1032, 1033, 1034, 1035, 1036, 1037, 1038, 1039, 1040, 1041, 1042, 1043, 1044, 1045, 1064, 1065, 1066] (by decide +kernel) (by decide +kernel)
set_option maxRecDepth 20000 in
theorem gL_law_X6_through : GoodIn wsL_law (wsV RL 100 RX6 yX6_through wsX6_through) := goodIn_app (goodIn_of _ (by decide +kernel)) ggL_law_X6_through
set_option maxRecDepth 20000 in
theorem ggL_law_X7_through : GoodIn wsL_law wsX7_through := goodIn_r _ [679, 120, 96, 658, 194, 195, 196, 5, 197, 86, 122, 123, 124, 125, 126, 127, 128, 88, 129, 659, 660, 661, 662, 663, 623, 624, 625, 626, 214, 215, 216, 217, 306, 307, 308, 309, 310, 311, 312, 313, 210, 211, 212, 213, 294, 295, 296, 297, 198, 199, 200, 201, 298, 299, 300, 301, 302, 303, 304, 305, 218, 219, 220, 221, 94, 222, 223, 224, 225, 95, 226, 227, 228, 229, 230, 231, 206, 207, 208, 209, 664, 665, 666, 1009, 1010, 1011, 1012, 1013, 1014, 1015, 1016, 1017, 1018, 1019, 1020, 1021, 1022, 1023, 1024, 1025, 1026, 1027, 1028, 1029] (by decide +kernel) (by decide +kernel)
set_option maxRecDepth 20000 in
theorem gL_law_X7_through : GoodIn wsL_law (wsV RL 104 RX7 yX7_through wsX7_through) := goodIn_app (goodIn_of _ (by decide +kernel)) ggL_law_X7_through
set_option maxRecDepth 20000 in
theorem ggL_law_X6_safest : GoodIn wsL_law wsX6_safest := goodIn_r _ [683, 16, 25, 265, 266, 267, 15, 268, 164, 103, 104, 2, 105, 106, 107, 108, 109, 31, 110, 684, 685, 686, 24, 687, 644, 688, 646, 278, 279, 280, 281, 282, 283, 284, 285, 45, 44, 160, 161, 162, 163, 47, 146, 147, 165, 166, 167, 168, 51, 169, 170, 171, 53, 172, 173, 174, 175, 176, 177, 58, 59, 178, 179, 180, 181, 182, 183, 184, 185, 186, 187, 158, 188, 189, 157, 159, 273, 274, 275, 276, 41, 277, 1001, 1002, 1003, 1004, 1005, 1006, 1007, 1008, 1030, 1031, 1032, 1033, 1034, 1035, 1036, 1037, 1038, 1039, 1040, 1041, 1042, 1043, 1044, 1045, 1064, 1065, 1066] (by decide +kernel) (by decide +kernel)
set_option maxRecDepth 20000 in
theorem gL_law_X6_safest : GoodIn wsL_law (wsV RL 105 RX6 yX6_safest wsX6_safest) := goodIn_app (goodIn_of _ (by decide +kernel)) ggL_law_X6_safest
set_option maxRecDepth 20000 in
theorem ggL_law_X7_safest : GoodIn wsL_law wsX7_safest := goodIn_r _ [692, 120, 86, 290, 291, 292, 5, 293, 122, 123, 124, 125, 126, 127, 128, 88, 129, 294, 295, 296, 297, 198, 199, 200, 201, 298, 299, 300, 301, 302, 303, 304, 305, 214, 215, 216, 217, 210, 211, 212, 213, 218, 219, 220, 221, 94, 222, 223, 224, 225, 95, 226, 227, 228, 229, 230, 231, 1009, 1010, 1011, 1012, 1013, 1014, 1015, 1016, 1017, 1018, 1019, 1020, 1021, 1022, 1023, 1024, 1025, 1026, 1027, 1028, 1029] (by decide +kernel) (by decide +kernel)
set_option maxRecDepth 20000 in
theorem gL_law_X7_safest : GoodIn wsL_law (wsV RL 108 RX7 yX7_safest wsX7_safest) := goodIn_app (goodIn_of _ (by decide +kernel)) ggL_law_X7_safest
set_option maxRecDepth 20000 in
theorem ggL_law_X6_saves : GoodIn wsL_law wsX6_saves := goodIn_r _ [696, 16, 25, 137, 138, 139, 15, 140, 115, 103, 104, 2, 105, 106, 107, 108, 109, 31, 110, 141, 142, 143, 144, 43, 42, 697, 698, 699, 24, 700, 701, 596, 597, 598, 599, 600, 601, 602, 603, 604, 605, 606, 607, 270, 271, 272, 45, 44, 160, 161, 162, 163, 164, 47, 146, 147, 609, 610, 611, 612, 613, 614, 615, 616, 617, 675, 153, 154, 155, 156, 157, 158, 159, 608, 1001, 1002, 1003, 1004, 1005, 1006, 1007, 1008, 1030, 1031, 1032, 1033, 1034, 1035, 1036, 1037, 1038, 1039, 1040, 1041, 1042, 1043, 1044, 1045] (by decide +kernel) (by decide +kernel)
set_option maxRecDepth 20000 in
theorem gL_law_X6_saves : GoodIn wsL_law (wsV RL 109 RX6 yX6_saves wsX6_saves) := goodIn_app (goodIn_of _ (by decide +kernel)) ggL_law_X6_saves
set_option maxRecDepth 20000 in
theorem ggL_law_X7_saves : GoodIn wsL_law wsX7_saves := goodIn_r _ [705, 120, 364, 194, 195, 196, 5, 197, 86, 122, 123, 124, 125, 126, 127, 128, 88, 129, 202, 203, 204, 205, 198, 199, 200, 201, 623, 624, 625, 626, 214, 215, 216, 217, 306, 307, 308, 309, 310, 311, 312, 313, 210, 211, 212, 213, 627, 628, 629, 206, 207, 208, 209, 1009, 1010, 1011, 1012, 1013, 1014, 1015, 1016, 1017, 1018, 1019, 1020, 1021, 1022, 1023, 1024, 1025, 1026, 1027, 1028, 1029] (by decide +kernel) (by decide +kernel)
set_option maxRecDepth 20000 in
theorem gL_law_X7_saves : GoodIn wsL_law (wsV RL 112 RX7 yX7_saves wsX7_saves) := goodIn_app (goodIn_of _ (by decide +kernel)) ggL_law_X7_saves
set_option maxRecDepth 20000 in
theorem ggL_law_X6_counts : GoodIn wsL_law wsX6_counts := goodIn_r _ [709, 16, 25, 265, 266, 267, 15, 268, 164, 106, 107, 108, 2, 109, 31, 110, 710, 711, 712, 24, 713, 606, 607, 270, 271, 272, 45, 44, 160, 161, 162, 163, 47, 146, 147, 1001, 1002, 1003, 1004, 1005, 1006, 1007, 1008, 1030, 1031, 1032, 1033, 1034, 1035, 1036, 1037, 1038, 1039, 1040, 1041, 1042, 1043, 1044, 1045] (by decide +kernel) (by decide +kernel)
set_option maxRecDepth 20000 in
theorem gL_law_X6_counts : GoodIn wsL_law (wsV RL 113 RX6 yX6_counts wsX6_counts) := goodIn_app (goodIn_of _ (by decide +kernel)) ggL_law_X6_counts
set_option maxRecDepth 20000 in
theorem ggL_law_X7_counts : GoodIn wsL_law wsX7_counts := goodIn_r _ [717, 120, 86, 718, 290, 291, 292, 5, 293, 122, 123, 124, 125, 126, 127, 128, 88, 129, 310, 311, 312, 313, 214, 215, 216, 217, 210, 211, 212, 213, 1009, 1010, 1011, 1012, 1013, 1014, 1015, 1016, 1017, 1018, 1019, 1020, 1021, 1022, 1023, 1024, 1025, 1026, 1027, 1028, 1029] (by decide +kernel) (by decide +kernel)
set_option maxRecDepth 20000 in
theorem gL_law_X7_counts : GoodIn wsL_law (wsV RL 116 RX7 yX7_counts wsX7_counts) := goodIn_app (goodIn_of _ (by decide +kernel)) ggL_law_X7_counts
set_option maxRecDepth 20000 in
theorem ggL_law_X6_fits : GoodIn wsL_law wsX6_fits := goodIn_r _ [722, 16, 33, 25, 723, 724, 2, 725, 103, 104, 105, 137, 138, 139, 15, 140, 115, 106, 107, 108, 109, 31, 110, 726, 727, 728, 35, 729, 730, 731, 732, 733, 24, 734, 735, 736, 737, 738, 739, 599, 740, 646, 278, 279, 280, 281, 282, 283, 284, 285, 45, 44, 160, 161, 162, 163, 164, 47, 146, 147, 165, 166, 167, 168, 51, 169, 170, 171, 53, 172, 173, 174, 175, 176, 177, 58, 59, 178, 179, 180, 181, 182, 183, 184, 185, 186, 187, 158, 188, 189, 157, 159, 741, 742, 743, 1001, 1002, 1003, 1004, 1005, 1006, 1007, 1008, 1030, 1031, 1032, 1033, 1034, 1035, 1036, 1037, 1038, 1039, 1040, 1041, 1042, 1043, 1044, 1045, 1061, 1062, 1063, 1064, 1065, 1066] (by decide +kernel) (by decide +kernel)
set_option maxRecDepth 20000 in
theorem gL_law_X6_fits : GoodIn wsL_law (wsV RL 117 RX6 yX6_fits wsX6_fits) := goodIn_app (goodIn_of _ (by decide +kernel)) ggL_law_X6_fits
set_option maxRecDepth 20000 in
theorem ggL_law_X7_fits : GoodIn wsL_law wsX7_fits := goodIn_r _ [747, 120, 89, 718, 748, 749, 5, 750, 122, 123, 124, 194, 195, 196, 197, 86, 125, 126, 127, 128, 88, 129, 751, 752, 753, 754, 90, 91, 298, 299, 300, 301, 302, 303, 304, 305, 214, 215, 216, 217, 210, 211, 212, 213, 218, 219, 220, 221, 94, 222, 223, 224, 225, 95, 226, 227, 228, 229, 230, 231, 1009, 1010, 1011, 1012, 1013, 1014, 1015, 1016, 1017, 1018, 1019, 1020, 1021, 1022, 1023, 1024, 1025, 1026, 1027, 1028, 1029] (by decide +kernel) (by decide +kernel)
set_option maxRecDepth 20000 in
theorem gL_law_X7_fits : GoodIn wsL_law (wsV RL 121 RX7 yX7_fits wsX7_fits) := goodIn_app (goodIn_of _ (by decide +kernel)) ggL_law_X7_fits
set_option maxRecDepth 20000 in
theorem ggL_law_X6_voice : GoodIn wsL_law wsX6_voice := goodIn_r _ [758, 16, 29, 260, 261, 759, 265, 266, 267, 15, 268, 164, 103, 104, 2, 105, 106, 107, 108, 109, 31, 110, 760, 761, 762, 28, 763, 764, 765, 766, 767, 768, 769, 770, 771, 772, 773, 774, 775, 776, 777, 778, 779, 780, 76, 781, 782, 783, 784, 785, 786, 787, 788, 789, 790, 791, 792, 1001, 1002, 1003, 1004, 1005, 1006, 1007, 1008, 1030, 1031, 1032, 1033, 1034, 1035, 1036, 1037, 1038, 1039, 1040, 1041, 1042, 1043, 1044, 1045, 1055, 1056, 1057, 1058, 1059, 1060] (by decide +kernel) (by decide +kernel)
set_option maxRecDepth 20000 in
theorem gL_law_X6_voice : GoodIn wsL_law (wsV RL 122 RX6 yX6_voice wsX6_voice) := goodIn_app (goodIn_of _ (by decide +kernel)) ggL_law_X6_voice
set_option maxRecDepth 20000 in
theorem ggL_law_X7_voice : GoodIn wsL_law wsX7_voice := goodIn_r _ [796, 120, 797, 798, 799, 290, 291, 292, 5, 293, 86, 122, 123, 124, 125, 126, 127, 128, 88, 129, 800, 801, 802, 803, 214, 215, 216, 217, 804, 805, 806, 807, 808, 809, 810, 811, 97, 812, 813, 814, 815, 816, 817, 818, 819, 820, 821, 822, 823, 824, 825, 826, 827, 828, 829, 830, 831, 832, 833, 834, 835, 836, 837, 838, 839, 840, 841, 842, 843, 1009, 1010, 1011, 1012, 1013, 1014, 1015, 1016, 1017, 1018, 1019, 1020, 1021, 1022, 1023, 1024, 1025, 1026, 1027, 1028, 1029] (by decide +kernel) (by decide +kernel)
set_option maxRecDepth 20000 in
theorem gL_law_X7_voice : GoodIn wsL_law (wsV RL 125 RX7 yX7_voice wsX7_voice) := goodIn_app (goodIn_of _ (by decide +kernel)) ggL_law_X7_voice
set_option maxRecDepth 20000 in
theorem ggL_law_X6_body : GoodIn wsL_law wsX6_body := goodIn_r _ [847, 29, 848, 849, 106, 107, 108, 2, 109, 31, 110, 1001, 1002, 1003, 1004, 1005, 1006, 1007, 1008, 1055, 1056, 1057, 1058, 1059, 1060] (by decide +kernel) (by decide +kernel)
set_option maxRecDepth 20000 in
theorem gL_law_X6_body : GoodIn wsL_law (wsV RL 126 RX6 yX6_body wsX6_body) := goodIn_app (goodIn_of _ (by decide +kernel)) ggL_law_X6_body
set_option maxRecDepth 20000 in
theorem ggL_law_X7_body : GoodIn wsL_law wsX7_body := goodIn_r _ [853, 797, 97, 718, 122, 123, 5, 124, 125, 126, 127, 128, 88, 129, 1009, 1010, 1011, 1012, 1013, 1014, 1015, 1016, 1017, 1018, 1019, 1020, 1021, 1022, 1023, 1024, 1025, 1026, 1027, 1028, 1029] (by decide +kernel) (by decide +kernel)
set_option maxRecDepth 20000 in
theorem gL_law_X7_body : GoodIn wsL_law (wsV RL 129 RX7 yX7_body wsX7_body) := goodIn_app (goodIn_of _ (by decide +kernel)) ggL_law_X7_body
set_option maxRecDepth 20000 in
theorem ggL_law_X6_sheet : GoodIn wsL_law wsX6_sheet := goodIn_r _ [857, 33, 723, 724, 2, 725, 103, 104, 105, 858, 859, 860, 106, 107, 108, 109, 31, 110, 861, 862, 863, 35, 864, 730, 865, 81, 1001, 1002, 1003, 1004, 1005, 1006, 1007, 1008, 1061, 1062, 1063] (by decide +kernel) (by decide +kernel)
set_option maxRecDepth 20000 in
theorem gL_law_X6_sheet : GoodIn wsL_law (wsV RL 130 RX6 yX6_sheet wsX6_sheet) := goodIn_app (goodIn_of _ (by decide +kernel)) ggL_law_X6_sheet
set_option maxRecDepth 20000 in
theorem ggL_law_X7_sheet : GoodIn wsL_law wsX7_sheet := goodIn_r _ [869, 120, 364, 89, 90, 91, 748, 749, 5, 750, 122, 123, 124, 125, 126, 127, 128, 88, 129, 1009, 1010, 1011, 1012, 1013, 1014, 1015, 1016, 1017, 1018, 1019, 1020, 1021, 1022, 1023, 1024, 1025, 1026, 1027, 1028, 1029] (by decide +kernel) (by decide +kernel)
set_option maxRecDepth 20000 in
theorem gL_law_X7_sheet : GoodIn wsL_law (wsV RL 133 RX7 yX7_sheet wsX7_sheet) := goodIn_app (goodIn_of _ (by decide +kernel)) ggL_law_X7_sheet
set_option maxRecDepth 20000 in
theorem ggL_law_X6_put : GoodIn wsL_law wsX6_put := goodIn_r _ [873, 33, 874, 875, 723, 724, 2, 725, 103, 104, 105, 106, 107, 108, 109, 31, 110, 726, 727, 728, 35, 729, 730, 876, 877, 878, 879, 1001, 1002, 1003, 1004, 1005, 1006, 1007, 1008, 1061, 1062, 1063] (by decide +kernel) (by decide +kernel)
set_option maxRecDepth 20000 in
theorem gL_law_X6_put : GoodIn wsL_law (wsV RL 134 RX6 yX6_put wsX6_put) := goodIn_app (goodIn_of _ (by decide +kernel)) ggL_law_X6_put
set_option maxRecDepth 20000 in
theorem ggL_law_X7_put : GoodIn wsL_law wsX7_put := goodIn_r _ [883, 90, 120, 91, 89, 884, 885, 886, 5, 887, 718, 748, 749, 750, 122, 123, 124, 125, 126, 127, 128, 88, 129, 1009, 1010, 1011, 1012, 1013, 1014, 1015, 1016, 1017, 1018, 1019, 1020, 1021, 1022, 1023, 1024, 1025, 1026, 1027, 1028, 1029] (by decide +kernel) (by decide +kernel)
set_option maxRecDepth 20000 in
theorem gL_law_X7_put : GoodIn wsL_law (wsV RL 137 RX7 yX7_put wsX7_put) := goodIn_app (goodIn_of _ (by decide +kernel)) ggL_law_X7_put
set_option maxRecDepth 20000 in
theorem ggL_law_X6_move : GoodIn wsL_law wsX6_move := goodIn_r _ [891, 33, 892, 875, 893, 420, 421, 422, 723, 724, 2, 725, 103, 104, 105, 106, 107, 108, 109, 31, 110, 726, 727, 728, 35, 729, 730, 894, 895, 896, 897, 865, 1001, 1002, 1003, 1004, 1005, 1006, 1007, 1008, 1061, 1062, 1063] (by decide +kernel) (by decide +kernel)
set_option maxRecDepth 20000 in
theorem gL_law_X6_move : GoodIn wsL_law (wsV RL 138 RX6 yX6_move wsX6_move) := goodIn_app (goodIn_of _ (by decide +kernel)) ggL_law_X6_move
set_option maxRecDepth 20000 in
theorem ggL_law_X7_move : GoodIn wsL_law wsX7_move := goodIn_r _ [901, 91, 902, 903, 904, 5, 905, 120, 89, 718, 339, 90, 748, 749, 750, 122, 123, 124, 125, 126, 127, 128, 88, 129, 1009, 1010, 1011, 1012, 1013, 1014, 1015, 1016, 1017, 1018, 1019, 1020, 1021, 1022, 1023, 1024, 1025, 1026, 1027, 1028, 1029] (by decide +kernel) (by decide +kernel)
set_option maxRecDepth 20000 in
theorem gL_law_X7_move : GoodIn wsL_law (wsV RL 142 RX7 yX7_move wsX7_move) := goodIn_app (goodIn_of _ (by decide +kernel)) ggL_law_X7_move
set_option maxRecDepth 20000 in
theorem ggL_law_X6_cares : GoodIn wsL_law wsX6_cares := goodIn_r _ [909, 33, 16, 723, 724, 2, 725, 103, 104, 105, 106, 107, 108, 109, 31, 110, 726, 727, 728, 35, 729, 730, 910, 911, 912, 15, 913, 914, 115, 915, 41, 1001, 1002, 1003, 1004, 1005, 1006, 1007, 1008, 1061, 1062, 1063, 1030, 1031, 1032, 1033, 1034, 1035, 1036, 1037, 1038, 1039, 1040, 1041, 1042, 1043, 1044, 1045] (by decide +kernel) (by decide +kernel)
set_option maxRecDepth 20000 in
theorem gL_law_X6_cares : GoodIn wsL_law (wsV RL 143 RX6 yX6_cares wsX6_cares) := goodIn_app (goodIn_of _ (by decide +kernel)) ggL_law_X6_cares
set_option maxRecDepth 20000 in
theorem ggL_law_X7_cares : GoodIn wsL_law wsX7_cares := goodIn_r _ [919, 90, 86, 91, 884, 885, 886, 5, 887, 120, 89, 718, 748, 749, 750, 122, 123, 124, 125, 126, 127, 128, 88, 129, 1009, 1010, 1011, 1012, 1013, 1014, 1015, 1016, 1017, 1018, 1019, 1020, 1021, 1022, 1023, 1024, 1025, 1026, 1027, 1028, 1029] (by decide +kernel) (by decide +kernel)
set_option maxRecDepth 20000 in
theorem gL_law_X7_cares : GoodIn wsL_law (wsV RL 146 RX7 yX7_cares wsX7_cares) := goodIn_app (goodIn_of _ (by decide +kernel)) ggL_law_X7_cares
set_option maxRecDepth 20000 in
theorem ggL_law_X6_judge : GoodIn wsL_law wsX6_judge := goodIn_r _ [923, 33, 16, 723, 724, 2, 725, 103, 104, 105, 106, 107, 108, 109, 31, 110, 726, 727, 728, 35, 729, 730, 924, 925, 926, 15, 927, 914, 164, 915, 47, 1001, 1002, 1003, 1004, 1005, 1006, 1007, 1008, 1061, 1062, 1063, 1030, 1031, 1032, 1033, 1034, 1035, 1036, 1037, 1038, 1039, 1040, 1041, 1042, 1043, 1044, 1045] (by decide +kernel) (by decide +kernel)
set_option maxRecDepth 20000 in
theorem gL_law_X6_judge : GoodIn wsL_law (wsV RL 147 RX6 yX6_judge wsX6_judge) := goodIn_app (goodIn_of _ (by decide +kernel)) ggL_law_X6_judge
set_option maxRecDepth 20000 in
theorem ggL_law_X7_judge : GoodIn wsL_law wsX7_judge := goodIn_r _ [931, 90, 86, 91, 884, 885, 886, 5, 887, 120, 89, 718, 748, 749, 750, 122, 123, 124, 125, 126, 127, 128, 88, 129, 214, 215, 216, 217, 1009, 1010, 1011, 1012, 1013, 1014, 1015, 1016, 1017, 1018, 1019, 1020, 1021, 1022, 1023, 1024, 1025, 1026, 1027, 1028, 1029] (by decide +kernel) (by decide +kernel)
set_option maxRecDepth 20000 in
theorem gL_law_X7_judge : GoodIn wsL_law (wsV RL 150 RX7 yX7_judge wsX7_judge) := goodIn_app (goodIn_of _ (by decide +kernel)) ggL_law_X7_judge
set_option maxRecDepth 20000 in
theorem ggL_law_X6_image : GoodIn wsL_law wsX6_image := goodIn_r _ [935, 17, 16, 936, 937, 938, 939, 15, 940, 281, 40, 115, 164, 399, 941, 41, 942, 420, 421, 422, 42, 43, 44, 45, 46, 47, 48, 49, 51, 943, 944, 945, 466, 467, 53, 468, 58, 469, 173, 1001, 1002, 1003, 1004, 1005, 1006, 1007, 1008, 1030, 1031, 1032, 1033, 1034, 1035, 1036, 1037, 1038, 1039, 1040, 1041, 1042, 1043, 1044, 1045, 1064, 1065, 1066] (by decide +kernel) (by decide +kernel)
set_option maxRecDepth 20000 in
theorem gL_law_X6_image : GoodIn wsL_law (wsV RL 151 RX6 yX6_image wsX6_image) := goodIn_app (goodIn_of _ (by decide +kernel)) ggL_law_X6_image
set_option maxRecDepth 20000 in
theorem ggL_law_X7_image : GoodIn wsL_law wsX7_image := goodIn_r _ [949, 86, 87, 950, 951, 952, 5, 953, 1009, 1010, 1011, 1012, 1013, 1014, 1015, 1016, 1017, 1018, 1019, 1020, 1021, 1022, 1023, 1024, 1025, 1026, 1027, 1028, 1029] (by decide +kernel) (by decide +kernel)
set_option maxRecDepth 20000 in
theorem gL_law_X7_image : GoodIn wsL_law (wsV RL 155 RX7 yX7_image wsX7_image) := goodIn_app (goodIn_of _ (by decide +kernel)) ggL_law_X7_image
set_option maxRecDepth 20000 in
theorem ggL_law_X6_restore : GoodIn wsL_law wsX6_restore := goodIn_r _ [957, 936, 16, 17, 264, 106, 107, 108, 2, 109, 31, 110, 937, 938, 939, 15, 940, 281, 40, 115, 164, 399, 941, 41, 942, 420, 421, 422, 42, 43, 44, 45, 46, 47, 48, 49, 51, 943, 944, 945, 466, 467, 53, 468, 58, 469, 173, 1001, 1002, 1003, 1004, 1005, 1006, 1007, 1008, 1030, 1031, 1032, 1033, 1034, 1035, 1036, 1037, 1038, 1039, 1040, 1041, 1042, 1043, 1044, 1045, 1064, 1065, 1066] (by decide +kernel) (by decide +kernel)
set_option maxRecDepth 20000 in
theorem gL_law_X6_restore : GoodIn wsL_law (wsV RL 156 RX6 yX6_restore wsX6_restore) := goodIn_app (goodIn_of _ (by decide +kernel)) ggL_law_X6_restore
set_option maxRecDepth 20000 in
theorem ggL_law_X7_restore : GoodIn wsL_law wsX7_restore := goodIn_r _ [961, 950, 718, 87, 86, 125, 126, 127, 5, 128, 88, 129, 951, 952, 953, 1009, 1010, 1011, 1012, 1013, 1014, 1015, 1016, 1017, 1018, 1019, 1020, 1021, 1022, 1023, 1024, 1025, 1026, 1027, 1028, 1029] (by decide +kernel) (by decide +kernel)
set_option maxRecDepth 20000 in
theorem gL_law_X7_restore : GoodIn wsL_law (wsV RL 159 RX7 yX7_restore wsX7_restore) := goodIn_app (goodIn_of _ (by decide +kernel)) ggL_law_X7_restore
set_option maxRecDepth 20000 in
theorem ggL_law_X6_tell : GoodIn wsL_law wsX6_tell := goodIn_r _ [965, 16, 966, 967, 106, 107, 108, 2, 109, 31, 110, 1001, 1002, 1003, 1004, 1005, 1006, 1007, 1008, 1030, 1031, 1032, 1033, 1034, 1035, 1036, 1037, 1038, 1039, 1040, 1041, 1042, 1043, 1044, 1045] (by decide +kernel) (by decide +kernel)
set_option maxRecDepth 20000 in
theorem gL_law_X6_tell : GoodIn wsL_law (wsV RL 160 RX6 yX6_tell wsX6_tell) := goodIn_app (goodIn_of _ (by decide +kernel)) ggL_law_X6_tell
set_option maxRecDepth 20000 in
theorem ggL_law_X7_tell : GoodIn wsL_law wsX7_tell := goodIn_r _ [971, 86, 121, 125, 126, 127, 5, 128, 88, 129, 1009, 1010, 1011, 1012, 1013, 1014, 1015, 1016, 1017, 1018, 1019, 1020, 1021, 1022, 1023, 1024, 1025, 1026, 1027, 1028, 1029] (by decide +kernel) (by decide +kernel)
set_option maxRecDepth 20000 in
theorem gL_law_X7_tell : GoodIn wsL_law (wsV RL 163 RX7 yX7_tell wsX7_tell) := goodIn_app (goodIn_of _ (by decide +kernel)) ggL_law_X7_tell
set_option maxRecDepth 20000 in
theorem ggL_law_X6_check : GoodIn wsL_law wsX6_check := goodIn_r _ [975, 16, 966, 976, 977, 978, 15, 979, 941, 115, 49, 43, 1001, 1002, 1003, 1004, 1005, 1006, 1007, 1008, 1030, 1031, 1032, 1033, 1034, 1035, 1036, 1037, 1038, 1039, 1040, 1041, 1042, 1043, 1044, 1045] (by decide +kernel) (by decide +kernel)
set_option maxRecDepth 20000 in
theorem gL_law_X6_check : GoodIn wsL_law (wsV RL 164 RX6 yX6_check wsX6_check) := goodIn_app (goodIn_of _ (by decide +kernel)) ggL_law_X6_check
set_option maxRecDepth 20000 in
theorem ggL_law_X7_check : GoodIn wsL_law wsX7_check := goodIn_r _ [983, 86, 194, 195, 196, 5, 197, 122, 123, 124, 198, 199, 200, 201, 1009, 1010, 1011, 1012, 1013, 1014, 1015, 1016, 1017, 1018, 1019, 1020, 1021, 1022, 1023, 1024, 1025, 1026, 1027, 1028, 1029] (by decide +kernel) (by decide +kernel)
set_option maxRecDepth 20000 in
theorem gL_law_X7_check : GoodIn wsL_law (wsV RL 167 RX7 yX7_check wsX7_check) := goodIn_app (goodIn_of _ (by decide +kernel)) ggL_law_X7_check
set_option maxRecDepth 20000 in
theorem ggL_law_X6_count : GoodIn wsL_law wsX6_count := goodIn_r _ [987, 16, 236, 102, 264, 394, 966, 29, 848, 586, 988, 161, 162, 15, 163, 164, 47, 146, 2, 147, 106, 107, 108, 109, 31, 110, 1001, 1002, 1003, 1004, 1005, 1006, 1007, 1008, 1030, 1031, 1032, 1033, 1034, 1035, 1036, 1037, 1038, 1039, 1040, 1041, 1042, 1043, 1044, 1045, 1055, 1056, 1057, 1058, 1059, 1060] (by decide +kernel) (by decide +kernel)
set_option maxRecDepth 20000 in
theorem gL_law_X6_count : GoodIn wsL_law (wsV RL 168 RX6 yX6_count wsX6_count) := goodIn_app (goodIn_of _ (by decide +kernel)) ggL_law_X6_count
set_option maxRecDepth 20000 in
theorem ggL_law_X7_count : GoodIn wsL_law wsX7_count := goodIn_r _ [992, 86, 797, 120, 210, 211, 212, 5, 213, 214, 215, 216, 217, 125, 126, 127, 128, 88, 129, 1009, 1010, 1011, 1012, 1013, 1014, 1015, 1016, 1017, 1018, 1019, 1020, 1021, 1022, 1023, 1024, 1025, 1026, 1027, 1028, 1029] (by decide +kernel) (by decide +kernel)
set_option maxRecDepth 20000 in
theorem gL_law_X7_count : GoodIn wsL_law (wsV RL 171 RX7 yX7_count wsX7_count) := goodIn_app (goodIn_of _ (by decide +kernel)) ggL_law_X7_count
set_option maxRecDepth 20000 in
theorem ggL_law_X6_told : GoodIn wsL_law wsX6_told := goodIn_r _ [996, 31, 106, 107, 108, 2, 109, 110, 1001, 1002, 1003, 1004, 1005, 1006, 1007, 1008] (by decide +kernel) (by decide +kernel)
set_option maxRecDepth 20000 in
theorem gL_law_X6_told : GoodIn wsL_law (wsV RL 172 RX6 yX6_told wsX6_told) := goodIn_app (goodIn_of _ (by decide +kernel)) ggL_law_X6_told
set_option maxRecDepth 20000 in
theorem ggL_law_X7_told : GoodIn wsL_law wsX7_told := goodIn_r _ [1000, 88, 120, 122, 123, 5, 124, 125, 126, 127, 128, 129, 1009, 1010, 1011, 1012, 1013, 1014, 1015, 1016, 1017, 1018, 1019, 1020, 1021, 1022, 1023, 1024, 1025, 1026, 1027, 1028, 1029] (by decide +kernel) (by decide +kernel)
set_option maxRecDepth 20000 in
theorem gL_law_X7_told : GoodIn wsL_law (wsV RL 175 RX7 yX7_told wsX7_told) := goodIn_app (goodIn_of _ (by decide +kernel)) ggL_law_X7_told

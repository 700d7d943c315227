theorem dX0_init_0 : decode cX0_init 0 = .ok (.aload_n 0, 1) := by decide +kernel
theorem dX0_init_1 : decode cX0_init 1 = .ok (.invokespecial 3, 3) := by decide +kernel
theorem dX0_init_4 : decode cX0_init 4 = .ok (.aload_n 0, 1) := by decide +kernel
theorem dX0_init_5 : decode cX0_init 5 = .ok (.iconst 1, 1) := by decide +kernel
theorem dX0_init_6 : decode cX0_init 6 = .ok (.putfield 9, 3) := by decide +kernel
theorem dX0_init_9 : decode cX0_init 9 = .ok (.aload_n 0, 1) := by decide +kernel
theorem dX0_init_10 : decode cX0_init 10 = .ok (.iconst 5, 1) := by decide +kernel
theorem dX0_init_11 : decode cX0_init 11 = .ok (.newarray .int, 2) := by decide +kernel
theorem dX0_init_13 : decode cX0_init 13 = .ok (.putfield 15, 3) := by decide +kernel
theorem dX0_init_16 : decode cX0_init 16 = .ok (.aload_n 0, 1) := by decide +kernel
theorem dX0_init_17 : decode cX0_init 17 = .ok (.iconst 5, 1) := by decide +kernel
theorem dX0_init_18 : decode cX0_init 18 = .ok (.newarray .int, 2) := by decide +kernel
theorem dX0_init_20 : decode cX0_init 20 = .ok (.putfield 19, 3) := by decide +kernel
theorem dX0_init_23 : decode cX0_init 23 = .ok (.aload_n 0, 1) := by decide +kernel
theorem dX0_init_24 : decode cX0_init 24 = .ok (.iconst 5, 1) := by decide +kernel
theorem dX0_init_25 : decode cX0_init 25 = .ok (.newarray .int, 2) := by decide +kernel
theorem dX0_init_27 : decode cX0_init 27 = .ok (.putfield 22, 3) := by decide +kernel
theorem dX0_init_30 : decode cX0_init 30 = .ok (.aload_n 0, 1) := by decide +kernel
theorem dX0_init_31 : decode cX0_init 31 = .ok (.bipush 9, 2) := by decide +kernel
theorem dX0_init_33 : decode cX0_init 33 = .ok (.newarray .int, 2) := by decide +kernel
theorem dX0_init_35 : decode cX0_init 35 = .ok (.putfield 25, 3) := by decide +kernel
theorem dX0_init_38 : decode cX0_init 38 = .ok (.aload_n 0, 1) := by decide +kernel
theorem dX0_init_39 : decode cX0_init 39 = .ok (.bipush 9, 2) := by decide +kernel
theorem dX0_init_41 : decode cX0_init 41 = .ok (.newarray .int, 2) := by decide +kernel
theorem dX0_init_43 : decode cX0_init 43 = .ok (.putfield 28, 3) := by decide +kernel
theorem dX0_init_46 : decode cX0_init 46 = .ok (.aload_n 0, 1) := by decide +kernel
theorem dX0_init_47 : decode cX0_init 47 = .ok (.bipush 9, 2) := by decide +kernel
theorem dX0_init_49 : decode cX0_init 49 = .ok (.newarray .int, 2) := by decide +kernel
theorem dX0_init_51 : decode cX0_init 51 = .ok (.putfield 31, 3) := by decide +kernel
theorem dX0_init_54 : decode cX0_init 54 = .ok (.aload_n 0, 1) := by decide +kernel
theorem dX0_init_55 : decode cX0_init 55 = .ok (.bipush 9, 2) := by decide +kernel
theorem dX0_init_57 : decode cX0_init 57 = .ok (.newarray .int, 2) := by decide +kernel
theorem dX0_init_59 : decode cX0_init 59 = .ok (.putfield 34, 3) := by decide +kernel
theorem dX0_init_62 : decode cX0_init 62 = .ok (.aload_n 0, 1) := by decide +kernel
theorem dX0_init_63 : decode cX0_init 63 = .ok (.bipush 60, 2) := by decide +kernel
theorem dX0_init_65 : decode cX0_init 65 = .ok (.newarray .int, 2) := by decide +kernel
theorem dX0_init_67 : decode cX0_init 67 = .ok (.putfield 37, 3) := by decide +kernel
theorem dX0_init_70 : decode cX0_init 70 = .ok (.aload_n 0, 1) := by decide +kernel
theorem dX0_init_71 : decode cX0_init 71 = .ok (.bipush 24, 2) := by decide +kernel
theorem dX0_init_73 : decode cX0_init 73 = .ok (.newarray .int, 2) := by decide +kernel
theorem dX0_init_75 : decode cX0_init 75 = .ok (.putfield 40, 3) := by decide +kernel
theorem dX0_init_78 : decode cX0_init 78 = .ok (.aload_n 0, 1) := by decide +kernel
theorem dX0_init_79 : decode cX0_init 79 = .ok (.iconst 2, 1) := by decide +kernel
theorem dX0_init_80 : decode cX0_init 80 = .ok (.anewarray 43, 3) := by decide +kernel
theorem dX0_init_83 : decode cX0_init 83 = .ok (.putfield 45, 3) := by decide +kernel
theorem dX0_init_86 : decode cX0_init 86 = .ok (.iconst 0, 1) := by decide +kernel
theorem dX0_init_87 : decode cX0_init 87 = .ok (.istore_n 1, 1) := by decide +kernel
theorem dX0_init_88 : decode cX0_init 88 = .ok (.iload_n 1, 1) := by decide +kernel
theorem dX0_init_89 : decode cX0_init 89 = .ok (.iconst 2, 1) := by decide +kernel
theorem dX0_init_90 : decode cX0_init 90 = .ok (.if_icmp .ge 22, 3) := by decide +kernel
theorem dX0_init_93 : decode cX0_init 93 = .ok (.aload_n 0, 1) := by decide +kernel
theorem dX0_init_94 : decode cX0_init 94 = .ok (.getfield 45, 3) := by decide +kernel
theorem dX0_init_97 : decode cX0_init 97 = .ok (.iload_n 1, 1) := by decide +kernel
theorem dX0_init_98 : decode cX0_init 98 = .ok (.new 43, 3) := by decide +kernel
theorem dX0_init_101 : decode cX0_init 101 = .ok (.dup, 1) := by decide +kernel
theorem dX0_init_102 : decode cX0_init 102 = .ok (.invokespecial 49, 3) := by decide +kernel
theorem dX0_init_105 : decode cX0_init 105 = .ok (.aastore, 1) := by decide +kernel
theorem dX0_init_106 : decode cX0_init 106 = .ok (.iinc 1 1, 3) := by decide +kernel
theorem dX0_init_109 : decode cX0_init 109 = .ok (.goto (-21), 3) := by decide +kernel
theorem dX0_init_112 : decode cX0_init 112 = .ok (.return_, 1) := by decide +kernel
set_option maxRecDepth 20000 in
theorem ggX0_copyFrom_X3_hold : GoodIn wsX0_copyFrom wsX3_hold := goodIn_r _ [27, 28, 29, 9, 10, 11, 30, 47, 48, 49] (by decide +kernel) (by decide +kernel)
set_option maxRecDepth 20000 in
theorem gX0_copyFrom_X3_hold : GoodIn wsX0_copyFrom (wsV RX0 77 RX3 yX3_hold wsX3_hold) := goodIn_app (goodIn_of _ (by decide +kernel)) ggX0_copyFrom_X3_hold
theorem dX0_copyFrom_0 : decode cX0_copyFrom 0 = .ok (.aload_n 0, 1) := by decide +kernel
theorem dX0_copyFrom_1 : decode cX0_copyFrom 1 = .ok (.aload_n 1, 1) := by decide +kernel
theorem dX0_copyFrom_2 : decode cX0_copyFrom 2 = .ok (.getfield 50, 3) := by decide +kernel
theorem dX0_copyFrom_5 : decode cX0_copyFrom 5 = .ok (.putfield 50, 3) := by decide +kernel
theorem dX0_copyFrom_8 : decode cX0_copyFrom 8 = .ok (.aload_n 0, 1) := by decide +kernel
theorem dX0_copyFrom_9 : decode cX0_copyFrom 9 = .ok (.aload_n 1, 1) := by decide +kernel
theorem dX0_copyFrom_10 : decode cX0_copyFrom 10 = .ok (.getfield 9, 3) := by decide +kernel
theorem dX0_copyFrom_13 : decode cX0_copyFrom 13 = .ok (.putfield 9, 3) := by decide +kernel
theorem dX0_copyFrom_16 : decode cX0_copyFrom 16 = .ok (.aload_n 0, 1) := by decide +kernel
theorem dX0_copyFrom_17 : decode cX0_copyFrom 17 = .ok (.aload_n 1, 1) := by decide +kernel
theorem dX0_copyFrom_18 : decode cX0_copyFrom 18 = .ok (.getfield 53, 3) := by decide +kernel
theorem dX0_copyFrom_21 : decode cX0_copyFrom 21 = .ok (.putfield 53, 3) := by decide +kernel
theorem dX0_copyFrom_24 : decode cX0_copyFrom 24 = .ok (.aload_n 0, 1) := by decide +kernel
theorem dX0_copyFrom_25 : decode cX0_copyFrom 25 = .ok (.aload_n 1, 1) := by decide +kernel
theorem dX0_copyFrom_26 : decode cX0_copyFrom 26 = .ok (.getfield 56, 3) := by decide +kernel
theorem dX0_copyFrom_29 : decode cX0_copyFrom 29 = .ok (.putfield 56, 3) := by decide +kernel
theorem dX0_copyFrom_32 : decode cX0_copyFrom 32 = .ok (.aload_n 0, 1) := by decide +kernel
theorem dX0_copyFrom_33 : decode cX0_copyFrom 33 = .ok (.aload_n 1, 1) := by decide +kernel
theorem dX0_copyFrom_34 : decode cX0_copyFrom 34 = .ok (.getfield 59, 3) := by decide +kernel
theorem dX0_copyFrom_37 : decode cX0_copyFrom 37 = .ok (.putfield 59, 3) := by decide +kernel
theorem dX0_copyFrom_40 : decode cX0_copyFrom 40 = .ok (.aload_n 0, 1) := by decide +kernel
theorem dX0_copyFrom_41 : decode cX0_copyFrom 41 = .ok (.aload_n 1, 1) := by decide +kernel
theorem dX0_copyFrom_42 : decode cX0_copyFrom 42 = .ok (.getfield 62, 3) := by decide +kernel
theorem dX0_copyFrom_45 : decode cX0_copyFrom 45 = .ok (.putfield 62, 3) := by decide +kernel
theorem dX0_copyFrom_48 : decode cX0_copyFrom 48 = .ok (.aload_n 1, 1) := by decide +kernel
theorem dX0_copyFrom_49 : decode cX0_copyFrom 49 = .ok (.getfield 15, 3) := by decide +kernel
theorem dX0_copyFrom_52 : decode cX0_copyFrom 52 = .ok (.iconst 0, 1) := by decide +kernel
theorem dX0_copyFrom_53 : decode cX0_copyFrom 53 = .ok (.aload_n 0, 1) := by decide +kernel
theorem dX0_copyFrom_54 : decode cX0_copyFrom 54 = .ok (.getfield 15, 3) := by decide +kernel
theorem dX0_copyFrom_57 : decode cX0_copyFrom 57 = .ok (.iconst 0, 1) := by decide +kernel
theorem dX0_copyFrom_58 : decode cX0_copyFrom 58 = .ok (.iconst 5, 1) := by decide +kernel
theorem dX0_copyFrom_59 : decode cX0_copyFrom 59 = .ok (.invokestatic 65, 3) := by decide +kernel
theorem dX0_copyFrom_62 : decode cX0_copyFrom 62 = .ok (.aload_n 1, 1) := by decide +kernel
theorem dX0_copyFrom_63 : decode cX0_copyFrom 63 = .ok (.getfield 19, 3) := by decide +kernel
theorem dX0_copyFrom_66 : decode cX0_copyFrom 66 = .ok (.iconst 0, 1) := by decide +kernel
theorem dX0_copyFrom_67 : decode cX0_copyFrom 67 = .ok (.aload_n 0, 1) := by decide +kernel
theorem dX0_copyFrom_68 : decode cX0_copyFrom 68 = .ok (.getfield 19, 3) := by decide +kernel
theorem dX0_copyFrom_71 : decode cX0_copyFrom 71 = .ok (.iconst 0, 1) := by decide +kernel
theorem dX0_copyFrom_72 : decode cX0_copyFrom 72 = .ok (.iconst 5, 1) := by decide +kernel
theorem dX0_copyFrom_73 : decode cX0_copyFrom 73 = .ok (.invokestatic 65, 3) := by decide +kernel
theorem dX0_copyFrom_76 : decode cX0_copyFrom 76 = .ok (.aload_n 1, 1) := by decide +kernel
theorem dX0_copyFrom_77 : decode cX0_copyFrom 77 = .ok (.getfield 22, 3) := by decide +kernel
theorem dX0_copyFrom_80 : decode cX0_copyFrom 80 = .ok (.iconst 0, 1) := by decide +kernel
theorem dX0_copyFrom_81 : decode cX0_copyFrom 81 = .ok (.aload_n 0, 1) := by decide +kernel
theorem dX0_copyFrom_82 : decode cX0_copyFrom 82 = .ok (.getfield 22, 3) := by decide +kernel
theorem dX0_copyFrom_85 : decode cX0_copyFrom 85 = .ok (.iconst 0, 1) := by decide +kernel
theorem dX0_copyFrom_86 : decode cX0_copyFrom 86 = .ok (.iconst 5, 1) := by decide +kernel
theorem dX0_copyFrom_87 : decode cX0_copyFrom 87 = .ok (.invokestatic 65, 3) := by decide +kernel
theorem dX0_copyFrom_90 : decode cX0_copyFrom 90 = .ok (.aload_n 1, 1) := by decide +kernel
theorem dX0_copyFrom_91 : decode cX0_copyFrom 91 = .ok (.getfield 25, 3) := by decide +kernel
theorem dX0_copyFrom_94 : decode cX0_copyFrom 94 = .ok (.iconst 0, 1) := by decide +kernel
theorem dX0_copyFrom_95 : decode cX0_copyFrom 95 = .ok (.aload_n 0, 1) := by decide +kernel
theorem dX0_copyFrom_96 : decode cX0_copyFrom 96 = .ok (.getfield 25, 3) := by decide +kernel
theorem dX0_copyFrom_99 : decode cX0_copyFrom 99 = .ok (.iconst 0, 1) := by decide +kernel
theorem dX0_copyFrom_100 : decode cX0_copyFrom 100 = .ok (.bipush 9, 2) := by decide +kernel
theorem dX0_copyFrom_102 : decode cX0_copyFrom 102 = .ok (.invokestatic 65, 3) := by decide +kernel
theorem dX0_copyFrom_105 : decode cX0_copyFrom 105 = .ok (.aload_n 1, 1) := by decide +kernel
theorem dX0_copyFrom_106 : decode cX0_copyFrom 106 = .ok (.getfield 28, 3) := by decide +kernel
theorem dX0_copyFrom_109 : decode cX0_copyFrom 109 = .ok (.iconst 0, 1) := by decide +kernel
theorem dX0_copyFrom_110 : decode cX0_copyFrom 110 = .ok (.aload_n 0, 1) := by decide +kernel
theorem dX0_copyFrom_111 : decode cX0_copyFrom 111 = .ok (.getfield 28, 3) := by decide +kernel
theorem dX0_copyFrom_114 : decode cX0_copyFrom 114 = .ok (.iconst 0, 1) := by decide +kernel
theorem dX0_copyFrom_115 : decode cX0_copyFrom 115 = .ok (.bipush 9, 2) := by decide +kernel
theorem dX0_copyFrom_117 : decode cX0_copyFrom 117 = .ok (.invokestatic 65, 3) := by decide +kernel
theorem dX0_copyFrom_120 : decode cX0_copyFrom 120 = .ok (.aload_n 1, 1) := by decide +kernel
theorem dX0_copyFrom_121 : decode cX0_copyFrom 121 = .ok (.getfield 31, 3) := by decide +kernel
theorem dX0_copyFrom_124 : decode cX0_copyFrom 124 = .ok (.iconst 0, 1) := by decide +kernel
theorem dX0_copyFrom_125 : decode cX0_copyFrom 125 = .ok (.aload_n 0, 1) := by decide +kernel
theorem dX0_copyFrom_126 : decode cX0_copyFrom 126 = .ok (.getfield 31, 3) := by decide +kernel
theorem dX0_copyFrom_129 : decode cX0_copyFrom 129 = .ok (.iconst 0, 1) := by decide +kernel
theorem dX0_copyFrom_130 : decode cX0_copyFrom 130 = .ok (.bipush 9, 2) := by decide +kernel
theorem dX0_copyFrom_132 : decode cX0_copyFrom 132 = .ok (.invokestatic 65, 3) := by decide +kernel
theorem dX0_copyFrom_135 : decode cX0_copyFrom 135 = .ok (.aload_n 1, 1) := by decide +kernel
theorem dX0_copyFrom_136 : decode cX0_copyFrom 136 = .ok (.getfield 34, 3) := by decide +kernel
theorem dX0_copyFrom_139 : decode cX0_copyFrom 139 = .ok (.iconst 0, 1) := by decide +kernel
theorem dX0_copyFrom_140 : decode cX0_copyFrom 140 = .ok (.aload_n 0, 1) := by decide +kernel
theorem dX0_copyFrom_141 : decode cX0_copyFrom 141 = .ok (.getfield 34, 3) := by decide +kernel
theorem dX0_copyFrom_144 : decode cX0_copyFrom 144 = .ok (.iconst 0, 1) := by decide +kernel
theorem dX0_copyFrom_145 : decode cX0_copyFrom 145 = .ok (.bipush 9, 2) := by decide +kernel
theorem dX0_copyFrom_147 : decode cX0_copyFrom 147 = .ok (.invokestatic 65, 3) := by decide +kernel
theorem dX0_copyFrom_150 : decode cX0_copyFrom 150 = .ok (.aload_n 1, 1) := by decide +kernel
theorem dX0_copyFrom_151 : decode cX0_copyFrom 151 = .ok (.getfield 37, 3) := by decide +kernel
theorem dX0_copyFrom_154 : decode cX0_copyFrom 154 = .ok (.iconst 0, 1) := by decide +kernel
theorem dX0_copyFrom_155 : decode cX0_copyFrom 155 = .ok (.aload_n 0, 1) := by decide +kernel
theorem dX0_copyFrom_156 : decode cX0_copyFrom 156 = .ok (.getfield 37, 3) := by decide +kernel
theorem dX0_copyFrom_159 : decode cX0_copyFrom 159 = .ok (.iconst 0, 1) := by decide +kernel
theorem dX0_copyFrom_160 : decode cX0_copyFrom 160 = .ok (.bipush 60, 2) := by decide +kernel
theorem dX0_copyFrom_162 : decode cX0_copyFrom 162 = .ok (.invokestatic 65, 3) := by decide +kernel
theorem dX0_copyFrom_165 : decode cX0_copyFrom 165 = .ok (.aload_n 1, 1) := by decide +kernel
theorem dX0_copyFrom_166 : decode cX0_copyFrom 166 = .ok (.getfield 40, 3) := by decide +kernel
theorem dX0_copyFrom_169 : decode cX0_copyFrom 169 = .ok (.iconst 0, 1) := by decide +kernel
theorem dX0_copyFrom_170 : decode cX0_copyFrom 170 = .ok (.aload_n 0, 1) := by decide +kernel
theorem dX0_copyFrom_171 : decode cX0_copyFrom 171 = .ok (.getfield 40, 3) := by decide +kernel
theorem dX0_copyFrom_174 : decode cX0_copyFrom 174 = .ok (.iconst 0, 1) := by decide +kernel
theorem dX0_copyFrom_175 : decode cX0_copyFrom 175 = .ok (.bipush 24, 2) := by decide +kernel
theorem dX0_copyFrom_177 : decode cX0_copyFrom 177 = .ok (.invokestatic 65, 3) := by decide +kernel
theorem dX0_copyFrom_180 : decode cX0_copyFrom 180 = .ok (.iconst 0, 1) := by decide +kernel
theorem dX0_copyFrom_181 : decode cX0_copyFrom 181 = .ok (.istore_n 2, 1) := by decide +kernel
theorem dX0_copyFrom_182 : decode cX0_copyFrom 182 = .ok (.iload_n 2, 1) := by decide +kernel
theorem dX0_copyFrom_183 : decode cX0_copyFrom 183 = .ok (.iconst 2, 1) := by decide +kernel
theorem dX0_copyFrom_184 : decode cX0_copyFrom 184 = .ok (.if_icmp .ge 36, 3) := by decide +kernel
theorem dX0_copyFrom_187 : decode cX0_copyFrom 187 = .ok (.aload_n 0, 1) := by decide +kernel
theorem dX0_copyFrom_188 : decode cX0_copyFrom 188 = .ok (.getfield 45, 3) := by decide +kernel
theorem dX0_copyFrom_191 : decode cX0_copyFrom 191 = .ok (.iload_n 2, 1) := by decide +kernel
theorem dX0_copyFrom_192 : decode cX0_copyFrom 192 = .ok (.aaload, 1) := by decide +kernel
theorem dX0_copyFrom_193 : decode cX0_copyFrom 193 = .ok (.aload_n 1, 1) := by decide +kernel
theorem dX0_copyFrom_194 : decode cX0_copyFrom 194 = .ok (.getfield 45, 3) := by decide +kernel
theorem dX0_copyFrom_197 : decode cX0_copyFrom 197 = .ok (.iload_n 2, 1) := by decide +kernel
theorem dX0_copyFrom_198 : decode cX0_copyFrom 198 = .ok (.aaload, 1) := by decide +kernel
theorem dX0_copyFrom_199 : decode cX0_copyFrom 199 = .ok (.getfield 71, 3) := by decide +kernel
theorem dX0_copyFrom_202 : decode cX0_copyFrom 202 = .ok (.aload_n 1, 1) := by decide +kernel
theorem dX0_copyFrom_203 : decode cX0_copyFrom 203 = .ok (.getfield 45, 3) := by decide +kernel
theorem dX0_copyFrom_206 : decode cX0_copyFrom 206 = .ok (.iload_n 2, 1) := by decide +kernel
theorem dX0_copyFrom_207 : decode cX0_copyFrom 207 = .ok (.aaload, 1) := by decide +kernel
theorem dX0_copyFrom_208 : decode cX0_copyFrom 208 = .ok (.getfield 74, 3) := by decide +kernel
theorem dX0_copyFrom_211 : decode cX0_copyFrom 211 = .ok (.invokevirtual 77, 3) := by decide +kernel
theorem dX0_copyFrom_214 : decode cX0_copyFrom 214 = .ok (.iinc 2 1, 3) := by decide +kernel
theorem dX0_copyFrom_217 : decode cX0_copyFrom 217 = .ok (.goto (-35), 3) := by decide +kernel
theorem dX0_copyFrom_220 : decode cX0_copyFrom 220 = .ok (.return_, 1) := by decide +kernel
theorem dX0_isPerson_0 : decode cX0_isPerson 0 = .ok (.iload_n 1, 1) := by decide +kernel
theorem dX0_isPerson_1 : decode cX0_isPerson 1 = .ok (.ifCond .lt 15, 3) := by decide +kernel
theorem dX0_isPerson_4 : decode cX0_isPerson 4 = .ok (.iload_n 1, 1) := by decide +kernel
theorem dX0_isPerson_5 : decode cX0_isPerson 5 = .ok (.aload_n 0, 1) := by decide +kernel
theorem dX0_isPerson_6 : decode cX0_isPerson 6 = .ok (.getfield 53, 3) := by decide +kernel
theorem dX0_isPerson_9 : decode cX0_isPerson 9 = .ok (.if_icmp .ge 7, 3) := by decide +kernel
theorem dX0_isPerson_12 : decode cX0_isPerson 12 = .ok (.iconst 1, 1) := by decide +kernel
theorem dX0_isPerson_13 : decode cX0_isPerson 13 = .ok (.goto 4, 3) := by decide +kernel
theorem dX0_isPerson_16 : decode cX0_isPerson 16 = .ok (.iconst 0, 1) := by decide +kernel
theorem dX0_isPerson_17 : decode cX0_isPerson 17 = .ok (.ireturn, 1) := by decide +kernel
theorem dX0_isPiece_0 : decode cX0_isPiece 0 = .ok (.iload_n 1, 1) := by decide +kernel
theorem dX0_isPiece_1 : decode cX0_isPiece 1 = .ok (.ifCond .lt 15, 3) := by decide +kernel
theorem dX0_isPiece_4 : decode cX0_isPiece 4 = .ok (.iload_n 1, 1) := by decide +kernel
theorem dX0_isPiece_5 : decode cX0_isPiece 5 = .ok (.aload_n 0, 1) := by decide +kernel
theorem dX0_isPiece_6 : decode cX0_isPiece 6 = .ok (.getfield 56, 3) := by decide +kernel
theorem dX0_isPiece_9 : decode cX0_isPiece 9 = .ok (.if_icmp .ge 7, 3) := by decide +kernel
theorem dX0_isPiece_12 : decode cX0_isPiece 12 = .ok (.iconst 1, 1) := by decide +kernel
theorem dX0_isPiece_13 : decode cX0_isPiece 13 = .ok (.goto 4, 3) := by decide +kernel
theorem dX0_isPiece_16 : decode cX0_isPiece 16 = .ok (.iconst 0, 1) := by decide +kernel
theorem dX0_isPiece_17 : decode cX0_isPiece 17 = .ok (.ireturn, 1) := by decide +kernel
theorem dX0_addPerson_0 : decode cX0_addPerson 0 = .ok (.aload_n 0, 1) := by decide +kernel
theorem dX0_addPerson_1 : decode cX0_addPerson 1 = .ok (.getfield 53, 3) := by decide +kernel
theorem dX0_addPerson_4 : decode cX0_addPerson 4 = .ok (.istore_n 3, 1) := by decide +kernel
theorem dX0_addPerson_5 : decode cX0_addPerson 5 = .ok (.aload_n 0, 1) := by decide +kernel
theorem dX0_addPerson_6 : decode cX0_addPerson 6 = .ok (.getfield 15, 3) := by decide +kernel
theorem dX0_addPerson_9 : decode cX0_addPerson 9 = .ok (.iload_n 3, 1) := by decide +kernel
theorem dX0_addPerson_10 : decode cX0_addPerson 10 = .ok (.iload_n 1, 1) := by decide +kernel
theorem dX0_addPerson_11 : decode cX0_addPerson 11 = .ok (.iastore, 1) := by decide +kernel
theorem dX0_addPerson_12 : decode cX0_addPerson 12 = .ok (.aload_n 0, 1) := by decide +kernel
theorem dX0_addPerson_13 : decode cX0_addPerson 13 = .ok (.getfield 19, 3) := by decide +kernel
theorem dX0_addPerson_16 : decode cX0_addPerson 16 = .ok (.iload_n 3, 1) := by decide +kernel
theorem dX0_addPerson_17 : decode cX0_addPerson 17 = .ok (.iload_n 2, 1) := by decide +kernel
theorem dX0_addPerson_18 : decode cX0_addPerson 18 = .ok (.iastore, 1) := by decide +kernel
theorem dX0_addPerson_19 : decode cX0_addPerson 19 = .ok (.aload_n 0, 1) := by decide +kernel
theorem dX0_addPerson_20 : decode cX0_addPerson 20 = .ok (.getfield 22, 3) := by decide +kernel
theorem dX0_addPerson_23 : decode cX0_addPerson 23 = .ok (.iload_n 3, 1) := by decide +kernel
theorem dX0_addPerson_24 : decode cX0_addPerson 24 = .ok (.iconst 0, 1) := by decide +kernel
theorem dX0_addPerson_25 : decode cX0_addPerson 25 = .ok (.iastore, 1) := by decide +kernel
theorem dX0_addPerson_26 : decode cX0_addPerson 26 = .ok (.aload_n 0, 1) := by decide +kernel
theorem dX0_addPerson_27 : decode cX0_addPerson 27 = .ok (.dup, 1) := by decide +kernel
theorem dX0_addPerson_28 : decode cX0_addPerson 28 = .ok (.getfield 53, 3) := by decide +kernel
theorem dX0_addPerson_31 : decode cX0_addPerson 31 = .ok (.iconst 1, 1) := by decide +kernel
theorem dX0_addPerson_32 : decode cX0_addPerson 32 = .ok (.iadd, 1) := by decide +kernel
theorem dX0_addPerson_33 : decode cX0_addPerson 33 = .ok (.putfield 53, 3) := by decide +kernel
theorem dX0_addPerson_36 : decode cX0_addPerson 36 = .ok (.iload_n 3, 1) := by decide +kernel
theorem dX0_addPerson_37 : decode cX0_addPerson 37 = .ok (.ireturn, 1) := by decide +kernel
set_option maxRecDepth 20000 in
theorem ggX0_addPiece_X0_shape : GoodIn wsX0_addPiece wsX0_shape := goodIn_r _ [8, 9, 10, 11, 12, 13, 14, 15, 16, 17, 18, 19, 20, 21, 22, 23, 24, 25, 26] (by decide +kernel) (by decide +kernel)
set_option maxRecDepth 20000 in
theorem gX0_addPiece_X0_shape : GoodIn wsX0_addPiece (wsV RX0 81 RX0 yX0_shape wsX0_shape) := goodIn_app (goodIn_of _ (by decide +kernel)) ggX0_addPiece_X0_shape
theorem dX0_addPiece_0 : decode cX0_addPiece 0 = .ok (.aload_n 0, 1) := by decide +kernel
theorem dX0_addPiece_1 : decode cX0_addPiece 1 = .ok (.getfield 56, 3) := by decide +kernel
theorem dX0_addPiece_4 : decode cX0_addPiece 4 = .ok (.istore_n 3, 1) := by decide +kernel
theorem dX0_addPiece_5 : decode cX0_addPiece 5 = .ok (.aload_n 0, 1) := by decide +kernel
theorem dX0_addPiece_6 : decode cX0_addPiece 6 = .ok (.iload_n 3, 1) := by decide +kernel
theorem dX0_addPiece_7 : decode cX0_addPiece 7 = .ok (.iload_n 1, 1) := by decide +kernel
theorem dX0_addPiece_8 : decode cX0_addPiece 8 = .ok (.invokevirtual 81, 3) := by decide +kernel
theorem dX0_addPiece_11 : decode cX0_addPiece 11 = .ok (.aload_n 0, 1) := by decide +kernel
theorem dX0_addPiece_12 : decode cX0_addPiece 12 = .ok (.getfield 31, 3) := by decide +kernel
theorem dX0_addPiece_15 : decode cX0_addPiece 15 = .ok (.iload_n 3, 1) := by decide +kernel
theorem dX0_addPiece_16 : decode cX0_addPiece 16 = .ok (.iload_n 2, 1) := by decide +kernel
theorem dX0_addPiece_17 : decode cX0_addPiece 17 = .ok (.iastore, 1) := by decide +kernel
theorem dX0_addPiece_18 : decode cX0_addPiece 18 = .ok (.aload_n 0, 1) := by decide +kernel
theorem dX0_addPiece_19 : decode cX0_addPiece 19 = .ok (.getfield 34, 3) := by decide +kernel
theorem dX0_addPiece_22 : decode cX0_addPiece 22 = .ok (.iload_n 3, 1) := by decide +kernel
theorem dX0_addPiece_23 : decode cX0_addPiece 23 = .ok (.iconst 0, 1) := by decide +kernel
theorem dX0_addPiece_24 : decode cX0_addPiece 24 = .ok (.iastore, 1) := by decide +kernel
theorem dX0_addPiece_25 : decode cX0_addPiece 25 = .ok (.aload_n 0, 1) := by decide +kernel
theorem dX0_addPiece_26 : decode cX0_addPiece 26 = .ok (.dup, 1) := by decide +kernel
theorem dX0_addPiece_27 : decode cX0_addPiece 27 = .ok (.getfield 56, 3) := by decide +kernel
theorem dX0_addPiece_30 : decode cX0_addPiece 30 = .ok (.iconst 1, 1) := by decide +kernel
theorem dX0_addPiece_31 : decode cX0_addPiece 31 = .ok (.iadd, 1) := by decide +kernel
theorem dX0_addPiece_32 : decode cX0_addPiece 32 = .ok (.putfield 56, 3) := by decide +kernel
theorem dX0_addPiece_35 : decode cX0_addPiece 35 = .ok (.iload_n 3, 1) := by decide +kernel
theorem dX0_addPiece_36 : decode cX0_addPiece 36 = .ok (.ireturn, 1) := by decide +kernel
theorem dX0_shape_0 : decode cX0_shape 0 = .ok (.aload_n 0, 1) := by decide +kernel
theorem dX0_shape_1 : decode cX0_shape 1 = .ok (.getfield 25, 3) := by decide +kernel
theorem dX0_shape_4 : decode cX0_shape 4 = .ok (.iload_n 1, 1) := by decide +kernel
theorem dX0_shape_5 : decode cX0_shape 5 = .ok (.iload_n 2, 1) := by decide +kernel
theorem dX0_shape_6 : decode cX0_shape 6 = .ok (.bipush 10, 2) := by decide +kernel
theorem dX0_shape_8 : decode cX0_shape 8 = .ok (.idiv, 1) := by decide +kernel
theorem dX0_shape_9 : decode cX0_shape 9 = .ok (.iastore, 1) := by decide +kernel
theorem dX0_shape_10 : decode cX0_shape 10 = .ok (.aload_n 0, 1) := by decide +kernel
theorem dX0_shape_11 : decode cX0_shape 11 = .ok (.getfield 28, 3) := by decide +kernel
theorem dX0_shape_14 : decode cX0_shape 14 = .ok (.iload_n 1, 1) := by decide +kernel
theorem dX0_shape_15 : decode cX0_shape 15 = .ok (.iload_n 2, 1) := by decide +kernel
theorem dX0_shape_16 : decode cX0_shape 16 = .ok (.bipush 10, 2) := by decide +kernel
theorem dX0_shape_18 : decode cX0_shape 18 = .ok (.irem, 1) := by decide +kernel
theorem dX0_shape_19 : decode cX0_shape 19 = .ok (.iastore, 1) := by decide +kernel
theorem dX0_shape_20 : decode cX0_shape 20 = .ok (.return_, 1) := by decide +kernel
set_option maxRecDepth 20000 in
theorem ggX0_shards_X6_bit : GoodIn wsX0_shards wsX6_bit := goodIn_r _ [5] (by decide +kernel) (by decide +kernel)
set_option maxRecDepth 20000 in
theorem gX0_shards_X6_bit_n85 : GoodIn wsX0_shards (wsX6_bit) := ggX0_shards_X6_bit
theorem dX0_shards_0 : decode cX0_shards 0 = .ok (.iconst 0, 1) := by decide +kernel
theorem dX0_shards_1 : decode cX0_shards 1 = .ok (.istore_n 1, 1) := by decide +kernel
theorem dX0_shards_2 : decode cX0_shards 2 = .ok (.iconst 0, 1) := by decide +kernel
theorem dX0_shards_3 : decode cX0_shards 3 = .ok (.istore_n 2, 1) := by decide +kernel
theorem dX0_shards_4 : decode cX0_shards 4 = .ok (.iload_n 2, 1) := by decide +kernel
theorem dX0_shards_5 : decode cX0_shards 5 = .ok (.aload_n 0, 1) := by decide +kernel
theorem dX0_shards_6 : decode cX0_shards 6 = .ok (.getfield 56, 3) := by decide +kernel
theorem dX0_shards_9 : decode cX0_shards 9 = .ok (.if_icmp .ge 30, 3) := by decide +kernel
theorem dX0_shards_12 : decode cX0_shards 12 = .ok (.iload_n 1, 1) := by decide +kernel
theorem dX0_shards_13 : decode cX0_shards 13 = .ok (.aload_n 0, 1) := by decide +kernel
theorem dX0_shards_14 : decode cX0_shards 14 = .ok (.getfield 34, 3) := by decide +kernel
theorem dX0_shards_17 : decode cX0_shards 17 = .ok (.iload_n 2, 1) := by decide +kernel
theorem dX0_shards_18 : decode cX0_shards 18 = .ok (.iaload, 1) := by decide +kernel
theorem dX0_shards_19 : decode cX0_shards 19 = .ok (.iconst 1, 1) := by decide +kernel
theorem dX0_shards_20 : decode cX0_shards 20 = .ok (.if_icmp .ne 7, 3) := by decide +kernel
theorem dX0_shards_23 : decode cX0_shards 23 = .ok (.iconst 1, 1) := by decide +kernel
theorem dX0_shards_24 : decode cX0_shards 24 = .ok (.goto 4, 3) := by decide +kernel
theorem dX0_shards_27 : decode cX0_shards 27 = .ok (.iconst 0, 1) := by decide +kernel
theorem dX0_shards_28 : decode cX0_shards 28 = .ok (.invokestatic 85, 3) := by decide +kernel
theorem dX0_shards_31 : decode cX0_shards 31 = .ok (.iadd, 1) := by decide +kernel
theorem dX0_shards_32 : decode cX0_shards 32 = .ok (.istore_n 1, 1) := by decide +kernel
theorem dX0_shards_33 : decode cX0_shards 33 = .ok (.iinc 2 1, 3) := by decide +kernel
theorem dX0_shards_36 : decode cX0_shards 36 = .ok (.goto (-32), 3) := by decide +kernel
theorem dX0_shards_39 : decode cX0_shards 39 = .ok (.iload_n 1, 1) := by decide +kernel
theorem dX0_shards_40 : decode cX0_shards 40 = .ok (.ireturn, 1) := by decide +kernel
theorem dX0_isThrough_0 : decode cX0_isThrough 0 = .ok (.aload_n 0, 1) := by decide +kernel
theorem dX0_isThrough_1 : decode cX0_isThrough 1 = .ok (.getfield 22, 3) := by decide +kernel
theorem dX0_isThrough_4 : decode cX0_isThrough 4 = .ok (.iload_n 1, 1) := by decide +kernel
theorem dX0_isThrough_5 : decode cX0_isThrough 5 = .ok (.iaload, 1) := by decide +kernel
theorem dX0_isThrough_6 : decode cX0_isThrough 6 = .ok (.aload_n 0, 1) := by decide +kernel
theorem dX0_isThrough_7 : decode cX0_isThrough 7 = .ok (.getfield 19, 3) := by decide +kernel
theorem dX0_isThrough_10 : decode cX0_isThrough 10 = .ok (.iload_n 1, 1) := by decide +kernel
theorem dX0_isThrough_11 : decode cX0_isThrough 11 = .ok (.iaload, 1) := by decide +kernel
theorem dX0_isThrough_12 : decode cX0_isThrough 12 = .ok (.if_icmp .lt 7, 3) := by decide +kernel
theorem dX0_isThrough_15 : decode cX0_isThrough 15 = .ok (.iconst 1, 1) := by decide +kernel
theorem dX0_isThrough_16 : decode cX0_isThrough 16 = .ok (.goto 4, 3) := by decide +kernel
theorem dX0_isThrough_19 : decode cX0_isThrough 19 = .ok (.iconst 0, 1) := by decide +kernel
theorem dX0_isThrough_20 : decode cX0_isThrough 20 = .ok (.ireturn, 1) := by decide +kernel
theorem dX0_toComeOf_0 : decode cX0_toComeOf 0 = .ok (.iconst 0, 1) := by decide +kernel
theorem dX0_toComeOf_1 : decode cX0_toComeOf 1 = .ok (.aload_n 0, 1) := by decide +kernel
theorem dX0_toComeOf_2 : decode cX0_toComeOf 2 = .ok (.getfield 19, 3) := by decide +kernel
theorem dX0_toComeOf_5 : decode cX0_toComeOf 5 = .ok (.iload_n 1, 1) := by decide +kernel
theorem dX0_toComeOf_6 : decode cX0_toComeOf 6 = .ok (.iaload, 1) := by decide +kernel
theorem dX0_toComeOf_7 : decode cX0_toComeOf 7 = .ok (.aload_n 0, 1) := by decide +kernel
theorem dX0_toComeOf_8 : decode cX0_toComeOf 8 = .ok (.getfield 22, 3) := by decide +kernel
theorem dX0_toComeOf_11 : decode cX0_toComeOf 11 = .ok (.iload_n 1, 1) := by decide +kernel
theorem dX0_toComeOf_12 : decode cX0_toComeOf 12 = .ok (.iaload, 1) := by decide +kernel
theorem dX0_toComeOf_13 : decode cX0_toComeOf 13 = .ok (.isub, 1) := by decide +kernel
theorem dX0_toComeOf_14 : decode cX0_toComeOf 14 = .ok (.invokestatic 89, 3) := by decide +kernel
theorem dX0_toComeOf_17 : decode cX0_toComeOf 17 = .ok (.ireturn, 1) := by decide +kernel
set_option maxRecDepth 20000 in
theorem ggX0_yearsOf_X0_toComeOf : GoodIn wsX0_yearsOf wsX0_toComeOf := goodIn_r _ [5, 6, 7, 8, 9, 10, 11, 50, 51, 52, 53, 54, 55, 56, 57, 58, 59, 60, 61, 62, 63, 64, 65] (by decide +kernel) (by decide +kernel)
set_option maxRecDepth 20000 in
theorem gX0_yearsOf_X0_toComeOf : GoodIn wsX0_yearsOf (wsV RX0 95 RX0 yX0_toComeOf wsX0_toComeOf) := goodIn_app (goodIn_of _ (by decide +kernel)) ggX0_yearsOf_X0_toComeOf
set_option maxRecDepth 20000 in
theorem ggX0_yearsOf_X0_shards : GoodIn wsX0_yearsOf wsX0_shards := goodIn_r _ [15, 16, 17, 18, 19, 20, 50, 51, 52, 53, 54, 55, 56, 57, 58, 59, 60, 61, 62, 63, 64, 65] (by decide +kernel) (by decide +kernel)
set_option maxRecDepth 20000 in
theorem gX0_yearsOf_X0_shards : GoodIn wsX0_yearsOf (wsV RX0 99 RX0 yX0_shards wsX0_shards) := goodIn_app (goodIn_of _ (by decide +kernel)) ggX0_yearsOf_X0_shards
set_option maxRecDepth 20000 in
theorem ggX0_yearsOf_X0_gives : GoodIn wsX0_yearsOf wsX0_gives := goodIn_r _ [24, 25, 26, 27, 28, 29, 30, 31, 32, 33, 34, 35, 36, 37, 38, 39, 40, 41, 42, 43, 44, 19, 45, 46, 47, 10, 48, 49, 9, 11, 50, 51, 52, 53, 54, 55, 56, 57, 58, 59, 60, 61, 62, 63, 64, 65, 66, 67, 68] (by decide +kernel) (by decide +kernel)
set_option maxRecDepth 20000 in
theorem gX0_yearsOf_X0_gives : GoodIn wsX0_yearsOf (wsV RX0 103 RX0 yX0_gives wsX0_gives) := goodIn_app (goodIn_of _ (by decide +kernel)) ggX0_yearsOf_X0_gives
theorem dX0_yearsOf_0 : decode cX0_yearsOf 0 = .ok (.aload_n 0, 1) := by decide +kernel
theorem dX0_yearsOf_1 : decode cX0_yearsOf 1 = .ok (.iconst 1, 1) := by decide +kernel
theorem dX0_yearsOf_2 : decode cX0_yearsOf 2 = .ok (.aload_n 0, 1) := by decide +kernel
theorem dX0_yearsOf_3 : decode cX0_yearsOf 3 = .ok (.iload_n 1, 1) := by decide +kernel
theorem dX0_yearsOf_4 : decode cX0_yearsOf 4 = .ok (.invokevirtual 95, 3) := by decide +kernel
theorem dX0_yearsOf_7 : decode cX0_yearsOf 7 = .ok (.aload_n 0, 1) := by decide +kernel
theorem dX0_yearsOf_8 : decode cX0_yearsOf 8 = .ok (.invokevirtual 99, 3) := by decide +kernel
theorem dX0_yearsOf_11 : decode cX0_yearsOf 11 = .ok (.iload_n 1, 1) := by decide +kernel
theorem dX0_yearsOf_12 : decode cX0_yearsOf 12 = .ok (.invokevirtual 103, 3) := by decide +kernel
theorem dX0_yearsOf_15 : decode cX0_yearsOf 15 = .ok (.ireturn, 1) := by decide +kernel
set_option maxRecDepth 20000 in
theorem ggX0_riskIn_X0_riskBy : GoodIn wsX0_riskIn wsX0_riskBy := goodIn_r _ [6, 7, 8, 9, 10, 5, 11, 12, 13, 14, 15, 16, 17, 18, 19, 20, 21, 22, 23, 24, 25, 26, 27, 28, 29, 30, 31, 32, 33, 34, 35, 36, 37, 38, 39, 40, 41, 42, 43, 44, 45, 46, 47, 48, 49, 50, 51, 52, 53, 54, 55, 56, 57, 58, 59, 60, 61, 62, 63, 64, 65, 66, 67, 68, 69, 70, 71, 72, 73] (by decide +kernel) (by decide +kernel)
set_option maxRecDepth 20000 in
theorem gX0_riskIn_X0_riskBy : GoodIn wsX0_riskIn (wsV RX0 107 RX0 yX0_riskBy wsX0_riskBy) := goodIn_app (goodIn_of _ (by decide +kernel)) ggX0_riskIn_X0_riskBy
theorem dX0_riskIn_0 : decode cX0_riskIn 0 = .ok (.aload_n 0, 1) := by decide +kernel
theorem dX0_riskIn_1 : decode cX0_riskIn 1 = .ok (.iload_n 1, 1) := by decide +kernel
theorem dX0_riskIn_2 : decode cX0_riskIn 2 = .ok (.aload_n 0, 1) := by decide +kernel
theorem dX0_riskIn_3 : decode cX0_riskIn 3 = .ok (.getfield 15, 3) := by decide +kernel
theorem dX0_riskIn_6 : decode cX0_riskIn 6 = .ok (.iload_n 2, 1) := by decide +kernel
theorem dX0_riskIn_7 : decode cX0_riskIn 7 = .ok (.iaload, 1) := by decide +kernel
theorem dX0_riskIn_8 : decode cX0_riskIn 8 = .ok (.invokevirtual 107, 3) := by decide +kernel
theorem dX0_riskIn_11 : decode cX0_riskIn 11 = .ok (.ireturn, 1) := by decide +kernel
set_option maxRecDepth 20000 in
theorem ggX0_riskBy_X0_slipsBy : GoodIn wsX0_riskBy wsX0_slipsBy := goodIn_r _ [6, 7, 8, 1, 9, 10, 11, 5, 12, 13, 14, 15, 16, 17, 50, 51, 52, 53, 54, 55, 56, 57, 58, 59, 60, 61, 62, 63, 64, 65] (by decide +kernel) (by decide +kernel)
set_option maxRecDepth 20000 in
theorem gX0_riskBy_X0_slipsBy : GoodIn wsX0_riskBy (wsV RX0 110 RX0 yX0_slipsBy wsX0_slipsBy) := goodIn_app (goodIn_of _ (by decide +kernel)) ggX0_riskBy_X0_slipsBy
set_option maxRecDepth 20000 in
theorem ggX0_riskBy_X0_gives : GoodIn wsX0_riskBy wsX0_gives := goodIn_r _ [21, 22, 23, 24, 25, 26, 27, 28, 29, 30, 31, 32, 33, 34, 35, 36, 37, 38, 39, 40, 41, 16, 42, 43, 44, 45, 46, 47, 48, 49, 50, 51, 52, 53, 54, 55, 56, 57, 58, 59, 60, 61, 62, 63, 64, 65, 66, 67, 68] (by decide +kernel) (by decide +kernel)
set_option maxRecDepth 20000 in
theorem gX0_riskBy_X0_gives : GoodIn wsX0_riskBy (wsV RX0 103 RX0 yX0_gives wsX0_gives) := goodIn_app (goodIn_of _ (by decide +kernel)) ggX0_riskBy_X0_gives
theorem dX0_riskBy_0 : decode cX0_riskBy 0 = .ok (.aload_n 0, 1) := by decide +kernel
theorem dX0_riskBy_1 : decode cX0_riskBy 1 = .ok (.iconst 0, 1) := by decide +kernel
theorem dX0_riskBy_2 : decode cX0_riskBy 2 = .ok (.aload_n 0, 1) := by decide +kernel
theorem dX0_riskBy_3 : decode cX0_riskBy 3 = .ok (.iload_n 1, 1) := by decide +kernel
theorem dX0_riskBy_4 : decode cX0_riskBy 4 = .ok (.iload_n 2, 1) := by decide +kernel
theorem dX0_riskBy_5 : decode cX0_riskBy 5 = .ok (.invokevirtual 110, 3) := by decide +kernel
theorem dX0_riskBy_8 : decode cX0_riskBy 8 = .ok (.iload_n 2, 1) := by decide +kernel
theorem dX0_riskBy_9 : decode cX0_riskBy 9 = .ok (.aload_n 0, 1) := by decide +kernel
theorem dX0_riskBy_10 : decode cX0_riskBy 10 = .ok (.getfield 50, 3) := by decide +kernel
theorem dX0_riskBy_13 : decode cX0_riskBy 13 = .ok (.bipush 7, 2) := by decide +kernel
theorem dX0_riskBy_15 : decode cX0_riskBy 15 = .ok (.irem, 1) := by decide +kernel
theorem dX0_riskBy_16 : decode cX0_riskBy 16 = .ok (.invokevirtual 103, 3) := by decide +kernel
theorem dX0_riskBy_19 : decode cX0_riskBy 19 = .ok (.ireturn, 1) := by decide +kernel
set_option maxRecDepth 20000 in
theorem ggX0_gives_X3_isThere : GoodIn wsX0_gives wsX3_isThere := goodIn_r _ [6, 7, 46, 47, 48] (by decide +kernel) (by decide +kernel)
set_option maxRecDepth 20000 in
theorem gX0_gives_X3_isThere : GoodIn wsX0_gives (wsV RX0 113 RX3 yX3_isThere wsX3_isThere) := goodIn_app (goodIn_of _ (by decide +kernel)) ggX0_gives_X3_isThere
set_option maxRecDepth 20000 in
theorem ggX0_gives_X3_workOut : GoodIn wsX0_gives wsX3_workOut := goodIn_r _ [11, 7, 12, 13, 14, 15, 5, 16, 17, 18, 19, 46, 47, 48] (by decide +kernel) (by decide +kernel)
set_option maxRecDepth 20000 in
theorem gX0_gives_X3_workOut : GoodIn wsX0_gives (wsV RX0 117 RX3 yX3_workOut wsX3_workOut) := goodIn_app (goodIn_of _ (by decide +kernel)) ggX0_gives_X3_workOut
set_option maxRecDepth 20000 in
theorem ggX0_gives_X6_held : GoodIn wsX0_gives wsX6_held := goodIn_r _ [22, 23, 24, 25, 26, 27, 28, 29] (by decide +kernel) (by decide +kernel)
set_option maxRecDepth 20000 in
theorem gX0_gives_X6_held_n121 : GoodIn wsX0_gives (wsX6_held) := ggX0_gives_X6_held
theorem dX0_gives_0 : decode cX0_gives 0 = .ok (.aload_n 0, 1) := by decide +kernel
theorem dX0_gives_1 : decode cX0_gives 1 = .ok (.getfield 45, 3) := by decide +kernel
theorem dX0_gives_4 : decode cX0_gives 4 = .ok (.iload_n 1, 1) := by decide +kernel
theorem dX0_gives_5 : decode cX0_gives 5 = .ok (.aaload, 1) := by decide +kernel
theorem dX0_gives_6 : decode cX0_gives 6 = .ok (.astore 5, 2) := by decide +kernel
theorem dX0_gives_8 : decode cX0_gives 8 = .ok (.iload_n 1, 1) := by decide +kernel
theorem dX0_gives_9 : decode cX0_gives 9 = .ok (.ifCond .ne 30, 3) := by decide +kernel
theorem dX0_gives_12 : decode cX0_gives 12 = .ok (.aload 5, 2) := by decide +kernel
theorem dX0_gives_14 : decode cX0_gives 14 = .ok (.invokevirtual 113, 3) := by decide +kernel
theorem dX0_gives_17 : decode cX0_gives 17 = .ok (.ifCond .eq 15, 3) := by decide +kernel
theorem dX0_gives_20 : decode cX0_gives 20 = .ok (.aload 5, 2) := by decide +kernel
theorem dX0_gives_22 : decode cX0_gives 22 = .ok (.iload_n 2, 1) := by decide +kernel
theorem dX0_gives_23 : decode cX0_gives 23 = .ok (.iload_n 3, 1) := by decide +kernel
theorem dX0_gives_24 : decode cX0_gives 24 = .ok (.iload 4, 2) := by decide +kernel
theorem dX0_gives_26 : decode cX0_gives 26 = .ok (.invokevirtual 117, 3) := by decide +kernel
theorem dX0_gives_29 : decode cX0_gives 29 = .ok (.goto 4, 3) := by decide +kernel
theorem dX0_gives_32 : decode cX0_gives 32 = .ok (.iload_n 2, 1) := by decide +kernel
theorem dX0_gives_33 : decode cX0_gives 33 = .ok (.bipush 16, 2) := by decide +kernel
theorem dX0_gives_35 : decode cX0_gives 35 = .ok (.invokestatic 121, 3) := by decide +kernel
theorem dX0_gives_38 : decode cX0_gives 38 = .ok (.ireturn, 1) := by decide +kernel
theorem dX0_gives_39 : decode cX0_gives 39 = .ok (.aload 5, 2) := by decide +kernel
theorem dX0_gives_41 : decode cX0_gives 41 = .ok (.invokevirtual 113, 3) := by decide +kernel
theorem dX0_gives_44 : decode cX0_gives 44 = .ok (.ifCond .eq 15, 3) := by decide +kernel
theorem dX0_gives_47 : decode cX0_gives 47 = .ok (.aload 5, 2) := by decide +kernel
theorem dX0_gives_49 : decode cX0_gives 49 = .ok (.iload_n 2, 1) := by decide +kernel
theorem dX0_gives_50 : decode cX0_gives 50 = .ok (.iload_n 3, 1) := by decide +kernel
theorem dX0_gives_51 : decode cX0_gives 51 = .ok (.iload 4, 2) := by decide +kernel
theorem dX0_gives_53 : decode cX0_gives 53 = .ok (.invokevirtual 117, 3) := by decide +kernel
theorem dX0_gives_56 : decode cX0_gives 56 = .ok (.goto 7, 3) := by decide +kernel
theorem dX0_gives_59 : decode cX0_gives 59 = .ok (.bipush 10, 2) := by decide +kernel
theorem dX0_gives_61 : decode cX0_gives 61 = .ok (.iload_n 2, 1) := by decide +kernel
theorem dX0_gives_62 : decode cX0_gives 62 = .ok (.imul, 1) := by decide +kernel
theorem dX0_gives_63 : decode cX0_gives 63 = .ok (.sipush 199, 3) := by decide +kernel
theorem dX0_gives_66 : decode cX0_gives 66 = .ok (.invokestatic 121, 3) := by decide +kernel
theorem dX0_gives_69 : decode cX0_gives 69 = .ok (.ireturn, 1) := by decide +kernel
set_option maxRecDepth 20000 in
theorem ggX0_slipsBy_X0_shards : GoodIn wsX0_slipsBy wsX0_shards := goodIn_r _ [8, 9, 10, 11, 12, 13, 14, 15, 16, 17, 18, 19, 20, 21, 22, 23, 24, 25, 26, 27, 28, 29] (by decide +kernel) (by decide +kernel)
set_option maxRecDepth 20000 in
theorem gX0_slipsBy_X0_shards : GoodIn wsX0_slipsBy (wsV RX0 99 RX0 yX0_shards wsX0_shards) := goodIn_app (goodIn_of _ (by decide +kernel)) ggX0_slipsBy_X0_shards
theorem dX0_slipsBy_0 : decode cX0_slipsBy 0 = .ok (.bipush 10, 2) := by decide +kernel
theorem dX0_slipsBy_2 : decode cX0_slipsBy 2 = .ok (.iload_n 2, 1) := by decide +kernel
theorem dX0_slipsBy_3 : decode cX0_slipsBy 3 = .ok (.isub, 1) := by decide +kernel
theorem dX0_slipsBy_4 : decode cX0_slipsBy 4 = .ok (.aload_n 0, 1) := by decide +kernel
theorem dX0_slipsBy_5 : decode cX0_slipsBy 5 = .ok (.getfield 28, 3) := by decide +kernel
theorem dX0_slipsBy_8 : decode cX0_slipsBy 8 = .ok (.iload_n 1, 1) := by decide +kernel
theorem dX0_slipsBy_9 : decode cX0_slipsBy 9 = .ok (.iaload, 1) := by decide +kernel
theorem dX0_slipsBy_10 : decode cX0_slipsBy 10 = .ok (.iadd, 1) := by decide +kernel
theorem dX0_slipsBy_11 : decode cX0_slipsBy 11 = .ok (.istore_n 3, 1) := by decide +kernel
theorem dX0_slipsBy_12 : decode cX0_slipsBy 12 = .ok (.aload_n 0, 1) := by decide +kernel
theorem dX0_slipsBy_13 : decode cX0_slipsBy 13 = .ok (.getfield 25, 3) := by decide +kernel
theorem dX0_slipsBy_16 : decode cX0_slipsBy 16 = .ok (.iload_n 1, 1) := by decide +kernel
theorem dX0_slipsBy_17 : decode cX0_slipsBy 17 = .ok (.iaload, 1) := by decide +kernel
theorem dX0_slipsBy_18 : decode cX0_slipsBy 18 = .ok (.tableswitch 87 1 6 #[38, 42, 46, 55, 66, 75], 38) := by decide +kernel
theorem dX0_slipsBy_56 : decode cX0_slipsBy 56 = .ok (.iload_n 3, 1) := by decide +kernel
theorem dX0_slipsBy_57 : decode cX0_slipsBy 57 = .ok (.iconst 3, 1) := by decide +kernel
theorem dX0_slipsBy_58 : decode cX0_slipsBy 58 = .ok (.iadd, 1) := by decide +kernel
theorem dX0_slipsBy_59 : decode cX0_slipsBy 59 = .ok (.ireturn, 1) := by decide +kernel
theorem dX0_slipsBy_60 : decode cX0_slipsBy 60 = .ok (.iload_n 3, 1) := by decide +kernel
theorem dX0_slipsBy_61 : decode cX0_slipsBy 61 = .ok (.iconst 2, 1) := by decide +kernel
theorem dX0_slipsBy_62 : decode cX0_slipsBy 62 = .ok (.idiv, 1) := by decide +kernel
theorem dX0_slipsBy_63 : decode cX0_slipsBy 63 = .ok (.ireturn, 1) := by decide +kernel
theorem dX0_slipsBy_64 : decode cX0_slipsBy 64 = .ok (.iload_n 3, 1) := by decide +kernel
theorem dX0_slipsBy_65 : decode cX0_slipsBy 65 = .ok (.aload_n 0, 1) := by decide +kernel
theorem dX0_slipsBy_66 : decode cX0_slipsBy 66 = .ok (.getfield 28, 3) := by decide +kernel
theorem dX0_slipsBy_69 : decode cX0_slipsBy 69 = .ok (.iload_n 1, 1) := by decide +kernel
theorem dX0_slipsBy_70 : decode cX0_slipsBy 70 = .ok (.iaload, 1) := by decide +kernel
theorem dX0_slipsBy_71 : decode cX0_slipsBy 71 = .ok (.isub, 1) := by decide +kernel
theorem dX0_slipsBy_72 : decode cX0_slipsBy 72 = .ok (.ireturn, 1) := by decide +kernel
theorem dX0_slipsBy_73 : decode cX0_slipsBy 73 = .ok (.iload_n 3, 1) := by decide +kernel
theorem dX0_slipsBy_74 : decode cX0_slipsBy 74 = .ok (.iconst 3, 1) := by decide +kernel
theorem dX0_slipsBy_75 : decode cX0_slipsBy 75 = .ok (.iadd, 1) := by decide +kernel
theorem dX0_slipsBy_76 : decode cX0_slipsBy 76 = .ok (.aload_n 0, 1) := by decide +kernel
theorem dX0_slipsBy_77 : decode cX0_slipsBy 77 = .ok (.getfield 50, 3) := by decide +kernel
theorem dX0_slipsBy_80 : decode cX0_slipsBy 80 = .ok (.iconst 3, 1) := by decide +kernel
theorem dX0_slipsBy_81 : decode cX0_slipsBy 81 = .ok (.irem, 1) := by decide +kernel
theorem dX0_slipsBy_82 : decode cX0_slipsBy 82 = .ok (.iadd, 1) := by decide +kernel
theorem dX0_slipsBy_83 : decode cX0_slipsBy 83 = .ok (.ireturn, 1) := by decide +kernel
theorem dX0_slipsBy_84 : decode cX0_slipsBy 84 = .ok (.iload_n 3, 1) := by decide +kernel
theorem dX0_slipsBy_85 : decode cX0_slipsBy 85 = .ok (.iconst 2, 1) := by decide +kernel
theorem dX0_slipsBy_86 : decode cX0_slipsBy 86 = .ok (.idiv, 1) := by decide +kernel
theorem dX0_slipsBy_87 : decode cX0_slipsBy 87 = .ok (.aload_n 0, 1) := by decide +kernel
theorem dX0_slipsBy_88 : decode cX0_slipsBy 88 = .ok (.invokevirtual 99, 3) := by decide +kernel
theorem dX0_slipsBy_91 : decode cX0_slipsBy 91 = .ok (.iadd, 1) := by decide +kernel
theorem dX0_slipsBy_92 : decode cX0_slipsBy 92 = .ok (.ireturn, 1) := by decide +kernel
theorem dX0_slipsBy_93 : decode cX0_slipsBy 93 = .ok (.iload_n 2, 1) := by decide +kernel
theorem dX0_slipsBy_94 : decode cX0_slipsBy 94 = .ok (.bipush 6, 2) := by decide +kernel
theorem dX0_slipsBy_96 : decode cX0_slipsBy 96 = .ok (.if_icmp .le 7, 3) := by decide +kernel
theorem dX0_slipsBy_99 : decode cX0_slipsBy 99 = .ok (.iconst 0, 1) := by decide +kernel
theorem dX0_slipsBy_100 : decode cX0_slipsBy 100 = .ok (.goto 4, 3) := by decide +kernel
theorem dX0_slipsBy_103 : decode cX0_slipsBy 103 = .ok (.iload_n 3, 1) := by decide +kernel
theorem dX0_slipsBy_104 : decode cX0_slipsBy 104 = .ok (.ireturn, 1) := by decide +kernel
theorem dX0_slipsBy_105 : decode cX0_slipsBy 105 = .ok (.iload_n 3, 1) := by decide +kernel
theorem dX0_slipsBy_106 : decode cX0_slipsBy 106 = .ok (.ireturn, 1) := by decide +kernel
set_option maxRecDepth 20000 in
theorem ggX0_countsOn_X0_shards : GoodIn wsX0_countsOn wsX0_shards := goodIn_r _ [7, 8, 9, 10, 11, 12, 13, 14, 15, 16, 17, 18, 19, 20, 21, 22, 23, 24, 25, 26, 27, 28] (by decide +kernel) (by decide +kernel)
set_option maxRecDepth 20000 in
theorem gX0_countsOn_X0_shards : GoodIn wsX0_countsOn (wsV RX0 99 RX0 yX0_shards wsX0_shards) := goodIn_app (goodIn_of _ (by decide +kernel)) ggX0_countsOn_X0_shards
theorem dX0_countsOn_0 : decode cX0_countsOn 0 = .ok (.iload_n 2, 1) := by decide +kernel
theorem dX0_countsOn_1 : decode cX0_countsOn 1 = .ok (.iconst 2, 1) := by decide +kernel
theorem dX0_countsOn_2 : decode cX0_countsOn 2 = .ok (.irem, 1) := by decide +kernel
theorem dX0_countsOn_3 : decode cX0_countsOn 3 = .ok (.ifCond .eq 13, 3) := by decide +kernel
theorem dX0_countsOn_6 : decode cX0_countsOn 6 = .ok (.aload_n 0, 1) := by decide +kernel
theorem dX0_countsOn_7 : decode cX0_countsOn 7 = .ok (.getfield 28, 3) := by decide +kernel
theorem dX0_countsOn_10 : decode cX0_countsOn 10 = .ok (.iload_n 1, 1) := by decide +kernel
theorem dX0_countsOn_11 : decode cX0_countsOn 11 = .ok (.iaload, 1) := by decide +kernel
theorem dX0_countsOn_12 : decode cX0_countsOn 12 = .ok (.iconst 4, 1) := by decide +kernel
theorem dX0_countsOn_13 : decode cX0_countsOn 13 = .ok (.if_icmp .le 7, 3) := by decide +kernel
theorem dX0_countsOn_16 : decode cX0_countsOn 16 = .ok (.iconst 1, 1) := by decide +kernel
theorem dX0_countsOn_17 : decode cX0_countsOn 17 = .ok (.goto 4, 3) := by decide +kernel
theorem dX0_countsOn_20 : decode cX0_countsOn 20 = .ok (.iconst 0, 1) := by decide +kernel
theorem dX0_countsOn_21 : decode cX0_countsOn 21 = .ok (.istore_n 3, 1) := by decide +kernel
theorem dX0_countsOn_22 : decode cX0_countsOn 22 = .ok (.aload_n 0, 1) := by decide +kernel
theorem dX0_countsOn_23 : decode cX0_countsOn 23 = .ok (.getfield 25, 3) := by decide +kernel
theorem dX0_countsOn_26 : decode cX0_countsOn 26 = .ok (.iload_n 1, 1) := by decide +kernel
theorem dX0_countsOn_27 : decode cX0_countsOn 27 = .ok (.iaload, 1) := by decide +kernel
theorem dX0_countsOn_28 : decode cX0_countsOn 28 = .ok (.tableswitch 86 2 6 #[36, 38, 55, 68, 84], 36) := by decide +kernel
theorem dX0_countsOn_64 : decode cX0_countsOn 64 = .ok (.iload_n 3, 1) := by decide +kernel
theorem dX0_countsOn_65 : decode cX0_countsOn 65 = .ok (.ireturn, 1) := by decide +kernel
theorem dX0_countsOn_66 : decode cX0_countsOn 66 = .ok (.aload_n 0, 1) := by decide +kernel
theorem dX0_countsOn_67 : decode cX0_countsOn 67 = .ok (.getfield 28, 3) := by decide +kernel
theorem dX0_countsOn_70 : decode cX0_countsOn 70 = .ok (.iload_n 1, 1) := by decide +kernel
theorem dX0_countsOn_71 : decode cX0_countsOn 71 = .ok (.iaload, 1) := by decide +kernel
theorem dX0_countsOn_72 : decode cX0_countsOn 72 = .ok (.bipush 8, 2) := by decide +kernel
theorem dX0_countsOn_74 : decode cX0_countsOn 74 = .ok (.if_icmp .ge 7, 3) := by decide +kernel
theorem dX0_countsOn_77 : decode cX0_countsOn 77 = .ok (.iconst 1, 1) := by decide +kernel
theorem dX0_countsOn_78 : decode cX0_countsOn 78 = .ok (.goto 4, 3) := by decide +kernel
theorem dX0_countsOn_81 : decode cX0_countsOn 81 = .ok (.iconst 0, 1) := by decide +kernel
theorem dX0_countsOn_82 : decode cX0_countsOn 82 = .ok (.ireturn, 1) := by decide +kernel
theorem dX0_countsOn_83 : decode cX0_countsOn 83 = .ok (.aload_n 0, 1) := by decide +kernel
theorem dX0_countsOn_84 : decode cX0_countsOn 84 = .ok (.invokevirtual 99, 3) := by decide +kernel
theorem dX0_countsOn_87 : decode cX0_countsOn 87 = .ok (.ifCond .le 7, 3) := by decide +kernel
theorem dX0_countsOn_90 : decode cX0_countsOn 90 = .ok (.iconst 1, 1) := by decide +kernel
theorem dX0_countsOn_91 : decode cX0_countsOn 91 = .ok (.goto 4, 3) := by decide +kernel
theorem dX0_countsOn_94 : decode cX0_countsOn 94 = .ok (.iconst 0, 1) := by decide +kernel
theorem dX0_countsOn_95 : decode cX0_countsOn 95 = .ok (.ireturn, 1) := by decide +kernel
theorem dX0_countsOn_96 : decode cX0_countsOn 96 = .ok (.iload_n 3, 1) := by decide +kernel
theorem dX0_countsOn_97 : decode cX0_countsOn 97 = .ok (.ifCond .ne 9, 3) := by decide +kernel
theorem dX0_countsOn_100 : decode cX0_countsOn 100 = .ok (.iload_n 2, 1) := by decide +kernel
theorem dX0_countsOn_101 : decode cX0_countsOn 101 = .ok (.bipush 100, 2) := by decide +kernel
theorem dX0_countsOn_103 : decode cX0_countsOn 103 = .ok (.if_icmp .le 7, 3) := by decide +kernel
theorem dX0_countsOn_106 : decode cX0_countsOn 106 = .ok (.iconst 1, 1) := by decide +kernel
theorem dX0_countsOn_107 : decode cX0_countsOn 107 = .ok (.goto 4, 3) := by decide +kernel
theorem dX0_countsOn_110 : decode cX0_countsOn 110 = .ok (.iconst 0, 1) := by decide +kernel
theorem dX0_countsOn_111 : decode cX0_countsOn 111 = .ok (.ireturn, 1) := by decide +kernel
theorem dX0_countsOn_112 : decode cX0_countsOn 112 = .ok (.iconst 0, 1) := by decide +kernel
theorem dX0_countsOn_113 : decode cX0_countsOn 113 = .ok (.ireturn, 1) := by decide +kernel
theorem dX0_countsOn_114 : decode cX0_countsOn 114 = .ok (.iconst 1, 1) := by decide +kernel
theorem dX0_countsOn_115 : decode cX0_countsOn 115 = .ok (.ireturn, 1) := by decide +kernel
set_option maxRecDepth 20000 in
theorem ggX0_breakPiece_X0_countsOn : GoodIn wsX0_breakPiece wsX0_countsOn := goodIn_r _ [9, 10, 11, 12, 13, 14, 8, 15, 16, 4, 17, 18, 19, 20, 21, 22, 23, 24, 25, 26, 27, 28, 29, 30, 31, 32, 33, 34, 35] (by decide +kernel) (by decide +kernel)
set_option maxRecDepth 20000 in
theorem gX0_breakPiece_X0_countsOn : GoodIn wsX0_breakPiece (wsV RX0 124 RX0 yX0_countsOn wsX0_countsOn) := goodIn_app (goodIn_of _ (by decide +kernel)) ggX0_breakPiece_X0_countsOn
theorem dX0_breakPiece_0 : decode cX0_breakPiece 0 = .ok (.aload_n 0, 1) := by decide +kernel
theorem dX0_breakPiece_1 : decode cX0_breakPiece 1 = .ok (.iload_n 1, 1) := by decide +kernel
theorem dX0_breakPiece_2 : decode cX0_breakPiece 2 = .ok (.aload_n 0, 1) := by decide +kernel
theorem dX0_breakPiece_3 : decode cX0_breakPiece 3 = .ok (.getfield 50, 3) := by decide +kernel
theorem dX0_breakPiece_6 : decode cX0_breakPiece 6 = .ok (.invokevirtual 124, 3) := by decide +kernel
theorem dX0_breakPiece_9 : decode cX0_breakPiece 9 = .ok (.istore_n 2, 1) := by decide +kernel
theorem dX0_breakPiece_10 : decode cX0_breakPiece 10 = .ok (.aload_n 0, 1) := by decide +kernel
theorem dX0_breakPiece_11 : decode cX0_breakPiece 11 = .ok (.getfield 31, 3) := by decide +kernel
theorem dX0_breakPiece_14 : decode cX0_breakPiece 14 = .ok (.iload_n 1, 1) := by decide +kernel
theorem dX0_breakPiece_15 : decode cX0_breakPiece 15 = .ok (.iaload, 1) := by decide +kernel
theorem dX0_breakPiece_16 : decode cX0_breakPiece 16 = .ok (.istore_n 3, 1) := by decide +kernel
theorem dX0_breakPiece_17 : decode cX0_breakPiece 17 = .ok (.iload_n 2, 1) := by decide +kernel
theorem dX0_breakPiece_18 : decode cX0_breakPiece 18 = .ok (.ifCond .eq 25, 3) := by decide +kernel
theorem dX0_breakPiece_21 : decode cX0_breakPiece 21 = .ok (.aload_n 0, 1) := by decide +kernel
theorem dX0_breakPiece_22 : decode cX0_breakPiece 22 = .ok (.getfield 22, 3) := by decide +kernel
theorem dX0_breakPiece_25 : decode cX0_breakPiece 25 = .ok (.iload_n 3, 1) := by decide +kernel
theorem dX0_breakPiece_26 : decode cX0_breakPiece 26 = .ok (.iaload, 1) := by decide +kernel
theorem dX0_breakPiece_27 : decode cX0_breakPiece 27 = .ok (.sipush 9999, 3) := by decide +kernel
theorem dX0_breakPiece_30 : decode cX0_breakPiece 30 = .ok (.if_icmp .ge 13, 3) := by decide +kernel
theorem dX0_breakPiece_33 : decode cX0_breakPiece 33 = .ok (.aload_n 0, 1) := by decide +kernel
theorem dX0_breakPiece_34 : decode cX0_breakPiece 34 = .ok (.getfield 22, 3) := by decide +kernel
theorem dX0_breakPiece_37 : decode cX0_breakPiece 37 = .ok (.iload_n 3, 1) := by decide +kernel
theorem dX0_breakPiece_38 : decode cX0_breakPiece 38 = .ok (.dup2, 1) := by decide +kernel
theorem dX0_breakPiece_39 : decode cX0_breakPiece 39 = .ok (.iaload, 1) := by decide +kernel
theorem dX0_breakPiece_40 : decode cX0_breakPiece 40 = .ok (.iconst 1, 1) := by decide +kernel
theorem dX0_breakPiece_41 : decode cX0_breakPiece 41 = .ok (.iadd, 1) := by decide +kernel
theorem dX0_breakPiece_42 : decode cX0_breakPiece 42 = .ok (.iastore, 1) := by decide +kernel
theorem dX0_breakPiece_43 : decode cX0_breakPiece 43 = .ok (.aload_n 0, 1) := by decide +kernel
theorem dX0_breakPiece_44 : decode cX0_breakPiece 44 = .ok (.getfield 34, 3) := by decide +kernel
theorem dX0_breakPiece_47 : decode cX0_breakPiece 47 = .ok (.iload_n 1, 1) := by decide +kernel
theorem dX0_breakPiece_48 : decode cX0_breakPiece 48 = .ok (.iconst 1, 1) := by decide +kernel
theorem dX0_breakPiece_49 : decode cX0_breakPiece 49 = .ok (.iastore, 1) := by decide +kernel
theorem dX0_breakPiece_50 : decode cX0_breakPiece 50 = .ok (.iload_n 2, 1) := by decide +kernel
theorem dX0_breakPiece_51 : decode cX0_breakPiece 51 = .ok (.ireturn, 1) := by decide +kernel
set_option maxRecDepth 20000 in
theorem ggX0_dayByDraws_X0_isThrough : GoodIn wsX0_dayByDraws wsX0_isThrough := goodIn_r _ [9, 10, 11, 80, 81, 82, 83, 84, 85, 86, 87, 88, 89, 90, 91, 92, 93, 94, 95] (by decide +kernel) (by decide +kernel)
set_option maxRecDepth 20000 in
theorem gX0_dayByDraws_X0_isThrough : GoodIn wsX0_dayByDraws (wsV RX0 128 RX0 yX0_isThrough wsX0_isThrough) := goodIn_app (goodIn_of _ (by decide +kernel)) ggX0_dayByDraws_X0_isThrough
set_option maxRecDepth 20000 in
theorem ggX0_dayByDraws_X0_draw : GoodIn wsX0_dayByDraws wsX0_draw := goodIn_r _ [15, 16, 17, 80, 81, 82, 83, 84, 85, 86, 87, 88, 89, 90, 91, 92, 93, 94, 95] (by decide +kernel) (by decide +kernel)
set_option maxRecDepth 20000 in
theorem gX0_dayByDraws_X0_draw : GoodIn wsX0_dayByDraws (wsV RX0 132 RX0 yX0_draw wsX0_draw) := goodIn_app (goodIn_of _ (by decide +kernel)) ggX0_dayByDraws_X0_draw
set_option maxRecDepth 20000 in
theorem ggX0_dayByDraws_X0_riskIn : GoodIn wsX0_dayByDraws wsX0_riskIn := goodIn_r _ [21, 22, 23, 24, 25, 8, 26, 4, 27, 28, 29, 30, 31, 32, 33, 34, 35, 36, 1, 3, 37, 38, 39, 40, 41, 42, 43, 44, 45, 46, 47, 48, 49, 50, 51, 52, 53, 54, 55, 56, 57, 58, 59, 60, 61, 62, 63, 64, 65, 66, 67, 68, 69, 70, 71, 80, 81, 82, 83, 84, 85, 86, 87, 88, 89, 90, 91, 92, 93, 94, 95, 96, 97, 98] (by decide +kernel) (by decide +kernel)
set_option maxRecDepth 20000 in
theorem gX0_dayByDraws_X0_riskIn : GoodIn wsX0_dayByDraws (wsV RX0 135 RX0 yX0_riskIn wsX0_riskIn) := goodIn_app (goodIn_of _ (by decide +kernel)) ggX0_dayByDraws_X0_riskIn
set_option maxRecDepth 20000 in
theorem ggX0_dayByDraws_X0_breakPiece : GoodIn wsX0_dayByDraws wsX0_breakPiece := goodIn_r _ [75, 4, 2, 10, 3, 76, 77, 78, 8, 79, 31, 32, 33, 34, 35, 36, 1, 37, 38, 39, 80, 81, 82, 83, 84, 85, 86, 87, 88, 89, 90, 91, 92, 93, 94, 95] (by decide +kernel) (by decide +kernel)
set_option maxRecDepth 20000 in
theorem gX0_dayByDraws_X0_breakPiece : GoodIn wsX0_dayByDraws (wsV RX0 138 RX0 yX0_breakPiece wsX0_breakPiece) := goodIn_app (goodIn_of _ (by decide +kernel)) ggX0_dayByDraws_X0_breakPiece
theorem dX0_dayByDraws_0 : decode cX0_dayByDraws 0 = .ok (.iconst 0, 1) := by decide +kernel
theorem dX0_dayByDraws_1 : decode cX0_dayByDraws 1 = .ok (.istore_n 1, 1) := by decide +kernel
theorem dX0_dayByDraws_2 : decode cX0_dayByDraws 2 = .ok (.iconst 0, 1) := by decide +kernel
theorem dX0_dayByDraws_3 : decode cX0_dayByDraws 3 = .ok (.istore_n 2, 1) := by decide +kernel
theorem dX0_dayByDraws_4 : decode cX0_dayByDraws 4 = .ok (.iload_n 2, 1) := by decide +kernel
theorem dX0_dayByDraws_5 : decode cX0_dayByDraws 5 = .ok (.aload_n 0, 1) := by decide +kernel
theorem dX0_dayByDraws_6 : decode cX0_dayByDraws 6 = .ok (.getfield 56, 3) := by decide +kernel
theorem dX0_dayByDraws_9 : decode cX0_dayByDraws 9 = .ok (.if_icmp .ge 58, 3) := by decide +kernel
theorem dX0_dayByDraws_12 : decode cX0_dayByDraws 12 = .ok (.aload_n 0, 1) := by decide +kernel
theorem dX0_dayByDraws_13 : decode cX0_dayByDraws 13 = .ok (.getfield 31, 3) := by decide +kernel
theorem dX0_dayByDraws_16 : decode cX0_dayByDraws 16 = .ok (.iload_n 2, 1) := by decide +kernel
theorem dX0_dayByDraws_17 : decode cX0_dayByDraws 17 = .ok (.iaload, 1) := by decide +kernel
theorem dX0_dayByDraws_18 : decode cX0_dayByDraws 18 = .ok (.istore_n 3, 1) := by decide +kernel
theorem dX0_dayByDraws_19 : decode cX0_dayByDraws 19 = .ok (.aload_n 0, 1) := by decide +kernel
theorem dX0_dayByDraws_20 : decode cX0_dayByDraws 20 = .ok (.getfield 34, 3) := by decide +kernel
theorem dX0_dayByDraws_23 : decode cX0_dayByDraws 23 = .ok (.iload_n 2, 1) := by decide +kernel
theorem dX0_dayByDraws_24 : decode cX0_dayByDraws 24 = .ok (.iaload, 1) := by decide +kernel
theorem dX0_dayByDraws_25 : decode cX0_dayByDraws 25 = .ok (.ifCond .ne 36, 3) := by decide +kernel
theorem dX0_dayByDraws_28 : decode cX0_dayByDraws 28 = .ok (.aload_n 0, 1) := by decide +kernel
theorem dX0_dayByDraws_29 : decode cX0_dayByDraws 29 = .ok (.iload_n 3, 1) := by decide +kernel
theorem dX0_dayByDraws_30 : decode cX0_dayByDraws 30 = .ok (.invokevirtual 128, 3) := by decide +kernel
theorem dX0_dayByDraws_33 : decode cX0_dayByDraws 33 = .ok (.ifCond .ne 28, 3) := by decide +kernel
theorem dX0_dayByDraws_36 : decode cX0_dayByDraws 36 = .ok (.aload_n 0, 1) := by decide +kernel
theorem dX0_dayByDraws_37 : decode cX0_dayByDraws 37 = .ok (.invokevirtual 132, 3) := by decide +kernel
theorem dX0_dayByDraws_40 : decode cX0_dayByDraws 40 = .ok (.bipush 16, 2) := by decide +kernel
theorem dX0_dayByDraws_42 : decode cX0_dayByDraws 42 = .ok (.irem, 1) := by decide +kernel
theorem dX0_dayByDraws_43 : decode cX0_dayByDraws 43 = .ok (.aload_n 0, 1) := by decide +kernel
theorem dX0_dayByDraws_44 : decode cX0_dayByDraws 44 = .ok (.iload_n 2, 1) := by decide +kernel
theorem dX0_dayByDraws_45 : decode cX0_dayByDraws 45 = .ok (.iload_n 3, 1) := by decide +kernel
theorem dX0_dayByDraws_46 : decode cX0_dayByDraws 46 = .ok (.invokevirtual 135, 3) := by decide +kernel
theorem dX0_dayByDraws_49 : decode cX0_dayByDraws 49 = .ok (.if_icmp .ge 12, 3) := by decide +kernel
theorem dX0_dayByDraws_52 : decode cX0_dayByDraws 52 = .ok (.aload_n 0, 1) := by decide +kernel
theorem dX0_dayByDraws_53 : decode cX0_dayByDraws 53 = .ok (.iload_n 2, 1) := by decide +kernel
theorem dX0_dayByDraws_54 : decode cX0_dayByDraws 54 = .ok (.invokevirtual 138, 3) := by decide +kernel
theorem dX0_dayByDraws_57 : decode cX0_dayByDraws 57 = .ok (.pop, 1) := by decide +kernel
theorem dX0_dayByDraws_58 : decode cX0_dayByDraws 58 = .ok (.iinc 1 1, 3) := by decide +kernel
theorem dX0_dayByDraws_61 : decode cX0_dayByDraws 61 = .ok (.iinc 2 1, 3) := by decide +kernel
theorem dX0_dayByDraws_64 : decode cX0_dayByDraws 64 = .ok (.goto (-60), 3) := by decide +kernel
theorem dX0_dayByDraws_67 : decode cX0_dayByDraws 67 = .ok (.aload_n 0, 1) := by decide +kernel
theorem dX0_dayByDraws_68 : decode cX0_dayByDraws 68 = .ok (.dup, 1) := by decide +kernel
theorem dX0_dayByDraws_69 : decode cX0_dayByDraws 69 = .ok (.getfield 50, 3) := by decide +kernel
theorem dX0_dayByDraws_72 : decode cX0_dayByDraws 72 = .ok (.iconst 1, 1) := by decide +kernel
theorem dX0_dayByDraws_73 : decode cX0_dayByDraws 73 = .ok (.iadd, 1) := by decide +kernel
theorem dX0_dayByDraws_74 : decode cX0_dayByDraws 74 = .ok (.putfield 50, 3) := by decide +kernel
theorem dX0_dayByDraws_77 : decode cX0_dayByDraws 77 = .ok (.iload_n 1, 1) := by decide +kernel
theorem dX0_dayByDraws_78 : decode cX0_dayByDraws 78 = .ok (.ireturn, 1) := by decide +kernel
theorem dX0_draw_0 : decode cX0_draw 0 = .ok (.aload_n 0, 1) := by decide +kernel
theorem dX0_draw_1 : decode cX0_draw 1 = .ok (.aload_n 0, 1) := by decide +kernel
theorem dX0_draw_2 : decode cX0_draw 2 = .ok (.getfield 9, 3) := by decide +kernel
theorem dX0_draw_5 : decode cX0_draw 5 = .ok (.ldc 141, 2) := by decide +kernel
theorem dX0_draw_7 : decode cX0_draw 7 = .ok (.imul, 1) := by decide +kernel
theorem dX0_draw_8 : decode cX0_draw 8 = .ok (.sipush 12345, 3) := by decide +kernel
theorem dX0_draw_11 : decode cX0_draw 11 = .ok (.iadd, 1) := by decide +kernel
theorem dX0_draw_12 : decode cX0_draw 12 = .ok (.putfield 9, 3) := by decide +kernel
theorem dX0_draw_15 : decode cX0_draw 15 = .ok (.aload_n 0, 1) := by decide +kernel
theorem dX0_draw_16 : decode cX0_draw 16 = .ok (.getfield 9, 3) := by decide +kernel
theorem dX0_draw_19 : decode cX0_draw 19 = .ok (.bipush 8, 2) := by decide +kernel
theorem dX0_draw_21 : decode cX0_draw 21 = .ok (.iushr, 1) := by decide +kernel
theorem dX0_draw_22 : decode cX0_draw 22 = .ok (.ireturn, 1) := by decide +kernel
theorem dX0_tapeBytes_0 : decode cX0_tapeBytes 0 = .ok (.iconst 0, 1) := by decide +kernel
theorem dX0_tapeBytes_1 : decode cX0_tapeBytes 1 = .ok (.istore 4, 2) := by decide +kernel
theorem dX0_tapeBytes_3 : decode cX0_tapeBytes 3 = .ok (.iload 4, 2) := by decide +kernel
theorem dX0_tapeBytes_5 : decode cX0_tapeBytes 5 = .ok (.iload_n 3, 1) := by decide +kernel
theorem dX0_tapeBytes_6 : decode cX0_tapeBytes 6 = .ok (.if_icmp .ge 49, 3) := by decide +kernel
theorem dX0_tapeBytes_9 : decode cX0_tapeBytes 9 = .ok (.aload_n 0, 1) := by decide +kernel
theorem dX0_tapeBytes_10 : decode cX0_tapeBytes 10 = .ok (.getfield 59, 3) := by decide +kernel
theorem dX0_tapeBytes_13 : decode cX0_tapeBytes 13 = .ok (.bipush 60, 2) := by decide +kernel
theorem dX0_tapeBytes_15 : decode cX0_tapeBytes 15 = .ok (.if_icmp .ge 40, 3) := by decide +kernel
theorem dX0_tapeBytes_18 : decode cX0_tapeBytes 18 = .ok (.aload_n 0, 1) := by decide +kernel
theorem dX0_tapeBytes_19 : decode cX0_tapeBytes 19 = .ok (.getfield 37, 3) := by decide +kernel
theorem dX0_tapeBytes_22 : decode cX0_tapeBytes 22 = .ok (.aload_n 0, 1) := by decide +kernel
theorem dX0_tapeBytes_23 : decode cX0_tapeBytes 23 = .ok (.getfield 59, 3) := by decide +kernel
theorem dX0_tapeBytes_26 : decode cX0_tapeBytes 26 = .ok (.lload_n 1, 1) := by decide +kernel
theorem dX0_tapeBytes_27 : decode cX0_tapeBytes 27 = .ok (.bipush 8, 2) := by decide +kernel
theorem dX0_tapeBytes_29 : decode cX0_tapeBytes 29 = .ok (.iload 4, 2) := by decide +kernel
theorem dX0_tapeBytes_31 : decode cX0_tapeBytes 31 = .ok (.imul, 1) := by decide +kernel
theorem dX0_tapeBytes_32 : decode cX0_tapeBytes 32 = .ok (.lushr, 1) := by decide +kernel
theorem dX0_tapeBytes_33 : decode cX0_tapeBytes 33 = .ok (.ldc2_w 142, 3) := by decide +kernel
theorem dX0_tapeBytes_36 : decode cX0_tapeBytes 36 = .ok (.land, 1) := by decide +kernel
theorem dX0_tapeBytes_37 : decode cX0_tapeBytes 37 = .ok (.l2i, 1) := by decide +kernel
theorem dX0_tapeBytes_38 : decode cX0_tapeBytes 38 = .ok (.iastore, 1) := by decide +kernel
theorem dX0_tapeBytes_39 : decode cX0_tapeBytes 39 = .ok (.aload_n 0, 1) := by decide +kernel
theorem dX0_tapeBytes_40 : decode cX0_tapeBytes 40 = .ok (.dup, 1) := by decide +kernel
theorem dX0_tapeBytes_41 : decode cX0_tapeBytes 41 = .ok (.getfield 59, 3) := by decide +kernel
theorem dX0_tapeBytes_44 : decode cX0_tapeBytes 44 = .ok (.iconst 1, 1) := by decide +kernel
theorem dX0_tapeBytes_45 : decode cX0_tapeBytes 45 = .ok (.iadd, 1) := by decide +kernel
theorem dX0_tapeBytes_46 : decode cX0_tapeBytes 46 = .ok (.putfield 59, 3) := by decide +kernel
theorem dX0_tapeBytes_49 : decode cX0_tapeBytes 49 = .ok (.iinc 4 1, 3) := by decide +kernel
theorem dX0_tapeBytes_52 : decode cX0_tapeBytes 52 = .ok (.goto (-49), 3) := by decide +kernel
theorem dX0_tapeBytes_55 : decode cX0_tapeBytes 55 = .ok (.aload_n 0, 1) := by decide +kernel
theorem dX0_tapeBytes_56 : decode cX0_tapeBytes 56 = .ok (.getfield 59, 3) := by decide +kernel
theorem dX0_tapeBytes_59 : decode cX0_tapeBytes 59 = .ok (.ireturn, 1) := by decide +kernel
set_option maxRecDepth 20000 in
theorem ggX0_takeCares_X6_within : GoodIn wsX0_takeCares wsX6_within := goodIn_r _ [7] (by decide +kernel) (by decide +kernel)
set_option maxRecDepth 20000 in
theorem gX0_takeCares_X6_within_n152 : GoodIn wsX0_takeCares (wsX6_within) := ggX0_takeCares_X6_within
theorem dX0_takeCares_0 : decode cX0_takeCares 0 = .ok (.iconst 0, 1) := by decide +kernel
theorem dX0_takeCares_1 : decode cX0_takeCares 1 = .ok (.istore_n 2, 1) := by decide +kernel
theorem dX0_takeCares_2 : decode cX0_takeCares 2 = .ok (.iload_n 2, 1) := by decide +kernel
theorem dX0_takeCares_3 : decode cX0_takeCares 3 = .ok (.aload_n 1, 1) := by decide +kernel
theorem dX0_takeCares_4 : decode cX0_takeCares 4 = .ok (.getfield 144, 3) := by decide +kernel
theorem dX0_takeCares_7 : decode cX0_takeCares 7 = .ok (.if_icmp .ge 43, 3) := by decide +kernel
theorem dX0_takeCares_10 : decode cX0_takeCares 10 = .ok (.iload_n 2, 1) := by decide +kernel
theorem dX0_takeCares_11 : decode cX0_takeCares 11 = .ok (.aload_n 0, 1) := by decide +kernel
theorem dX0_takeCares_12 : decode cX0_takeCares 12 = .ok (.getfield 53, 3) := by decide +kernel
theorem dX0_takeCares_15 : decode cX0_takeCares 15 = .ok (.if_icmp .ge 35, 3) := by decide +kernel
theorem dX0_takeCares_18 : decode cX0_takeCares 18 = .ok (.aload_n 1, 1) := by decide +kernel
theorem dX0_takeCares_19 : decode cX0_takeCares 19 = .ok (.getfield 149, 3) := by decide +kernel
theorem dX0_takeCares_22 : decode cX0_takeCares 22 = .ok (.iload_n 2, 1) := by decide +kernel
theorem dX0_takeCares_23 : decode cX0_takeCares 23 = .ok (.iaload, 1) := by decide +kernel
theorem dX0_takeCares_24 : decode cX0_takeCares 24 = .ok (.bipush 9, 2) := by decide +kernel
theorem dX0_takeCares_26 : decode cX0_takeCares 26 = .ok (.invokestatic 152, 3) := by decide +kernel
theorem dX0_takeCares_29 : decode cX0_takeCares 29 = .ok (.ifCond .eq 21, 3) := by decide +kernel
theorem dX0_takeCares_32 : decode cX0_takeCares 32 = .ok (.aload_n 0, 1) := by decide +kernel
theorem dX0_takeCares_33 : decode cX0_takeCares 33 = .ok (.getfield 15, 3) := by decide +kernel
theorem dX0_takeCares_36 : decode cX0_takeCares 36 = .ok (.iload_n 2, 1) := by decide +kernel
theorem dX0_takeCares_37 : decode cX0_takeCares 37 = .ok (.aload_n 1, 1) := by decide +kernel
theorem dX0_takeCares_38 : decode cX0_takeCares 38 = .ok (.getfield 149, 3) := by decide +kernel
theorem dX0_takeCares_41 : decode cX0_takeCares 41 = .ok (.iload_n 2, 1) := by decide +kernel
theorem dX0_takeCares_42 : decode cX0_takeCares 42 = .ok (.iaload, 1) := by decide +kernel
theorem dX0_takeCares_43 : decode cX0_takeCares 43 = .ok (.iastore, 1) := by decide +kernel
theorem dX0_takeCares_44 : decode cX0_takeCares 44 = .ok (.iinc 2 1, 3) := by decide +kernel
theorem dX0_takeCares_47 : decode cX0_takeCares 47 = .ok (.goto (-45), 3) := by decide +kernel
theorem dX0_takeCares_50 : decode cX0_takeCares 50 = .ok (.iload_n 2, 1) := by decide +kernel
theorem dX0_takeCares_51 : decode cX0_takeCares 51 = .ok (.ireturn, 1) := by decide +kernel
theorem dX0_rightStates_0 : decode cX0_rightStates 0 = .ok (.iconst 0, 1) := by decide +kernel
theorem dX0_rightStates_1 : decode cX0_rightStates 1 = .ok (.istore_n 2, 1) := by decide +kernel
theorem dX0_rightStates_2 : decode cX0_rightStates 2 = .ok (.iload_n 2, 1) := by decide +kernel
theorem dX0_rightStates_3 : decode cX0_rightStates 3 = .ok (.aload_n 1, 1) := by decide +kernel
theorem dX0_rightStates_4 : decode cX0_rightStates 4 = .ok (.getfield 144, 3) := by decide +kernel
theorem dX0_rightStates_7 : decode cX0_rightStates 7 = .ok (.if_icmp .ge 32, 3) := by decide +kernel
theorem dX0_rightStates_10 : decode cX0_rightStates 10 = .ok (.iload_n 2, 1) := by decide +kernel
theorem dX0_rightStates_11 : decode cX0_rightStates 11 = .ok (.aload_n 0, 1) := by decide +kernel
theorem dX0_rightStates_12 : decode cX0_rightStates 12 = .ok (.getfield 56, 3) := by decide +kernel
theorem dX0_rightStates_15 : decode cX0_rightStates 15 = .ok (.if_icmp .ge 24, 3) := by decide +kernel
theorem dX0_rightStates_18 : decode cX0_rightStates 18 = .ok (.aload_n 1, 1) := by decide +kernel
theorem dX0_rightStates_19 : decode cX0_rightStates 19 = .ok (.getfield 149, 3) := by decide +kernel
theorem dX0_rightStates_22 : decode cX0_rightStates 22 = .ok (.iload_n 2, 1) := by decide +kernel
theorem dX0_rightStates_23 : decode cX0_rightStates 23 = .ok (.iaload, 1) := by decide +kernel
theorem dX0_rightStates_24 : decode cX0_rightStates 24 = .ok (.aload_n 0, 1) := by decide +kernel
theorem dX0_rightStates_25 : decode cX0_rightStates 25 = .ok (.getfield 34, 3) := by decide +kernel
theorem dX0_rightStates_28 : decode cX0_rightStates 28 = .ok (.iload_n 2, 1) := by decide +kernel
theorem dX0_rightStates_29 : decode cX0_rightStates 29 = .ok (.iaload, 1) := by decide +kernel
theorem dX0_rightStates_30 : decode cX0_rightStates 30 = .ok (.if_icmp .ne 9, 3) := by decide +kernel
theorem dX0_rightStates_33 : decode cX0_rightStates 33 = .ok (.iinc 2 1, 3) := by decide +kernel
theorem dX0_rightStates_36 : decode cX0_rightStates 36 = .ok (.goto (-34), 3) := by decide +kernel
theorem dX0_rightStates_39 : decode cX0_rightStates 39 = .ok (.iload_n 2, 1) := by decide +kernel
theorem dX0_rightStates_40 : decode cX0_rightStates 40 = .ok (.ireturn, 1) := by decide +kernel
theorem dX0_firstWrongHad_0 : decode cX0_firstWrongHad 0 = .ok (.iconst 0, 1) := by decide +kernel
theorem dX0_firstWrongHad_1 : decode cX0_firstWrongHad 1 = .ok (.istore_n 1, 1) := by decide +kernel
theorem dX0_firstWrongHad_2 : decode cX0_firstWrongHad 2 = .ok (.iload_n 1, 1) := by decide +kernel
theorem dX0_firstWrongHad_3 : decode cX0_firstWrongHad 3 = .ok (.aload_n 0, 1) := by decide +kernel
theorem dX0_firstWrongHad_4 : decode cX0_firstWrongHad 4 = .ok (.getfield 62, 3) := by decide +kernel
theorem dX0_firstWrongHad_7 : decode cX0_firstWrongHad 7 = .ok (.if_icmp .ge 34, 3) := by decide +kernel
theorem dX0_firstWrongHad_10 : decode cX0_firstWrongHad 10 = .ok (.iload_n 1, 1) := by decide +kernel
theorem dX0_firstWrongHad_11 : decode cX0_firstWrongHad 11 = .ok (.aload_n 0, 1) := by decide +kernel
theorem dX0_firstWrongHad_12 : decode cX0_firstWrongHad 12 = .ok (.getfield 53, 3) := by decide +kernel
theorem dX0_firstWrongHad_15 : decode cX0_firstWrongHad 15 = .ok (.if_icmp .ge 18, 3) := by decide +kernel
theorem dX0_firstWrongHad_18 : decode cX0_firstWrongHad 18 = .ok (.aload_n 0, 1) := by decide +kernel
theorem dX0_firstWrongHad_19 : decode cX0_firstWrongHad 19 = .ok (.getfield 40, 3) := by decide +kernel
theorem dX0_firstWrongHad_22 : decode cX0_firstWrongHad 22 = .ok (.iload_n 1, 1) := by decide +kernel
theorem dX0_firstWrongHad_23 : decode cX0_firstWrongHad 23 = .ok (.iaload, 1) := by decide +kernel
theorem dX0_firstWrongHad_24 : decode cX0_firstWrongHad 24 = .ok (.aload_n 0, 1) := by decide +kernel
theorem dX0_firstWrongHad_25 : decode cX0_firstWrongHad 25 = .ok (.getfield 22, 3) := by decide +kernel
theorem dX0_firstWrongHad_28 : decode cX0_firstWrongHad 28 = .ok (.iload_n 1, 1) := by decide +kernel
theorem dX0_firstWrongHad_29 : decode cX0_firstWrongHad 29 = .ok (.iaload, 1) := by decide +kernel
theorem dX0_firstWrongHad_30 : decode cX0_firstWrongHad 30 = .ok (.if_icmp .eq 5, 3) := by decide +kernel
theorem dX0_firstWrongHad_33 : decode cX0_firstWrongHad 33 = .ok (.iload_n 1, 1) := by decide +kernel
theorem dX0_firstWrongHad_34 : decode cX0_firstWrongHad 34 = .ok (.ireturn, 1) := by decide +kernel
theorem dX0_firstWrongHad_35 : decode cX0_firstWrongHad 35 = .ok (.iinc 1 1, 3) := by decide +kernel
theorem dX0_firstWrongHad_38 : decode cX0_firstWrongHad 38 = .ok (.goto (-36), 3) := by decide +kernel
theorem dX0_firstWrongHad_41 : decode cX0_firstWrongHad 41 = .ok (.iconst (-1), 1) := by decide +kernel
theorem dX0_firstWrongHad_42 : decode cX0_firstWrongHad 42 = .ok (.ireturn, 1) := by decide +kernel
theorem dX1_init_0 : decode cX1_init 0 = .ok (.aload_n 0, 1) := by decide +kernel
theorem dX1_init_1 : decode cX1_init 1 = .ok (.invokespecial 3, 3) := by decide +kernel
theorem dX1_init_4 : decode cX1_init 4 = .ok (.aload_n 0, 1) := by decide +kernel
theorem dX1_init_5 : decode cX1_init 5 = .ok (.bipush 60, 2) := by decide +kernel
theorem dX1_init_7 : decode cX1_init 7 = .ok (.newarray .int, 2) := by decide +kernel
theorem dX1_init_9 : decode cX1_init 9 = .ok (.putfield 9, 3) := by decide +kernel
theorem dX1_init_12 : decode cX1_init 12 = .ok (.aload_n 0, 1) := by decide +kernel
theorem dX1_init_13 : decode cX1_init 13 = .ok (.bipush 60, 2) := by decide +kernel
theorem dX1_init_15 : decode cX1_init 15 = .ok (.newarray .int, 2) := by decide +kernel
theorem dX1_init_17 : decode cX1_init 17 = .ok (.putfield 15, 3) := by decide +kernel
theorem dX1_init_20 : decode cX1_init 20 = .ok (.return_, 1) := by decide +kernel
set_option maxRecDepth 20000 in
theorem ggX1_reads_X1_readsLevel : GoodIn wsX1_reads wsX1_readsLevel := goodIn_r _ [14, 8, 15, 16, 17, 13, 10, 11, 12, 18, 19, 20, 21, 6, 1, 22, 23, 24, 25, 26, 27, 28, 9, 29, 30, 31, 32, 33, 34, 35, 36, 37, 38, 39, 40, 41, 42, 43, 7, 44, 45, 46, 47, 48, 49, 50, 51, 52, 53, 54, 55] (by decide +kernel) (by decide +kernel)
set_option maxRecDepth 20000 in
theorem gX1_reads_X1_readsLevel : GoodIn wsX1_reads (wsV RX1 37 RX1 yX1_readsLevel wsX1_readsLevel) := goodIn_app (goodIn_of _ (by decide +kernel)) ggX1_reads_X1_readsLevel
theorem dX1_reads_0 : decode cX1_reads 0 = .ok (.aload_n 1, 1) := by decide +kernel
theorem dX1_reads_1 : decode cX1_reads 1 = .ok (.iconst 0, 1) := by decide +kernel
theorem dX1_reads_2 : decode cX1_reads 2 = .ok (.aload_n 0, 1) := by decide +kernel
theorem dX1_reads_3 : decode cX1_reads 3 = .ok (.getfield 15, 3) := by decide +kernel
theorem dX1_reads_6 : decode cX1_reads 6 = .ok (.iconst 0, 1) := by decide +kernel
theorem dX1_reads_7 : decode cX1_reads 7 = .ok (.bipush 60, 2) := by decide +kernel
theorem dX1_reads_9 : decode cX1_reads 9 = .ok (.invokestatic 18, 3) := by decide +kernel
theorem dX1_reads_12 : decode cX1_reads 12 = .ok (.aload_n 0, 1) := by decide +kernel
theorem dX1_reads_13 : decode cX1_reads 13 = .ok (.iload_n 2, 1) := by decide +kernel
theorem dX1_reads_14 : decode cX1_reads 14 = .ok (.putfield 24, 3) := by decide +kernel
theorem dX1_reads_17 : decode cX1_reads 17 = .ok (.aload_n 0, 1) := by decide +kernel
theorem dX1_reads_18 : decode cX1_reads 18 = .ok (.iload_n 3, 1) := by decide +kernel
theorem dX1_reads_19 : decode cX1_reads 19 = .ok (.putfield 28, 3) := by decide +kernel
theorem dX1_reads_22 : decode cX1_reads 22 = .ok (.aload_n 0, 1) := by decide +kernel
theorem dX1_reads_23 : decode cX1_reads 23 = .ok (.iconst 0, 1) := by decide +kernel
theorem dX1_reads_24 : decode cX1_reads 24 = .ok (.putfield 31, 3) := by decide +kernel
theorem dX1_reads_27 : decode cX1_reads 27 = .ok (.aload_n 0, 1) := by decide +kernel
theorem dX1_reads_28 : decode cX1_reads 28 = .ok (.iconst 0, 1) := by decide +kernel
theorem dX1_reads_29 : decode cX1_reads 29 = .ok (.putfield 34, 3) := by decide +kernel
theorem dX1_reads_32 : decode cX1_reads 32 = .ok (.aload_n 0, 1) := by decide +kernel
theorem dX1_reads_33 : decode cX1_reads 33 = .ok (.iconst 0, 1) := by decide +kernel
theorem dX1_reads_34 : decode cX1_reads 34 = .ok (.iconst 0, 1) := by decide +kernel
theorem dX1_reads_35 : decode cX1_reads 35 = .ok (.invokevirtual 37, 3) := by decide +kernel
theorem dX1_reads_38 : decode cX1_reads 38 = .ok (.ifCond .eq 18, 3) := by decide +kernel
theorem dX1_reads_41 : decode cX1_reads 41 = .ok (.aload_n 0, 1) := by decide +kernel
theorem dX1_reads_42 : decode cX1_reads 42 = .ok (.getfield 31, 3) := by decide +kernel
theorem dX1_reads_45 : decode cX1_reads 45 = .ok (.aload_n 0, 1) := by decide +kernel
theorem dX1_reads_46 : decode cX1_reads 46 = .ok (.getfield 24, 3) := by decide +kernel
theorem dX1_reads_49 : decode cX1_reads 49 = .ok (.if_icmp .ne 7, 3) := by decide +kernel
theorem dX1_reads_52 : decode cX1_reads 52 = .ok (.iconst 1, 1) := by decide +kernel
theorem dX1_reads_53 : decode cX1_reads 53 = .ok (.goto 4, 3) := by decide +kernel
theorem dX1_reads_56 : decode cX1_reads 56 = .ok (.iconst 0, 1) := by decide +kernel
theorem dX1_reads_57 : decode cX1_reads 57 = .ok (.ireturn, 1) := by decide +kernel
theorem dX1_next_0 : decode cX1_next 0 = .ok (.aload_n 0, 1) := by decide +kernel
theorem dX1_next_1 : decode cX1_next 1 = .ok (.getfield 31, 3) := by decide +kernel
theorem dX1_next_4 : decode cX1_next 4 = .ok (.aload_n 0, 1) := by decide +kernel
theorem dX1_next_5 : decode cX1_next 5 = .ok (.getfield 24, 3) := by decide +kernel
theorem dX1_next_8 : decode cX1_next 8 = .ok (.if_icmp .ge 15, 3) := by decide +kernel
theorem dX1_next_11 : decode cX1_next 11 = .ok (.aload_n 0, 1) := by decide +kernel
theorem dX1_next_12 : decode cX1_next 12 = .ok (.getfield 15, 3) := by decide +kernel
theorem dX1_next_15 : decode cX1_next 15 = .ok (.aload_n 0, 1) := by decide +kernel
theorem dX1_next_16 : decode cX1_next 16 = .ok (.getfield 31, 3) := by decide +kernel
theorem dX1_next_19 : decode cX1_next 19 = .ok (.iaload, 1) := by decide +kernel
theorem dX1_next_20 : decode cX1_next 20 = .ok (.goto 4, 3) := by decide +kernel
theorem dX1_next_23 : decode cX1_next 23 = .ok (.iconst (-1), 1) := by decide +kernel
theorem dX1_next_24 : decode cX1_next 24 = .ok (.ireturn, 1) := by decide +kernel
theorem dX1_step_0 : decode cX1_step 0 = .ok (.aload_n 0, 1) := by decide +kernel
theorem dX1_step_1 : decode cX1_step 1 = .ok (.getfield 34, 3) := by decide +kernel
theorem dX1_step_4 : decode cX1_step 4 = .ok (.bipush 60, 2) := by decide +kernel
theorem dX1_step_6 : decode cX1_step 6 = .ok (.if_icmp .ge 23, 3) := by decide +kernel
theorem dX1_step_9 : decode cX1_step 9 = .ok (.aload_n 0, 1) := by decide +kernel
theorem dX1_step_10 : decode cX1_step 10 = .ok (.getfield 9, 3) := by decide +kernel
theorem dX1_step_13 : decode cX1_step 13 = .ok (.aload_n 0, 1) := by decide +kernel
theorem dX1_step_14 : decode cX1_step 14 = .ok (.getfield 34, 3) := by decide +kernel
theorem dX1_step_17 : decode cX1_step 17 = .ok (.iload_n 1, 1) := by decide +kernel
theorem dX1_step_18 : decode cX1_step 18 = .ok (.iastore, 1) := by decide +kernel
theorem dX1_step_19 : decode cX1_step 19 = .ok (.aload_n 0, 1) := by decide +kernel
theorem dX1_step_20 : decode cX1_step 20 = .ok (.dup, 1) := by decide +kernel
theorem dX1_step_21 : decode cX1_step 21 = .ok (.getfield 34, 3) := by decide +kernel
theorem dX1_step_24 : decode cX1_step 24 = .ok (.iconst 1, 1) := by decide +kernel
theorem dX1_step_25 : decode cX1_step 25 = .ok (.iadd, 1) := by decide +kernel
theorem dX1_step_26 : decode cX1_step 26 = .ok (.putfield 34, 3) := by decide +kernel
theorem dX1_step_29 : decode cX1_step 29 = .ok (.return_, 1) := by decide +kernel
set_option maxRecDepth 20000 in
theorem ggX1_readsLevel_X1_readsOne : GoodIn wsX1_readsLevel wsX1_readsOne := goodIn_r _ [26, 1, 9, 10, 11, 5, 12, 13, 14, 27, 28, 29, 30, 31, 32, 33, 18, 19, 20, 21, 22, 23, 34, 35, 36, 37, 38, 39, 40, 41, 42, 43, 44, 24, 6, 7, 8, 0, 2, 3, 4, 15, 16, 17, 25, 45, 46, 47, 48, 49, 50] (by decide +kernel) (by decide +kernel)
set_option maxRecDepth 20000 in
theorem gX1_readsLevel_X1_readsOne : GoodIn wsX1_readsLevel (wsV RX1 41 RX1 yX1_readsOne wsX1_readsOne) := goodIn_app (goodIn_of _ (by decide +kernel)) ggX1_readsLevel_X1_readsOne
set_option maxRecDepth 20000 in
theorem ggX1_readsLevel_X1_readsLevel : GoodIn wsX1_readsLevel wsX1_readsLevel := goodIn_r _ [0, 1, 2, 3, 4, 5, 6, 7, 8, 9, 10, 11, 12, 13, 14, 15, 16, 17, 18, 19, 20, 21, 22, 23, 24, 25, 26, 27, 28, 29, 30, 31, 32, 33, 34, 35, 36, 37, 38, 39, 40, 41, 42, 43, 44, 45, 46, 47, 48, 49, 50] (by decide +kernel) (by decide +kernel)
set_option maxRecDepth 20000 in
theorem gX1_readsLevel_X1_readsLevel : GoodIn wsX1_readsLevel (wsV RX1 37 RX1 yX1_readsLevel wsX1_readsLevel) := goodIn_app (goodIn_of _ (by decide +kernel)) ggX1_readsLevel_X1_readsLevel
set_option maxRecDepth 20000 in
theorem ggX1_readsLevel_X1_next : GoodIn wsX1_readsLevel wsX1_next := goodIn_r _ [12, 1, 13, 14, 45, 46, 47, 48, 49, 50] (by decide +kernel) (by decide +kernel)
set_option maxRecDepth 20000 in
theorem gX1_readsLevel_X1_next : GoodIn wsX1_readsLevel (wsV RX1 45 RX1 yX1_next wsX1_next) := goodIn_app (goodIn_of _ (by decide +kernel)) ggX1_readsLevel_X1_next
set_option maxRecDepth 20000 in
theorem ggX1_readsLevel_X1_levelOf : GoodIn wsX1_readsLevel wsX1_levelOf := goodIn_r _ [17] (by decide +kernel) (by decide +kernel)
set_option maxRecDepth 20000 in
theorem gX1_readsLevel_X1_levelOf : GoodIn wsX1_readsLevel (va_wsS RX1 49 yX1_levelOf wsX1_levelOf) := goodIn_app (goodIn_of _ (by decide +kernel)) ggX1_readsLevel_X1_levelOf
set_option maxRecDepth 20000 in
theorem ggX1_readsLevel_X1_step : GoodIn wsX1_readsLevel wsX1_step := goodIn_r _ [21, 22, 23, 45, 46, 47, 48, 49, 50] (by decide +kernel) (by decide +kernel)
set_option maxRecDepth 20000 in
theorem gX1_readsLevel_X1_step : GoodIn wsX1_readsLevel (wsV RX1 53 RX1 yX1_step wsX1_step) := goodIn_app (goodIn_of _ (by decide +kernel)) ggX1_readsLevel_X1_step
theorem dX1_readsLevel_0 : decode cX1_readsLevel 0 = .ok (.iload_n 1, 1) := by decide +kernel
theorem dX1_readsLevel_1 : decode cX1_readsLevel 1 = .ok (.iconst 5, 1) := by decide +kernel
theorem dX1_readsLevel_2 : decode cX1_readsLevel 2 = .ok (.if_icmp .lt 9, 3) := by decide +kernel
theorem dX1_readsLevel_5 : decode cX1_readsLevel 5 = .ok (.aload_n 0, 1) := by decide +kernel
theorem dX1_readsLevel_6 : decode cX1_readsLevel 6 = .ok (.iload_n 2, 1) := by decide +kernel
theorem dX1_readsLevel_7 : decode cX1_readsLevel 7 = .ok (.invokevirtual 41, 3) := by decide +kernel
theorem dX1_readsLevel_10 : decode cX1_readsLevel 10 = .ok (.ireturn, 1) := by decide +kernel
theorem dX1_readsLevel_11 : decode cX1_readsLevel 11 = .ok (.iload_n 2, 1) := by decide +kernel
theorem dX1_readsLevel_12 : decode cX1_readsLevel 12 = .ok (.iconst 5, 1) := by decide +kernel
theorem dX1_readsLevel_13 : decode cX1_readsLevel 13 = .ok (.if_icmp .gt 14, 3) := by decide +kernel
theorem dX1_readsLevel_16 : decode cX1_readsLevel 16 = .ok (.aload_n 0, 1) := by decide +kernel
theorem dX1_readsLevel_17 : decode cX1_readsLevel 17 = .ok (.iload_n 1, 1) := by decide +kernel
theorem dX1_readsLevel_18 : decode cX1_readsLevel 18 = .ok (.iconst 1, 1) := by decide +kernel
theorem dX1_readsLevel_19 : decode cX1_readsLevel 19 = .ok (.iadd, 1) := by decide +kernel
theorem dX1_readsLevel_20 : decode cX1_readsLevel 20 = .ok (.iload_n 2, 1) := by decide +kernel
theorem dX1_readsLevel_21 : decode cX1_readsLevel 21 = .ok (.invokevirtual 37, 3) := by decide +kernel
theorem dX1_readsLevel_24 : decode cX1_readsLevel 24 = .ok (.ifCond .ne 5, 3) := by decide +kernel
theorem dX1_readsLevel_27 : decode cX1_readsLevel 27 = .ok (.iconst 0, 1) := by decide +kernel
theorem dX1_readsLevel_28 : decode cX1_readsLevel 28 = .ok (.ireturn, 1) := by decide +kernel
theorem dX1_readsLevel_29 : decode cX1_readsLevel 29 = .ok (.iload_n 1, 1) := by decide +kernel
theorem dX1_readsLevel_30 : decode cX1_readsLevel 30 = .ok (.iconst 2, 1) := by decide +kernel
theorem dX1_readsLevel_31 : decode cX1_readsLevel 31 = .ok (.if_icmp .ne 7, 3) := by decide +kernel
theorem dX1_readsLevel_34 : decode cX1_readsLevel 34 = .ok (.iconst 1, 1) := by decide +kernel
theorem dX1_readsLevel_35 : decode cX1_readsLevel 35 = .ok (.goto 5, 3) := by decide +kernel
theorem dX1_readsLevel_38 : decode cX1_readsLevel 38 = .ok (.bipush 60, 2) := by decide +kernel
theorem dX1_readsLevel_40 : decode cX1_readsLevel 40 = .ok (.istore_n 3, 1) := by decide +kernel
theorem dX1_readsLevel_41 : decode cX1_readsLevel 41 = .ok (.aload_n 0, 1) := by decide +kernel
theorem dX1_readsLevel_42 : decode cX1_readsLevel 42 = .ok (.invokevirtual 45, 3) := by decide +kernel
theorem dX1_readsLevel_45 : decode cX1_readsLevel 45 = .ok (.istore 4, 2) := by decide +kernel
theorem dX1_readsLevel_47 : decode cX1_readsLevel 47 = .ok (.iconst 0, 1) := by decide +kernel
theorem dX1_readsLevel_48 : decode cX1_readsLevel 48 = .ok (.istore 5, 2) := by decide +kernel
theorem dX1_readsLevel_50 : decode cX1_readsLevel 50 = .ok (.iload 5, 2) := by decide +kernel
theorem dX1_readsLevel_52 : decode cX1_readsLevel 52 = .ok (.iload_n 3, 1) := by decide +kernel
theorem dX1_readsLevel_53 : decode cX1_readsLevel 53 = .ok (.if_icmp .ge 57, 3) := by decide +kernel
theorem dX1_readsLevel_56 : decode cX1_readsLevel 56 = .ok (.iload 4, 2) := by decide +kernel
theorem dX1_readsLevel_58 : decode cX1_readsLevel 58 = .ok (.invokestatic 49, 3) := by decide +kernel
theorem dX1_readsLevel_61 : decode cX1_readsLevel 61 = .ok (.iload_n 1, 1) := by decide +kernel
theorem dX1_readsLevel_62 : decode cX1_readsLevel 62 = .ok (.if_icmp .ne 48, 3) := by decide +kernel
theorem dX1_readsLevel_65 : decode cX1_readsLevel 65 = .ok (.aload_n 0, 1) := by decide +kernel
theorem dX1_readsLevel_66 : decode cX1_readsLevel 66 = .ok (.dup, 1) := by decide +kernel
theorem dX1_readsLevel_67 : decode cX1_readsLevel 67 = .ok (.getfield 31, 3) := by decide +kernel
theorem dX1_readsLevel_70 : decode cX1_readsLevel 70 = .ok (.iconst 1, 1) := by decide +kernel
theorem dX1_readsLevel_71 : decode cX1_readsLevel 71 = .ok (.iadd, 1) := by decide +kernel
theorem dX1_readsLevel_72 : decode cX1_readsLevel 72 = .ok (.putfield 31, 3) := by decide +kernel
theorem dX1_readsLevel_75 : decode cX1_readsLevel 75 = .ok (.aload_n 0, 1) := by decide +kernel
theorem dX1_readsLevel_76 : decode cX1_readsLevel 76 = .ok (.iload_n 1, 1) := by decide +kernel
theorem dX1_readsLevel_77 : decode cX1_readsLevel 77 = .ok (.iconst 1, 1) := by decide +kernel
theorem dX1_readsLevel_78 : decode cX1_readsLevel 78 = .ok (.iadd, 1) := by decide +kernel
theorem dX1_readsLevel_79 : decode cX1_readsLevel 79 = .ok (.iload_n 2, 1) := by decide +kernel
theorem dX1_readsLevel_80 : decode cX1_readsLevel 80 = .ok (.invokevirtual 37, 3) := by decide +kernel
theorem dX1_readsLevel_83 : decode cX1_readsLevel 83 = .ok (.ifCond .ne 5, 3) := by decide +kernel
theorem dX1_readsLevel_86 : decode cX1_readsLevel 86 = .ok (.iconst 0, 1) := by decide +kernel
theorem dX1_readsLevel_87 : decode cX1_readsLevel 87 = .ok (.ireturn, 1) := by decide +kernel
theorem dX1_readsLevel_88 : decode cX1_readsLevel 88 = .ok (.aload_n 0, 1) := by decide +kernel
theorem dX1_readsLevel_89 : decode cX1_readsLevel 89 = .ok (.sipush 20000, 3) := by decide +kernel
theorem dX1_readsLevel_92 : decode cX1_readsLevel 92 = .ok (.iload 4, 2) := by decide +kernel
theorem dX1_readsLevel_94 : decode cX1_readsLevel 94 = .ok (.iadd, 1) := by decide +kernel
theorem dX1_readsLevel_95 : decode cX1_readsLevel 95 = .ok (.invokevirtual 53, 3) := by decide +kernel
theorem dX1_readsLevel_98 : decode cX1_readsLevel 98 = .ok (.aload_n 0, 1) := by decide +kernel
theorem dX1_readsLevel_99 : decode cX1_readsLevel 99 = .ok (.invokevirtual 45, 3) := by decide +kernel
theorem dX1_readsLevel_102 : decode cX1_readsLevel 102 = .ok (.istore 4, 2) := by decide +kernel
theorem dX1_readsLevel_104 : decode cX1_readsLevel 104 = .ok (.iinc 5 1, 3) := by decide +kernel
theorem dX1_readsLevel_107 : decode cX1_readsLevel 107 = .ok (.goto (-57), 3) := by decide +kernel
theorem dX1_readsLevel_110 : decode cX1_readsLevel 110 = .ok (.iconst 1, 1) := by decide +kernel
theorem dX1_readsLevel_111 : decode cX1_readsLevel 111 = .ok (.ireturn, 1) := by decide +kernel
theorem dX1_levelOf_0 : decode cX1_levelOf 0 = .ok (.iload_n 0, 1) := by decide +kernel
theorem dX1_levelOf_1 : decode cX1_levelOf 1 = .ok (.lookupswitch 101 #[(37, 99), (38, 93), (42, 99), (43, 97), (45, 97), (47, 99), (60, 95), (61, 95), (62, 95), (124, 91)], 91) := by decide +kernel
theorem dX1_levelOf_92 : decode cX1_levelOf 92 = .ok (.iconst 0, 1) := by decide +kernel
theorem dX1_levelOf_93 : decode cX1_levelOf 93 = .ok (.ireturn, 1) := by decide +kernel
theorem dX1_levelOf_94 : decode cX1_levelOf 94 = .ok (.iconst 1, 1) := by decide +kernel
theorem dX1_levelOf_95 : decode cX1_levelOf 95 = .ok (.ireturn, 1) := by decide +kernel
theorem dX1_levelOf_96 : decode cX1_levelOf 96 = .ok (.iconst 2, 1) := by decide +kernel
theorem dX1_levelOf_97 : decode cX1_levelOf 97 = .ok (.ireturn, 1) := by decide +kernel
theorem dX1_levelOf_98 : decode cX1_levelOf 98 = .ok (.iconst 3, 1) := by decide +kernel
theorem dX1_levelOf_99 : decode cX1_levelOf 99 = .ok (.ireturn, 1) := by decide +kernel
theorem dX1_levelOf_100 : decode cX1_levelOf 100 = .ok (.iconst 4, 1) := by decide +kernel
theorem dX1_levelOf_101 : decode cX1_levelOf 101 = .ok (.ireturn, 1) := by decide +kernel
theorem dX1_levelOf_102 : decode cX1_levelOf 102 = .ok (.iconst (-1), 1) := by decide +kernel
theorem dX1_levelOf_103 : decode cX1_levelOf 103 = .ok (.ireturn, 1) := by decide +kernel
set_option maxRecDepth 20000 in
theorem ggX1_readsOne_X1_next : GoodIn wsX1_readsOne wsX1_next := goodIn_r _ [6, 1, 7, 8, 45, 46, 47, 48, 49, 50] (by decide +kernel) (by decide +kernel)
set_option maxRecDepth 20000 in
theorem gX1_readsOne_X1_next : GoodIn wsX1_readsOne (wsV RX1 45 RX1 yX1_next wsX1_next) := goodIn_app (goodIn_of _ (by decide +kernel)) ggX1_readsOne_X1_next
set_option maxRecDepth 20000 in
theorem ggX1_readsOne_X1_isDigit : GoodIn wsX1_readsOne wsX1_isDigit := goodIn_r _ [11] (by decide +kernel) (by decide +kernel)
set_option maxRecDepth 20000 in
theorem gX1_readsOne_X1_isDigit : GoodIn wsX1_readsOne (va_wsS RX1 57 yX1_isDigit wsX1_isDigit) := goodIn_app (goodIn_of _ (by decide +kernel)) ggX1_readsOne_X1_isDigit
set_option maxRecDepth 20000 in
theorem ggX1_readsOne_X1_readNumber : GoodIn wsX1_readsOne wsX1_readNumber := goodIn_r _ [15, 1, 2, 3, 4, 5, 6, 7, 8, 9, 10, 11, 16, 17, 18, 19, 20, 21, 45, 46, 47, 48, 49, 50] (by decide +kernel) (by decide +kernel)
set_option maxRecDepth 20000 in
theorem gX1_readsOne_X1_readNumber : GoodIn wsX1_readsOne (wsV RX1 60 RX1 yX1_readNumber wsX1_readNumber) := goodIn_app (goodIn_of _ (by decide +kernel)) ggX1_readsOne_X1_readNumber
set_option maxRecDepth 20000 in
theorem ggX1_readsOne_X1_nameOf : GoodIn wsX1_readsOne wsX1_nameOf := goodIn_r _ [25, 26, 45, 46, 47, 48, 49, 50] (by decide +kernel) (by decide +kernel)
set_option maxRecDepth 20000 in
theorem gX1_readsOne_X1_nameOf : GoodIn wsX1_readsOne (wsV RX1 63 RX1 yX1_nameOf wsX1_nameOf) := goodIn_app (goodIn_of _ (by decide +kernel)) ggX1_readsOne_X1_nameOf
set_option maxRecDepth 20000 in
theorem ggX1_readsOne_X1_step : GoodIn wsX1_readsOne wsX1_step := goodIn_r _ [19, 20, 21, 45, 46, 47, 48, 49, 50] (by decide +kernel) (by decide +kernel)
set_option maxRecDepth 20000 in
theorem gX1_readsOne_X1_step : GoodIn wsX1_readsOne (wsV RX1 53 RX1 yX1_step wsX1_step) := goodIn_app (goodIn_of _ (by decide +kernel)) ggX1_readsOne_X1_step
set_option maxRecDepth 20000 in
theorem ggX1_readsOne_X1_readsNot : GoodIn wsX1_readsOne wsX1_readsNot := goodIn_r _ [44, 1, 38, 39, 40, 5, 16, 17, 18, 19, 20, 21, 33, 34, 35, 36, 2, 3, 4, 6, 7, 8, 37, 41, 42, 43, 0, 9, 10, 11, 12, 13, 14, 15, 22, 23, 24, 25, 26, 27, 28, 29, 30, 31, 32, 45, 46, 47, 48, 49, 50] (by decide +kernel) (by decide +kernel)
set_option maxRecDepth 20000 in
theorem gX1_readsOne_X1_readsNot : GoodIn wsX1_readsOne (wsV RX1 66 RX1 yX1_readsNot wsX1_readsNot) := goodIn_app (goodIn_of _ (by decide +kernel)) ggX1_readsOne_X1_readsNot
set_option maxRecDepth 20000 in
theorem ggX1_readsOne_X1_readsBraced : GoodIn wsX1_readsOne wsX1_readsBraced := goodIn_r _ [33, 1, 34, 35, 36, 5, 2, 3, 4, 6, 7, 8, 37, 38, 39, 40, 41, 42, 43, 16, 17, 18, 19, 20, 21, 44, 0, 9, 10, 11, 12, 13, 14, 15, 22, 23, 24, 25, 26, 27, 28, 29, 30, 31, 32, 45, 46, 47, 48, 49, 50] (by decide +kernel) (by decide +kernel)
set_option maxRecDepth 20000 in
theorem gX1_readsOne_X1_readsBraced : GoodIn wsX1_readsOne (wsV RX1 69 RX1 yX1_readsBraced wsX1_readsBraced) := goodIn_app (goodIn_of _ (by decide +kernel)) ggX1_readsOne_X1_readsBraced
theorem dX1_readsOne_0 : decode cX1_readsOne 0 = .ok (.aload_n 0, 1) := by decide +kernel
theorem dX1_readsOne_1 : decode cX1_readsOne 1 = .ok (.invokevirtual 45, 3) := by decide +kernel
theorem dX1_readsOne_4 : decode cX1_readsOne 4 = .ok (.istore_n 2, 1) := by decide +kernel
theorem dX1_readsOne_5 : decode cX1_readsOne 5 = .ok (.iload_n 2, 1) := by decide +kernel
theorem dX1_readsOne_6 : decode cX1_readsOne 6 = .ok (.invokestatic 57, 3) := by decide +kernel
theorem dX1_readsOne_9 : decode cX1_readsOne 9 = .ok (.ifCond .eq 9, 3) := by decide +kernel
theorem dX1_readsOne_12 : decode cX1_readsOne 12 = .ok (.aload_n 0, 1) := by decide +kernel
theorem dX1_readsOne_13 : decode cX1_readsOne 13 = .ok (.invokevirtual 60, 3) := by decide +kernel
theorem dX1_readsOne_16 : decode cX1_readsOne 16 = .ok (.iconst 1, 1) := by decide +kernel
theorem dX1_readsOne_17 : decode cX1_readsOne 17 = .ok (.ireturn, 1) := by decide +kernel
theorem dX1_readsOne_18 : decode cX1_readsOne 18 = .ok (.aload_n 0, 1) := by decide +kernel
theorem dX1_readsOne_19 : decode cX1_readsOne 19 = .ok (.iload_n 2, 1) := by decide +kernel
theorem dX1_readsOne_20 : decode cX1_readsOne 20 = .ok (.invokevirtual 63, 3) := by decide +kernel
theorem dX1_readsOne_23 : decode cX1_readsOne 23 = .ok (.istore_n 3, 1) := by decide +kernel
theorem dX1_readsOne_24 : decode cX1_readsOne 24 = .ok (.iload_n 3, 1) := by decide +kernel
theorem dX1_readsOne_25 : decode cX1_readsOne 25 = .ok (.iconst 3, 1) := by decide +kernel
theorem dX1_readsOne_26 : decode cX1_readsOne 26 = .ok (.if_icmp .ge 24, 3) := by decide +kernel
theorem dX1_readsOne_29 : decode cX1_readsOne 29 = .ok (.aload_n 0, 1) := by decide +kernel
theorem dX1_readsOne_30 : decode cX1_readsOne 30 = .ok (.dup, 1) := by decide +kernel
theorem dX1_readsOne_31 : decode cX1_readsOne 31 = .ok (.getfield 31, 3) := by decide +kernel
theorem dX1_readsOne_34 : decode cX1_readsOne 34 = .ok (.iconst 1, 1) := by decide +kernel
theorem dX1_readsOne_35 : decode cX1_readsOne 35 = .ok (.iadd, 1) := by decide +kernel
theorem dX1_readsOne_36 : decode cX1_readsOne 36 = .ok (.putfield 31, 3) := by decide +kernel
theorem dX1_readsOne_39 : decode cX1_readsOne 39 = .ok (.aload_n 0, 1) := by decide +kernel
theorem dX1_readsOne_40 : decode cX1_readsOne 40 = .ok (.sipush 10000, 3) := by decide +kernel
theorem dX1_readsOne_43 : decode cX1_readsOne 43 = .ok (.iload_n 3, 1) := by decide +kernel
theorem dX1_readsOne_44 : decode cX1_readsOne 44 = .ok (.iadd, 1) := by decide +kernel
theorem dX1_readsOne_45 : decode cX1_readsOne 45 = .ok (.invokevirtual 53, 3) := by decide +kernel
theorem dX1_readsOne_48 : decode cX1_readsOne 48 = .ok (.iconst 1, 1) := by decide +kernel
theorem dX1_readsOne_49 : decode cX1_readsOne 49 = .ok (.ireturn, 1) := by decide +kernel
theorem dX1_readsOne_50 : decode cX1_readsOne 50 = .ok (.iload_n 1, 1) := by decide +kernel
theorem dX1_readsOne_51 : decode cX1_readsOne 51 = .ok (.iconst 5, 1) := by decide +kernel
theorem dX1_readsOne_52 : decode cX1_readsOne 52 = .ok (.if_icmp .lt 5, 3) := by decide +kernel
theorem dX1_readsOne_55 : decode cX1_readsOne 55 = .ok (.iconst 0, 1) := by decide +kernel
theorem dX1_readsOne_56 : decode cX1_readsOne 56 = .ok (.ireturn, 1) := by decide +kernel
theorem dX1_readsOne_57 : decode cX1_readsOne 57 = .ok (.iload_n 2, 1) := by decide +kernel
theorem dX1_readsOne_58 : decode cX1_readsOne 58 = .ok (.bipush 33, 2) := by decide +kernel
theorem dX1_readsOne_60 : decode cX1_readsOne 60 = .ok (.if_icmp .ne 11, 3) := by decide +kernel
theorem dX1_readsOne_63 : decode cX1_readsOne 63 = .ok (.aload_n 0, 1) := by decide +kernel
theorem dX1_readsOne_64 : decode cX1_readsOne 64 = .ok (.iload_n 1, 1) := by decide +kernel
theorem dX1_readsOne_65 : decode cX1_readsOne 65 = .ok (.iconst 1, 1) := by decide +kernel
theorem dX1_readsOne_66 : decode cX1_readsOne 66 = .ok (.iadd, 1) := by decide +kernel
theorem dX1_readsOne_67 : decode cX1_readsOne 67 = .ok (.invokevirtual 66, 3) := by decide +kernel
theorem dX1_readsOne_70 : decode cX1_readsOne 70 = .ok (.ireturn, 1) := by decide +kernel
theorem dX1_readsOne_71 : decode cX1_readsOne 71 = .ok (.iload_n 2, 1) := by decide +kernel
theorem dX1_readsOne_72 : decode cX1_readsOne 72 = .ok (.bipush 40, 2) := by decide +kernel
theorem dX1_readsOne_74 : decode cX1_readsOne 74 = .ok (.if_icmp .ne 17, 3) := by decide +kernel
theorem dX1_readsOne_77 : decode cX1_readsOne 77 = .ok (.aload_n 0, 1) := by decide +kernel
theorem dX1_readsOne_78 : decode cX1_readsOne 78 = .ok (.iload_n 1, 1) := by decide +kernel
theorem dX1_readsOne_79 : decode cX1_readsOne 79 = .ok (.iconst 1, 1) := by decide +kernel
theorem dX1_readsOne_80 : decode cX1_readsOne 80 = .ok (.iadd, 1) := by decide +kernel
theorem dX1_readsOne_81 : decode cX1_readsOne 81 = .ok (.invokevirtual 69, 3) := by decide +kernel
theorem dX1_readsOne_84 : decode cX1_readsOne 84 = .ok (.ifCond .eq 7, 3) := by decide +kernel
theorem dX1_readsOne_87 : decode cX1_readsOne 87 = .ok (.iconst 1, 1) := by decide +kernel
theorem dX1_readsOne_88 : decode cX1_readsOne 88 = .ok (.goto 4, 3) := by decide +kernel
theorem dX1_readsOne_91 : decode cX1_readsOne 91 = .ok (.iconst 0, 1) := by decide +kernel
theorem dX1_readsOne_92 : decode cX1_readsOne 92 = .ok (.ireturn, 1) := by decide +kernel
set_option maxRecDepth 20000 in
theorem ggX1_readsNot_X1_readsOne : GoodIn wsX1_readsNot wsX1_readsOne := goodIn_r _ [26, 1, 16, 17, 18, 5, 19, 20, 21, 27, 28, 29, 30, 31, 32, 33, 6, 7, 8, 9, 10, 11, 34, 35, 36, 37, 38, 39, 40, 41, 42, 43, 44, 12, 13, 14, 15, 22, 2, 3, 4, 23, 24, 25, 0, 45, 46, 47, 48, 49, 50] (by decide +kernel) (by decide +kernel)
set_option maxRecDepth 20000 in
theorem gX1_readsNot_X1_readsOne : GoodIn wsX1_readsNot (wsV RX1 41 RX1 yX1_readsOne wsX1_readsOne) := goodIn_app (goodIn_of _ (by decide +kernel)) ggX1_readsNot_X1_readsOne
set_option maxRecDepth 20000 in
theorem ggX1_readsNot_X1_step : GoodIn wsX1_readsNot wsX1_step := goodIn_r _ [9, 10, 11, 45, 46, 47, 48, 49, 50] (by decide +kernel) (by decide +kernel)
set_option maxRecDepth 20000 in
theorem gX1_readsNot_X1_step : GoodIn wsX1_readsNot (wsV RX1 53 RX1 yX1_step wsX1_step) := goodIn_app (goodIn_of _ (by decide +kernel)) ggX1_readsNot_X1_step
theorem dX1_readsNot_0 : decode cX1_readsNot 0 = .ok (.aload_n 0, 1) := by decide +kernel
theorem dX1_readsNot_1 : decode cX1_readsNot 1 = .ok (.dup, 1) := by decide +kernel
theorem dX1_readsNot_2 : decode cX1_readsNot 2 = .ok (.getfield 31, 3) := by decide +kernel
theorem dX1_readsNot_5 : decode cX1_readsNot 5 = .ok (.iconst 1, 1) := by decide +kernel
theorem dX1_readsNot_6 : decode cX1_readsNot 6 = .ok (.iadd, 1) := by decide +kernel
theorem dX1_readsNot_7 : decode cX1_readsNot 7 = .ok (.putfield 31, 3) := by decide +kernel
theorem dX1_readsNot_10 : decode cX1_readsNot 10 = .ok (.aload_n 0, 1) := by decide +kernel
theorem dX1_readsNot_11 : decode cX1_readsNot 11 = .ok (.iload_n 1, 1) := by decide +kernel
theorem dX1_readsNot_12 : decode cX1_readsNot 12 = .ok (.invokevirtual 41, 3) := by decide +kernel
theorem dX1_readsNot_15 : decode cX1_readsNot 15 = .ok (.ifCond .ne 5, 3) := by decide +kernel
theorem dX1_readsNot_18 : decode cX1_readsNot 18 = .ok (.iconst 0, 1) := by decide +kernel
theorem dX1_readsNot_19 : decode cX1_readsNot 19 = .ok (.ireturn, 1) := by decide +kernel
theorem dX1_readsNot_20 : decode cX1_readsNot 20 = .ok (.aload_n 0, 1) := by decide +kernel
theorem dX1_readsNot_21 : decode cX1_readsNot 21 = .ok (.sipush 20033, 3) := by decide +kernel
theorem dX1_readsNot_24 : decode cX1_readsNot 24 = .ok (.invokevirtual 53, 3) := by decide +kernel
theorem dX1_readsNot_27 : decode cX1_readsNot 27 = .ok (.iconst 1, 1) := by decide +kernel
theorem dX1_readsNot_28 : decode cX1_readsNot 28 = .ok (.ireturn, 1) := by decide +kernel
set_option maxRecDepth 20000 in
theorem ggX1_readsBraced_X1_readsLevel : GoodIn wsX1_readsBraced wsX1_readsLevel := goodIn_r _ [12, 1, 13, 14, 15, 5, 2, 3, 4, 6, 7, 8, 9, 10, 11, 16, 17, 18, 19, 20, 21, 22, 23, 24, 0, 25, 26, 27, 28, 29, 30, 31, 32, 33, 34, 35, 36, 37, 38, 39, 40, 41, 42, 43, 44, 45, 46, 47, 48, 49, 50] (by decide +kernel) (by decide +kernel)
set_option maxRecDepth 20000 in
theorem gX1_readsBraced_X1_readsLevel : GoodIn wsX1_readsBraced (wsV RX1 37 RX1 yX1_readsLevel wsX1_readsLevel) := goodIn_app (goodIn_of _ (by decide +kernel)) ggX1_readsBraced_X1_readsLevel
set_option maxRecDepth 20000 in
theorem ggX1_readsBraced_X1_next : GoodIn wsX1_readsBraced wsX1_next := goodIn_r _ [9, 1, 10, 11, 45, 46, 47, 48, 49, 50] (by decide +kernel) (by decide +kernel)
set_option maxRecDepth 20000 in
theorem gX1_readsBraced_X1_next : GoodIn wsX1_readsBraced (wsV RX1 45 RX1 yX1_next wsX1_next) := goodIn_app (goodIn_of _ (by decide +kernel)) ggX1_readsBraced_X1_next
theorem dX1_readsBraced_0 : decode cX1_readsBraced 0 = .ok (.aload_n 0, 1) := by decide +kernel
theorem dX1_readsBraced_1 : decode cX1_readsBraced 1 = .ok (.dup, 1) := by decide +kernel
theorem dX1_readsBraced_2 : decode cX1_readsBraced 2 = .ok (.getfield 31, 3) := by decide +kernel
theorem dX1_readsBraced_5 : decode cX1_readsBraced 5 = .ok (.iconst 1, 1) := by decide +kernel
theorem dX1_readsBraced_6 : decode cX1_readsBraced 6 = .ok (.iadd, 1) := by decide +kernel
theorem dX1_readsBraced_7 : decode cX1_readsBraced 7 = .ok (.putfield 31, 3) := by decide +kernel
theorem dX1_readsBraced_10 : decode cX1_readsBraced 10 = .ok (.aload_n 0, 1) := by decide +kernel
theorem dX1_readsBraced_11 : decode cX1_readsBraced 11 = .ok (.iconst 0, 1) := by decide +kernel
theorem dX1_readsBraced_12 : decode cX1_readsBraced 12 = .ok (.iload_n 1, 1) := by decide +kernel
theorem dX1_readsBraced_13 : decode cX1_readsBraced 13 = .ok (.invokevirtual 37, 3) := by decide +kernel
theorem dX1_readsBraced_16 : decode cX1_readsBraced 16 = .ok (.ifCond .eq 12, 3) := by decide +kernel
theorem dX1_readsBraced_19 : decode cX1_readsBraced 19 = .ok (.aload_n 0, 1) := by decide +kernel
theorem dX1_readsBraced_20 : decode cX1_readsBraced 20 = .ok (.invokevirtual 45, 3) := by decide +kernel
theorem dX1_readsBraced_23 : decode cX1_readsBraced 23 = .ok (.bipush 41, 2) := by decide +kernel
theorem dX1_readsBraced_25 : decode cX1_readsBraced 25 = .ok (.if_icmp .eq 5, 3) := by decide +kernel
theorem dX1_readsBraced_28 : decode cX1_readsBraced 28 = .ok (.iconst 0, 1) := by decide +kernel
theorem dX1_readsBraced_29 : decode cX1_readsBraced 29 = .ok (.ireturn, 1) := by decide +kernel
theorem dX1_readsBraced_30 : decode cX1_readsBraced 30 = .ok (.aload_n 0, 1) := by decide +kernel
theorem dX1_readsBraced_31 : decode cX1_readsBraced 31 = .ok (.dup, 1) := by decide +kernel
theorem dX1_readsBraced_32 : decode cX1_readsBraced 32 = .ok (.getfield 31, 3) := by decide +kernel
theorem dX1_readsBraced_35 : decode cX1_readsBraced 35 = .ok (.iconst 1, 1) := by decide +kernel
theorem dX1_readsBraced_36 : decode cX1_readsBraced 36 = .ok (.iadd, 1) := by decide +kernel
theorem dX1_readsBraced_37 : decode cX1_readsBraced 37 = .ok (.putfield 31, 3) := by decide +kernel
theorem dX1_readsBraced_40 : decode cX1_readsBraced 40 = .ok (.iconst 1, 1) := by decide +kernel
theorem dX1_readsBraced_41 : decode cX1_readsBraced 41 = .ok (.ireturn, 1) := by decide +kernel
set_option maxRecDepth 20000 in
theorem ggX1_readNumber_X1_next : GoodIn wsX1_readNumber wsX1_next := goodIn_r _ [6, 1, 7, 8, 18, 19, 20, 21, 22, 23] (by decide +kernel) (by decide +kernel)
set_option maxRecDepth 20000 in
theorem gX1_readNumber_X1_next : GoodIn wsX1_readNumber (wsV RX1 45 RX1 yX1_next wsX1_next) := goodIn_app (goodIn_of _ (by decide +kernel)) ggX1_readNumber_X1_next
set_option maxRecDepth 20000 in
theorem ggX1_readNumber_X1_isDigit : GoodIn wsX1_readNumber wsX1_isDigit := goodIn_r _ [11] (by decide +kernel) (by decide +kernel)
set_option maxRecDepth 20000 in
theorem gX1_readNumber_X1_isDigit : GoodIn wsX1_readNumber (va_wsS RX1 57 yX1_isDigit wsX1_isDigit) := goodIn_app (goodIn_of _ (by decide +kernel)) ggX1_readNumber_X1_isDigit
set_option maxRecDepth 20000 in
theorem ggX1_readNumber_X1_step : GoodIn wsX1_readNumber wsX1_step := goodIn_r _ [15, 16, 17, 18, 19, 20, 21, 22, 23] (by decide +kernel) (by decide +kernel)
set_option maxRecDepth 20000 in
theorem gX1_readNumber_X1_step : GoodIn wsX1_readNumber (wsV RX1 53 RX1 yX1_step wsX1_step) := goodIn_app (goodIn_of _ (by decide +kernel)) ggX1_readNumber_X1_step
theorem dX1_readNumber_0 : decode cX1_readNumber 0 = .ok (.iconst 0, 1) := by decide +kernel
theorem dX1_readNumber_1 : decode cX1_readNumber 1 = .ok (.istore_n 1, 1) := by decide +kernel
theorem dX1_readNumber_2 : decode cX1_readNumber 2 = .ok (.iconst 0, 1) := by decide +kernel
theorem dX1_readNumber_3 : decode cX1_readNumber 3 = .ok (.istore_n 2, 1) := by decide +kernel
theorem dX1_readNumber_4 : decode cX1_readNumber 4 = .ok (.iload_n 2, 1) := by decide +kernel
theorem dX1_readNumber_5 : decode cX1_readNumber 5 = .ok (.iconst 4, 1) := by decide +kernel
theorem dX1_readNumber_6 : decode cX1_readNumber 6 = .ok (.if_icmp .ge 42, 3) := by decide +kernel
theorem dX1_readNumber_9 : decode cX1_readNumber 9 = .ok (.aload_n 0, 1) := by decide +kernel
theorem dX1_readNumber_10 : decode cX1_readNumber 10 = .ok (.invokevirtual 45, 3) := by decide +kernel
theorem dX1_readNumber_13 : decode cX1_readNumber 13 = .ok (.invokestatic 57, 3) := by decide +kernel
theorem dX1_readNumber_16 : decode cX1_readNumber 16 = .ok (.ifCond .eq 32, 3) := by decide +kernel
theorem dX1_readNumber_19 : decode cX1_readNumber 19 = .ok (.bipush 10, 2) := by decide +kernel
theorem dX1_readNumber_21 : decode cX1_readNumber 21 = .ok (.iload_n 1, 1) := by decide +kernel
theorem dX1_readNumber_22 : decode cX1_readNumber 22 = .ok (.imul, 1) := by decide +kernel
theorem dX1_readNumber_23 : decode cX1_readNumber 23 = .ok (.aload_n 0, 1) := by decide +kernel
theorem dX1_readNumber_24 : decode cX1_readNumber 24 = .ok (.invokevirtual 45, 3) := by decide +kernel
theorem dX1_readNumber_27 : decode cX1_readNumber 27 = .ok (.iadd, 1) := by decide +kernel
theorem dX1_readNumber_28 : decode cX1_readNumber 28 = .ok (.bipush 48, 2) := by decide +kernel
theorem dX1_readNumber_30 : decode cX1_readNumber 30 = .ok (.isub, 1) := by decide +kernel
theorem dX1_readNumber_31 : decode cX1_readNumber 31 = .ok (.istore_n 1, 1) := by decide +kernel
theorem dX1_readNumber_32 : decode cX1_readNumber 32 = .ok (.aload_n 0, 1) := by decide +kernel
theorem dX1_readNumber_33 : decode cX1_readNumber 33 = .ok (.dup, 1) := by decide +kernel
theorem dX1_readNumber_34 : decode cX1_readNumber 34 = .ok (.getfield 31, 3) := by decide +kernel
theorem dX1_readNumber_37 : decode cX1_readNumber 37 = .ok (.iconst 1, 1) := by decide +kernel
theorem dX1_readNumber_38 : decode cX1_readNumber 38 = .ok (.iadd, 1) := by decide +kernel
theorem dX1_readNumber_39 : decode cX1_readNumber 39 = .ok (.putfield 31, 3) := by decide +kernel
theorem dX1_readNumber_42 : decode cX1_readNumber 42 = .ok (.iinc 2 1, 3) := by decide +kernel
theorem dX1_readNumber_45 : decode cX1_readNumber 45 = .ok (.goto (-41), 3) := by decide +kernel
theorem dX1_readNumber_48 : decode cX1_readNumber 48 = .ok (.aload_n 0, 1) := by decide +kernel
theorem dX1_readNumber_49 : decode cX1_readNumber 49 = .ok (.iload_n 1, 1) := by decide +kernel
theorem dX1_readNumber_50 : decode cX1_readNumber 50 = .ok (.invokevirtual 53, 3) := by decide +kernel
theorem dX1_readNumber_53 : decode cX1_readNumber 53 = .ok (.return_, 1) := by decide +kernel
theorem dX1_isDigit_0 : decode cX1_isDigit 0 = .ok (.iload_n 0, 1) := by decide +kernel
theorem dX1_isDigit_1 : decode cX1_isDigit 1 = .ok (.bipush 48, 2) := by decide +kernel
theorem dX1_isDigit_3 : decode cX1_isDigit 3 = .ok (.if_icmp .lt 13, 3) := by decide +kernel
theorem dX1_isDigit_6 : decode cX1_isDigit 6 = .ok (.iload_n 0, 1) := by decide +kernel
theorem dX1_isDigit_7 : decode cX1_isDigit 7 = .ok (.bipush 57, 2) := by decide +kernel
theorem dX1_isDigit_9 : decode cX1_isDigit 9 = .ok (.if_icmp .gt 7, 3) := by decide +kernel
theorem dX1_isDigit_12 : decode cX1_isDigit 12 = .ok (.iconst 1, 1) := by decide +kernel
theorem dX1_isDigit_13 : decode cX1_isDigit 13 = .ok (.goto 4, 3) := by decide +kernel
theorem dX1_isDigit_16 : decode cX1_isDigit 16 = .ok (.iconst 0, 1) := by decide +kernel
theorem dX1_isDigit_17 : decode cX1_isDigit 17 = .ok (.ireturn, 1) := by decide +kernel
theorem dX1_nameOf_0 : decode cX1_nameOf 0 = .ok (.iconst 0, 1) := by decide +kernel
theorem dX1_nameOf_1 : decode cX1_nameOf 1 = .ok (.istore_n 2, 1) := by decide +kernel
theorem dX1_nameOf_2 : decode cX1_nameOf 2 = .ok (.iload_n 2, 1) := by decide +kernel
theorem dX1_nameOf_3 : decode cX1_nameOf 3 = .ok (.iconst 3, 1) := by decide +kernel
theorem dX1_nameOf_4 : decode cX1_nameOf 4 = .ok (.if_icmp .ge 33, 3) := by decide +kernel
theorem dX1_nameOf_7 : decode cX1_nameOf 7 = .ok (.iload_n 1, 1) := by decide +kernel
theorem dX1_nameOf_8 : decode cX1_nameOf 8 = .ok (.aload_n 0, 1) := by decide +kernel
theorem dX1_nameOf_9 : decode cX1_nameOf 9 = .ok (.getfield 28, 3) := by decide +kernel
theorem dX1_nameOf_12 : decode cX1_nameOf 12 = .ok (.ifCond .ne 11, 3) := by decide +kernel
theorem dX1_nameOf_15 : decode cX1_nameOf 15 = .ok (.getstatic 72, 3) := by decide +kernel
theorem dX1_nameOf_18 : decode cX1_nameOf 18 = .ok (.iload_n 2, 1) := by decide +kernel
theorem dX1_nameOf_19 : decode cX1_nameOf 19 = .ok (.caload, 1) := by decide +kernel
theorem dX1_nameOf_20 : decode cX1_nameOf 20 = .ok (.goto 8, 3) := by decide +kernel
theorem dX1_nameOf_23 : decode cX1_nameOf 23 = .ok (.getstatic 76, 3) := by decide +kernel
theorem dX1_nameOf_26 : decode cX1_nameOf 26 = .ok (.iload_n 2, 1) := by decide +kernel
theorem dX1_nameOf_27 : decode cX1_nameOf 27 = .ok (.caload, 1) := by decide +kernel
theorem dX1_nameOf_28 : decode cX1_nameOf 28 = .ok (.if_icmp .eq 9, 3) := by decide +kernel
theorem dX1_nameOf_31 : decode cX1_nameOf 31 = .ok (.iinc 2 1, 3) := by decide +kernel
theorem dX1_nameOf_34 : decode cX1_nameOf 34 = .ok (.goto (-32), 3) := by decide +kernel
theorem dX1_nameOf_37 : decode cX1_nameOf 37 = .ok (.iload_n 2, 1) := by decide +kernel
theorem dX1_nameOf_38 : decode cX1_nameOf 38 = .ok (.ireturn, 1) := by decide +kernel
theorem dX2_init_0 : decode cX2_init 0 = .ok (.aload_n 0, 1) := by decide +kernel
theorem dX2_init_1 : decode cX2_init 1 = .ok (.invokespecial 3, 3) := by decide +kernel
theorem dX2_init_4 : decode cX2_init 4 = .ok (.aload_n 0, 1) := by decide +kernel
theorem dX2_init_5 : decode cX2_init 5 = .ok (.bipush 24, 2) := by decide +kernel
theorem dX2_init_7 : decode cX2_init 7 = .ok (.newarray .int, 2) := by decide +kernel
theorem dX2_init_9 : decode cX2_init 9 = .ok (.putfield 9, 3) := by decide +kernel
theorem dX2_init_12 : decode cX2_init 12 = .ok (.return_, 1) := by decide +kernel
theorem dX2_isMissing_0 : decode cX2_isMissing 0 = .ok (.aload_n 0, 1) := by decide +kernel
theorem dX2_isMissing_1 : decode cX2_isMissing 1 = .ok (.getfield 15, 3) := by decide +kernel
theorem dX2_isMissing_4 : decode cX2_isMissing 4 = .ok (.ifCond .ne 7, 3) := by decide +kernel
theorem dX2_isMissing_7 : decode cX2_isMissing 7 = .ok (.iconst 1, 1) := by decide +kernel
theorem dX2_isMissing_8 : decode cX2_isMissing 8 = .ok (.goto 4, 3) := by decide +kernel
theorem dX2_isMissing_11 : decode cX2_isMissing 11 = .ok (.iconst 0, 1) := by decide +kernel
theorem dX2_isMissing_12 : decode cX2_isMissing 12 = .ok (.ireturn, 1) := by decide +kernel
theorem dX2_begin_0 : decode cX2_begin 0 = .ok (.aload_n 0, 1) := by decide +kernel
theorem dX2_begin_1 : decode cX2_begin 1 = .ok (.iload_n 1, 1) := by decide +kernel
theorem dX2_begin_2 : decode cX2_begin 2 = .ok (.putfield 15, 3) := by decide +kernel
theorem dX2_begin_5 : decode cX2_begin 5 = .ok (.aload_n 0, 1) := by decide +kernel
theorem dX2_begin_6 : decode cX2_begin 6 = .ok (.iload_n 2, 1) := by decide +kernel
theorem dX2_begin_7 : decode cX2_begin 7 = .ok (.putfield 19, 3) := by decide +kernel
theorem dX2_begin_10 : decode cX2_begin 10 = .ok (.iconst 0, 1) := by decide +kernel
theorem dX2_begin_11 : decode cX2_begin 11 = .ok (.istore_n 3, 1) := by decide +kernel
theorem dX2_begin_12 : decode cX2_begin 12 = .ok (.iload_n 3, 1) := by decide +kernel
theorem dX2_begin_13 : decode cX2_begin 13 = .ok (.bipush 24, 2) := by decide +kernel
theorem dX2_begin_15 : decode cX2_begin 15 = .ok (.if_icmp .ge 16, 3) := by decide +kernel
theorem dX2_begin_18 : decode cX2_begin 18 = .ok (.aload_n 0, 1) := by decide +kernel
theorem dX2_begin_19 : decode cX2_begin 19 = .ok (.getfield 9, 3) := by decide +kernel
theorem dX2_begin_22 : decode cX2_begin 22 = .ok (.iload_n 3, 1) := by decide +kernel
theorem dX2_begin_23 : decode cX2_begin 23 = .ok (.iconst 0, 1) := by decide +kernel
theorem dX2_begin_24 : decode cX2_begin 24 = .ok (.iastore, 1) := by decide +kernel
theorem dX2_begin_25 : decode cX2_begin 25 = .ok (.iinc 3 1, 3) := by decide +kernel
theorem dX2_begin_28 : decode cX2_begin 28 = .ok (.goto (-16), 3) := by decide +kernel
theorem dX2_begin_31 : decode cX2_begin 31 = .ok (.return_, 1) := by decide +kernel
theorem dX2_lowestBits_0 : decode cX2_lowestBits 0 = .ok (.aload_n 0, 1) := by decide +kernel
theorem dX2_lowestBits_1 : decode cX2_lowestBits 1 = .ok (.getfield 15, 3) := by decide +kernel
theorem dX2_lowestBits_4 : decode cX2_lowestBits 4 = .ok (.bipush 8, 2) := by decide +kernel
theorem dX2_lowestBits_6 : decode cX2_lowestBits 6 = .ok (.if_icmp .ne 8, 3) := by decide +kernel
theorem dX2_lowestBits_9 : decode cX2_lowestBits 9 = .ok (.iload_n 1, 1) := by decide +kernel
theorem dX2_lowestBits_10 : decode cX2_lowestBits 10 = .ok (.i2b, 1) := by decide +kernel
theorem dX2_lowestBits_11 : decode cX2_lowestBits 11 = .ok (.goto 18, 3) := by decide +kernel
theorem dX2_lowestBits_14 : decode cX2_lowestBits 14 = .ok (.aload_n 0, 1) := by decide +kernel
theorem dX2_lowestBits_15 : decode cX2_lowestBits 15 = .ok (.getfield 15, 3) := by decide +kernel
theorem dX2_lowestBits_18 : decode cX2_lowestBits 18 = .ok (.bipush 16, 2) := by decide +kernel
theorem dX2_lowestBits_20 : decode cX2_lowestBits 20 = .ok (.if_icmp .ne 8, 3) := by decide +kernel
theorem dX2_lowestBits_23 : decode cX2_lowestBits 23 = .ok (.iload_n 1, 1) := by decide +kernel
theorem dX2_lowestBits_24 : decode cX2_lowestBits 24 = .ok (.i2s, 1) := by decide +kernel
theorem dX2_lowestBits_25 : decode cX2_lowestBits 25 = .ok (.goto 4, 3) := by decide +kernel
theorem dX2_lowestBits_28 : decode cX2_lowestBits 28 = .ok (.iload_n 1, 1) := by decide +kernel
theorem dX2_lowestBits_29 : decode cX2_lowestBits 29 = .ok (.ireturn, 1) := by decide +kernel
theorem dX2_has_0 : decode cX2_has 0 = .ok (.iload_n 1, 1) := by decide +kernel
theorem dX2_has_1 : decode cX2_has 1 = .ok (.ifCond .lt 29, 3) := by decide +kernel
theorem dX2_has_4 : decode cX2_has 4 = .ok (.iload_n 2, 1) := by decide +kernel
theorem dX2_has_5 : decode cX2_has 5 = .ok (.ifCond .lt 25, 3) := by decide +kernel
theorem dX2_has_8 : decode cX2_has 8 = .ok (.iload_n 1, 1) := by decide +kernel
theorem dX2_has_9 : decode cX2_has 9 = .ok (.aload_n 0, 1) := by decide +kernel
theorem dX2_has_10 : decode cX2_has 10 = .ok (.getfield 19, 3) := by decide +kernel
theorem dX2_has_13 : decode cX2_has 13 = .ok (.if_icmp .gt 17, 3) := by decide +kernel
theorem dX2_has_16 : decode cX2_has 16 = .ok (.iload_n 2, 1) := by decide +kernel
theorem dX2_has_17 : decode cX2_has 17 = .ok (.aload_n 0, 1) := by decide +kernel
theorem dX2_has_18 : decode cX2_has 18 = .ok (.getfield 19, 3) := by decide +kernel
theorem dX2_has_21 : decode cX2_has 21 = .ok (.iload_n 1, 1) := by decide +kernel
theorem dX2_has_22 : decode cX2_has 22 = .ok (.isub, 1) := by decide +kernel
theorem dX2_has_23 : decode cX2_has 23 = .ok (.if_icmp .gt 7, 3) := by decide +kernel
theorem dX2_has_26 : decode cX2_has 26 = .ok (.iconst 1, 1) := by decide +kernel
theorem dX2_has_27 : decode cX2_has 27 = .ok (.goto 4, 3) := by decide +kernel
theorem dX2_has_30 : decode cX2_has 30 = .ok (.iconst 0, 1) := by decide +kernel
theorem dX2_has_31 : decode cX2_has 31 = .ok (.ireturn, 1) := by decide +kernel
theorem dX3_init_0 : decode cX3_init 0 = .ok (.aload_n 0, 1) := by decide +kernel
theorem dX3_init_1 : decode cX3_init 1 = .ok (.invokespecial 3, 3) := by decide +kernel
theorem dX3_init_4 : decode cX3_init 4 = .ok (.aload_n 0, 1) := by decide +kernel
theorem dX3_init_5 : decode cX3_init 5 = .ok (.bipush 60, 2) := by decide +kernel
theorem dX3_init_7 : decode cX3_init 7 = .ok (.newarray .int, 2) := by decide +kernel
theorem dX3_init_9 : decode cX3_init 9 = .ok (.putfield 9, 3) := by decide +kernel
theorem dX3_init_12 : decode cX3_init 12 = .ok (.aload_n 0, 1) := by decide +kernel
theorem dX3_init_13 : decode cX3_init 13 = .ok (.bipush 60, 2) := by decide +kernel
theorem dX3_init_15 : decode cX3_init 15 = .ok (.newarray .int, 2) := by decide +kernel
theorem dX3_init_17 : decode cX3_init 17 = .ok (.putfield 15, 3) := by decide +kernel
theorem dX3_init_20 : decode cX3_init 20 = .ok (.return_, 1) := by decide +kernel
theorem dX3_isThere_0 : decode cX3_isThere 0 = .ok (.aload_n 0, 1) := by decide +kernel
theorem dX3_isThere_1 : decode cX3_isThere 1 = .ok (.getfield 18, 3) := by decide +kernel
theorem dX3_isThere_4 : decode cX3_isThere 4 = .ok (.ifCond .le 7, 3) := by decide +kernel
theorem dX3_isThere_7 : decode cX3_isThere 7 = .ok (.iconst 1, 1) := by decide +kernel
theorem dX3_isThere_8 : decode cX3_isThere 8 = .ok (.goto 4, 3) := by decide +kernel
theorem dX3_isThere_11 : decode cX3_isThere 11 = .ok (.iconst 0, 1) := by decide +kernel
theorem dX3_isThere_12 : decode cX3_isThere 12 = .ok (.ireturn, 1) := by decide +kernel
theorem dX3_forget_0 : decode cX3_forget 0 = .ok (.aload_n 0, 1) := by decide +kernel
theorem dX3_forget_1 : decode cX3_forget 1 = .ok (.iconst 0, 1) := by decide +kernel
theorem dX3_forget_2 : decode cX3_forget 2 = .ok (.putfield 18, 3) := by decide +kernel
theorem dX3_forget_5 : decode cX3_forget 5 = .ok (.return_, 1) := by decide +kernel
theorem dX3_hold_0 : decode cX3_hold 0 = .ok (.aload_n 1, 1) := by decide +kernel
theorem dX3_hold_1 : decode cX3_hold 1 = .ok (.iconst 0, 1) := by decide +kernel
theorem dX3_hold_2 : decode cX3_hold 2 = .ok (.aload_n 0, 1) := by decide +kernel
theorem dX3_hold_3 : decode cX3_hold 3 = .ok (.getfield 9, 3) := by decide +kernel
theorem dX3_hold_6 : decode cX3_hold 6 = .ok (.iconst 0, 1) := by decide +kernel
theorem dX3_hold_7 : decode cX3_hold 7 = .ok (.iload_n 2, 1) := by decide +kernel
theorem dX3_hold_8 : decode cX3_hold 8 = .ok (.invokestatic 22, 3) := by decide +kernel
theorem dX3_hold_11 : decode cX3_hold 11 = .ok (.aload_n 0, 1) := by decide +kernel
theorem dX3_hold_12 : decode cX3_hold 12 = .ok (.iload_n 2, 1) := by decide +kernel
theorem dX3_hold_13 : decode cX3_hold 13 = .ok (.putfield 18, 3) := by decide +kernel
theorem dX3_hold_16 : decode cX3_hold 16 = .ok (.return_, 1) := by decide +kernel
set_option maxRecDepth 20000 in
theorem ggX3_workOut_X3_named : GoodIn wsX3_workOut wsX3_named := goodIn_r _ [7] (by decide +kernel) (by decide +kernel)
set_option maxRecDepth 20000 in
theorem gX3_workOut_X3_named : GoodIn wsX3_workOut (va_wsS RX3 28 yX3_named wsX3_named) := goodIn_app (goodIn_of _ (by decide +kernel)) ggX3_workOut_X3_named
set_option maxRecDepth 20000 in
theorem ggX3_workOut_X3_joined : GoodIn wsX3_workOut wsX3_joined := goodIn_r _ [10] (by decide +kernel) (by decide +kernel)
set_option maxRecDepth 20000 in
theorem gX3_workOut_X3_joined : GoodIn wsX3_workOut (va_wsS RX3 32 yX3_joined wsX3_joined) := goodIn_app (goodIn_of _ (by decide +kernel)) ggX3_workOut_X3_joined
theorem dX3_workOut_0 : decode cX3_workOut 0 = .ok (.iconst 0, 1) := by decide +kernel
theorem dX3_workOut_1 : decode cX3_workOut 1 = .ok (.istore 4, 2) := by decide +kernel
theorem dX3_workOut_3 : decode cX3_workOut 3 = .ok (.iconst 0, 1) := by decide +kernel
theorem dX3_workOut_4 : decode cX3_workOut 4 = .ok (.istore 5, 2) := by decide +kernel
theorem dX3_workOut_6 : decode cX3_workOut 6 = .ok (.iload 5, 2) := by decide +kernel
theorem dX3_workOut_8 : decode cX3_workOut 8 = .ok (.aload_n 0, 1) := by decide +kernel
theorem dX3_workOut_9 : decode cX3_workOut 9 = .ok (.getfield 18, 3) := by decide +kernel
theorem dX3_workOut_12 : decode cX3_workOut 12 = .ok (.if_icmp .ge 157, 3) := by decide +kernel
theorem dX3_workOut_15 : decode cX3_workOut 15 = .ok (.aload_n 0, 1) := by decide +kernel
theorem dX3_workOut_16 : decode cX3_workOut 16 = .ok (.getfield 9, 3) := by decide +kernel
theorem dX3_workOut_19 : decode cX3_workOut 19 = .ok (.iload 5, 2) := by decide +kernel
theorem dX3_workOut_21 : decode cX3_workOut 21 = .ok (.iaload, 1) := by decide +kernel
theorem dX3_workOut_22 : decode cX3_workOut 22 = .ok (.istore 6, 2) := by decide +kernel
theorem dX3_workOut_24 : decode cX3_workOut 24 = .ok (.iload 6, 2) := by decide +kernel
theorem dX3_workOut_26 : decode cX3_workOut 26 = .ok (.sipush 20000, 3) := by decide +kernel
theorem dX3_workOut_29 : decode cX3_workOut 29 = .ok (.if_icmp .ge 48, 3) := by decide +kernel
theorem dX3_workOut_32 : decode cX3_workOut 32 = .ok (.iload 4, 2) := by decide +kernel
theorem dX3_workOut_34 : decode cX3_workOut 34 = .ok (.bipush 60, 2) := by decide +kernel
theorem dX3_workOut_36 : decode cX3_workOut 36 = .ok (.if_icmp .ge 41, 3) := by decide +kernel
theorem dX3_workOut_39 : decode cX3_workOut 39 = .ok (.aload_n 0, 1) := by decide +kernel
theorem dX3_workOut_40 : decode cX3_workOut 40 = .ok (.getfield 15, 3) := by decide +kernel
theorem dX3_workOut_43 : decode cX3_workOut 43 = .ok (.iload 4, 2) := by decide +kernel
theorem dX3_workOut_45 : decode cX3_workOut 45 = .ok (.iload 6, 2) := by decide +kernel
theorem dX3_workOut_47 : decode cX3_workOut 47 = .ok (.sipush 10000, 3) := by decide +kernel
theorem dX3_workOut_50 : decode cX3_workOut 50 = .ok (.if_icmp .ge 8, 3) := by decide +kernel
theorem dX3_workOut_53 : decode cX3_workOut 53 = .ok (.iload 6, 2) := by decide +kernel
theorem dX3_workOut_55 : decode cX3_workOut 55 = .ok (.goto 15, 3) := by decide +kernel
theorem dX3_workOut_58 : decode cX3_workOut 58 = .ok (.iload 6, 2) := by decide +kernel
theorem dX3_workOut_60 : decode cX3_workOut 60 = .ok (.sipush 10000, 3) := by decide +kernel
theorem dX3_workOut_63 : decode cX3_workOut 63 = .ok (.isub, 1) := by decide +kernel
theorem dX3_workOut_64 : decode cX3_workOut 64 = .ok (.iload_n 1, 1) := by decide +kernel
theorem dX3_workOut_65 : decode cX3_workOut 65 = .ok (.iload_n 2, 1) := by decide +kernel
theorem dX3_workOut_66 : decode cX3_workOut 66 = .ok (.iload_n 3, 1) := by decide +kernel
theorem dX3_workOut_67 : decode cX3_workOut 67 = .ok (.invokestatic 28, 3) := by decide +kernel
theorem dX3_workOut_70 : decode cX3_workOut 70 = .ok (.iastore, 1) := by decide +kernel
theorem dX3_workOut_71 : decode cX3_workOut 71 = .ok (.iinc 4 1, 3) := by decide +kernel
theorem dX3_workOut_74 : decode cX3_workOut 74 = .ok (.goto 89, 3) := by decide +kernel
theorem dX3_workOut_77 : decode cX3_workOut 77 = .ok (.iload 6, 2) := by decide +kernel
theorem dX3_workOut_79 : decode cX3_workOut 79 = .ok (.sipush 20033, 3) := by decide +kernel
theorem dX3_workOut_82 : decode cX3_workOut 82 = .ok (.if_icmp .ne 38, 3) := by decide +kernel
theorem dX3_workOut_85 : decode cX3_workOut 85 = .ok (.iload 4, 2) := by decide +kernel
theorem dX3_workOut_87 : decode cX3_workOut 87 = .ok (.iconst 1, 1) := by decide +kernel
theorem dX3_workOut_88 : decode cX3_workOut 88 = .ok (.if_icmp .lt 32, 3) := by decide +kernel
theorem dX3_workOut_91 : decode cX3_workOut 91 = .ok (.aload_n 0, 1) := by decide +kernel
theorem dX3_workOut_92 : decode cX3_workOut 92 = .ok (.getfield 15, 3) := by decide +kernel
theorem dX3_workOut_95 : decode cX3_workOut 95 = .ok (.iload 4, 2) := by decide +kernel
theorem dX3_workOut_97 : decode cX3_workOut 97 = .ok (.iconst 1, 1) := by decide +kernel
theorem dX3_workOut_98 : decode cX3_workOut 98 = .ok (.isub, 1) := by decide +kernel
theorem dX3_workOut_99 : decode cX3_workOut 99 = .ok (.aload_n 0, 1) := by decide +kernel
theorem dX3_workOut_100 : decode cX3_workOut 100 = .ok (.getfield 15, 3) := by decide +kernel
theorem dX3_workOut_103 : decode cX3_workOut 103 = .ok (.iload 4, 2) := by decide +kernel
theorem dX3_workOut_105 : decode cX3_workOut 105 = .ok (.iconst 1, 1) := by decide +kernel
theorem dX3_workOut_106 : decode cX3_workOut 106 = .ok (.isub, 1) := by decide +kernel
theorem dX3_workOut_107 : decode cX3_workOut 107 = .ok (.iaload, 1) := by decide +kernel
theorem dX3_workOut_108 : decode cX3_workOut 108 = .ok (.ifCond .ne 7, 3) := by decide +kernel
theorem dX3_workOut_111 : decode cX3_workOut 111 = .ok (.iconst 1, 1) := by decide +kernel
theorem dX3_workOut_112 : decode cX3_workOut 112 = .ok (.goto 4, 3) := by decide +kernel
theorem dX3_workOut_115 : decode cX3_workOut 115 = .ok (.iconst 0, 1) := by decide +kernel
theorem dX3_workOut_116 : decode cX3_workOut 116 = .ok (.iastore, 1) := by decide +kernel
theorem dX3_workOut_117 : decode cX3_workOut 117 = .ok (.goto 46, 3) := by decide +kernel
theorem dX3_workOut_120 : decode cX3_workOut 120 = .ok (.iload 4, 2) := by decide +kernel
theorem dX3_workOut_122 : decode cX3_workOut 122 = .ok (.iconst 2, 1) := by decide +kernel
theorem dX3_workOut_123 : decode cX3_workOut 123 = .ok (.if_icmp .lt 40, 3) := by decide +kernel
theorem dX3_workOut_126 : decode cX3_workOut 126 = .ok (.iinc 4 (-1), 3) := by decide +kernel
theorem dX3_workOut_129 : decode cX3_workOut 129 = .ok (.aload_n 0, 1) := by decide +kernel
theorem dX3_workOut_130 : decode cX3_workOut 130 = .ok (.getfield 15, 3) := by decide +kernel
theorem dX3_workOut_133 : decode cX3_workOut 133 = .ok (.iload 4, 2) := by decide +kernel
theorem dX3_workOut_135 : decode cX3_workOut 135 = .ok (.iconst 1, 1) := by decide +kernel
theorem dX3_workOut_136 : decode cX3_workOut 136 = .ok (.isub, 1) := by decide +kernel
theorem dX3_workOut_137 : decode cX3_workOut 137 = .ok (.iload 6, 2) := by decide +kernel
theorem dX3_workOut_139 : decode cX3_workOut 139 = .ok (.sipush 20000, 3) := by decide +kernel
theorem dX3_workOut_142 : decode cX3_workOut 142 = .ok (.isub, 1) := by decide +kernel
theorem dX3_workOut_143 : decode cX3_workOut 143 = .ok (.aload_n 0, 1) := by decide +kernel
theorem dX3_workOut_144 : decode cX3_workOut 144 = .ok (.getfield 15, 3) := by decide +kernel
theorem dX3_workOut_147 : decode cX3_workOut 147 = .ok (.iload 4, 2) := by decide +kernel
theorem dX3_workOut_149 : decode cX3_workOut 149 = .ok (.iconst 1, 1) := by decide +kernel
theorem dX3_workOut_150 : decode cX3_workOut 150 = .ok (.isub, 1) := by decide +kernel
theorem dX3_workOut_151 : decode cX3_workOut 151 = .ok (.iaload, 1) := by decide +kernel
theorem dX3_workOut_152 : decode cX3_workOut 152 = .ok (.aload_n 0, 1) := by decide +kernel
theorem dX3_workOut_153 : decode cX3_workOut 153 = .ok (.getfield 15, 3) := by decide +kernel
theorem dX3_workOut_156 : decode cX3_workOut 156 = .ok (.iload 4, 2) := by decide +kernel
theorem dX3_workOut_158 : decode cX3_workOut 158 = .ok (.iaload, 1) := by decide +kernel
theorem dX3_workOut_159 : decode cX3_workOut 159 = .ok (.invokestatic 32, 3) := by decide +kernel
theorem dX3_workOut_162 : decode cX3_workOut 162 = .ok (.iastore, 1) := by decide +kernel
theorem dX3_workOut_163 : decode cX3_workOut 163 = .ok (.iinc 5 1, 3) := by decide +kernel
theorem dX3_workOut_166 : decode cX3_workOut 166 = .ok (.goto (-160), 3) := by decide +kernel
theorem dX3_workOut_169 : decode cX3_workOut 169 = .ok (.aload_n 0, 1) := by decide +kernel
theorem dX3_workOut_170 : decode cX3_workOut 170 = .ok (.getfield 15, 3) := by decide +kernel
theorem dX3_workOut_173 : decode cX3_workOut 173 = .ok (.iconst 0, 1) := by decide +kernel
theorem dX3_workOut_174 : decode cX3_workOut 174 = .ok (.iaload, 1) := by decide +kernel
theorem dX3_workOut_175 : decode cX3_workOut 175 = .ok (.ireturn, 1) := by decide +kernel
theorem dX3_named_0 : decode cX3_named 0 = .ok (.iload_n 0, 1) := by decide +kernel
theorem dX3_named_1 : decode cX3_named 1 = .ok (.ifCond .ne 7, 3) := by decide +kernel
theorem dX3_named_4 : decode cX3_named 4 = .ok (.iload_n 1, 1) := by decide +kernel
theorem dX3_named_5 : decode cX3_named 5 = .ok (.goto 13, 3) := by decide +kernel
theorem dX3_named_8 : decode cX3_named 8 = .ok (.iload_n 0, 1) := by decide +kernel
theorem dX3_named_9 : decode cX3_named 9 = .ok (.iconst 1, 1) := by decide +kernel
theorem dX3_named_10 : decode cX3_named 10 = .ok (.if_icmp .ne 7, 3) := by decide +kernel
theorem dX3_named_13 : decode cX3_named 13 = .ok (.iload_n 2, 1) := by decide +kernel
theorem dX3_named_14 : decode cX3_named 14 = .ok (.goto 4, 3) := by decide +kernel
theorem dX3_named_17 : decode cX3_named 17 = .ok (.iload_n 3, 1) := by decide +kernel
theorem dX3_named_18 : decode cX3_named 18 = .ok (.ireturn, 1) := by decide +kernel
theorem dX3_joined_0 : decode cX3_joined 0 = .ok (.iload_n 0, 1) := by decide +kernel
theorem dX3_joined_1 : decode cX3_joined 1 = .ok (.tableswitch 202 37 62 #[143, 188, 202, 202, 202, 127, 119, 202, 123, 202, 131, 202, 202, 202, 202, 202, 202, 202, 202, 202, 202, 202, 202, 155, 166, 177], 119) := by decide +kernel
theorem dX3_joined_120 : decode cX3_joined 120 = .ok (.iload_n 1, 1) := by decide +kernel
theorem dX3_joined_121 : decode cX3_joined 121 = .ok (.iload_n 2, 1) := by decide +kernel
theorem dX3_joined_122 : decode cX3_joined 122 = .ok (.iadd, 1) := by decide +kernel
theorem dX3_joined_123 : decode cX3_joined 123 = .ok (.ireturn, 1) := by decide +kernel
theorem dX3_joined_124 : decode cX3_joined 124 = .ok (.iload_n 1, 1) := by decide +kernel
theorem dX3_joined_125 : decode cX3_joined 125 = .ok (.iload_n 2, 1) := by decide +kernel
theorem dX3_joined_126 : decode cX3_joined 126 = .ok (.isub, 1) := by decide +kernel
theorem dX3_joined_127 : decode cX3_joined 127 = .ok (.ireturn, 1) := by decide +kernel
theorem dX3_joined_128 : decode cX3_joined 128 = .ok (.iload_n 1, 1) := by decide +kernel
theorem dX3_joined_129 : decode cX3_joined 129 = .ok (.iload_n 2, 1) := by decide +kernel
theorem dX3_joined_130 : decode cX3_joined 130 = .ok (.imul, 1) := by decide +kernel
theorem dX3_joined_131 : decode cX3_joined 131 = .ok (.ireturn, 1) := by decide +kernel
theorem dX3_joined_132 : decode cX3_joined 132 = .ok (.iload_n 2, 1) := by decide +kernel
theorem dX3_joined_133 : decode cX3_joined 133 = .ok (.ifCond .ne 7, 3) := by decide +kernel
theorem dX3_joined_136 : decode cX3_joined 136 = .ok (.iconst 0, 1) := by decide +kernel
theorem dX3_joined_137 : decode cX3_joined 137 = .ok (.goto 6, 3) := by decide +kernel
theorem dX3_joined_140 : decode cX3_joined 140 = .ok (.iload_n 1, 1) := by decide +kernel
theorem dX3_joined_141 : decode cX3_joined 141 = .ok (.iload_n 2, 1) := by decide +kernel
theorem dX3_joined_142 : decode cX3_joined 142 = .ok (.idiv, 1) := by decide +kernel
theorem dX3_joined_143 : decode cX3_joined 143 = .ok (.ireturn, 1) := by decide +kernel
theorem dX3_joined_144 : decode cX3_joined 144 = .ok (.iload_n 2, 1) := by decide +kernel
theorem dX3_joined_145 : decode cX3_joined 145 = .ok (.ifCond .ne 7, 3) := by decide +kernel
theorem dX3_joined_148 : decode cX3_joined 148 = .ok (.iconst 0, 1) := by decide +kernel
theorem dX3_joined_149 : decode cX3_joined 149 = .ok (.goto 6, 3) := by decide +kernel
theorem dX3_joined_152 : decode cX3_joined 152 = .ok (.iload_n 1, 1) := by decide +kernel
theorem dX3_joined_153 : decode cX3_joined 153 = .ok (.iload_n 2, 1) := by decide +kernel
theorem dX3_joined_154 : decode cX3_joined 154 = .ok (.irem, 1) := by decide +kernel
theorem dX3_joined_155 : decode cX3_joined 155 = .ok (.ireturn, 1) := by decide +kernel
theorem dX3_joined_156 : decode cX3_joined 156 = .ok (.iload_n 1, 1) := by decide +kernel
theorem dX3_joined_157 : decode cX3_joined 157 = .ok (.iload_n 2, 1) := by decide +kernel
theorem dX3_joined_158 : decode cX3_joined 158 = .ok (.if_icmp .ge 7, 3) := by decide +kernel
theorem dX3_joined_161 : decode cX3_joined 161 = .ok (.iconst 1, 1) := by decide +kernel
theorem dX3_joined_162 : decode cX3_joined 162 = .ok (.goto 4, 3) := by decide +kernel
theorem dX3_joined_165 : decode cX3_joined 165 = .ok (.iconst 0, 1) := by decide +kernel
theorem dX3_joined_166 : decode cX3_joined 166 = .ok (.ireturn, 1) := by decide +kernel
theorem dX3_joined_167 : decode cX3_joined 167 = .ok (.iload_n 1, 1) := by decide +kernel
theorem dX3_joined_168 : decode cX3_joined 168 = .ok (.iload_n 2, 1) := by decide +kernel
theorem dX3_joined_169 : decode cX3_joined 169 = .ok (.if_icmp .ne 7, 3) := by decide +kernel
theorem dX3_joined_172 : decode cX3_joined 172 = .ok (.iconst 1, 1) := by decide +kernel
theorem dX3_joined_173 : decode cX3_joined 173 = .ok (.goto 4, 3) := by decide +kernel
theorem dX3_joined_176 : decode cX3_joined 176 = .ok (.iconst 0, 1) := by decide +kernel
theorem dX3_joined_177 : decode cX3_joined 177 = .ok (.ireturn, 1) := by decide +kernel
theorem dX3_joined_178 : decode cX3_joined 178 = .ok (.iload_n 1, 1) := by decide +kernel
theorem dX3_joined_179 : decode cX3_joined 179 = .ok (.iload_n 2, 1) := by decide +kernel
theorem dX3_joined_180 : decode cX3_joined 180 = .ok (.if_icmp .le 7, 3) := by decide +kernel
theorem dX3_joined_183 : decode cX3_joined 183 = .ok (.iconst 1, 1) := by decide +kernel
theorem dX3_joined_184 : decode cX3_joined 184 = .ok (.goto 4, 3) := by decide +kernel
theorem dX3_joined_187 : decode cX3_joined 187 = .ok (.iconst 0, 1) := by decide +kernel
theorem dX3_joined_188 : decode cX3_joined 188 = .ok (.ireturn, 1) := by decide +kernel
theorem dX3_joined_189 : decode cX3_joined 189 = .ok (.iload_n 1, 1) := by decide +kernel
theorem dX3_joined_190 : decode cX3_joined 190 = .ok (.ifCond .eq 11, 3) := by decide +kernel
theorem dX3_joined_193 : decode cX3_joined 193 = .ok (.iload_n 2, 1) := by decide +kernel
theorem dX3_joined_194 : decode cX3_joined 194 = .ok (.ifCond .eq 7, 3) := by decide +kernel
theorem dX3_joined_197 : decode cX3_joined 197 = .ok (.iconst 1, 1) := by decide +kernel
theorem dX3_joined_198 : decode cX3_joined 198 = .ok (.goto 4, 3) := by decide +kernel
theorem dX3_joined_201 : decode cX3_joined 201 = .ok (.iconst 0, 1) := by decide +kernel
theorem dX3_joined_202 : decode cX3_joined 202 = .ok (.ireturn, 1) := by decide +kernel
theorem dX3_joined_203 : decode cX3_joined 203 = .ok (.iload_n 1, 1) := by decide +kernel
theorem dX3_joined_204 : decode cX3_joined 204 = .ok (.ifCond .ne 7, 3) := by decide +kernel
theorem dX3_joined_207 : decode cX3_joined 207 = .ok (.iload_n 2, 1) := by decide +kernel
theorem dX3_joined_208 : decode cX3_joined 208 = .ok (.ifCond .eq 7, 3) := by decide +kernel
theorem dX3_joined_211 : decode cX3_joined 211 = .ok (.iconst 1, 1) := by decide +kernel
theorem dX3_joined_212 : decode cX3_joined 212 = .ok (.goto 4, 3) := by decide +kernel
theorem dX3_joined_215 : decode cX3_joined 215 = .ok (.iconst 0, 1) := by decide +kernel
theorem dX3_joined_216 : decode cX3_joined 216 = .ok (.ireturn, 1) := by decide +kernel
theorem dX4_init_0 : decode cX4_init 0 = .ok (.aload_n 0, 1) := by decide +kernel
theorem dX4_init_1 : decode cX4_init 1 = .ok (.invokespecial 3, 3) := by decide +kernel
theorem dX4_init_4 : decode cX4_init 4 = .ok (.aload_n 0, 1) := by decide +kernel
theorem dX4_init_5 : decode cX4_init 5 = .ok (.bipush 10, 2) := by decide +kernel
theorem dX4_init_7 : decode cX4_init 7 = .ok (.newarray .long, 2) := by decide +kernel
theorem dX4_init_9 : decode cX4_init 9 = .ok (.putfield 9, 3) := by decide +kernel
theorem dX4_init_12 : decode cX4_init 12 = .ok (.return_, 1) := by decide +kernel
set_option maxRecDepth 20000 in
theorem ggX4_leftOf_X4_isLeft : GoodIn wsX4_leftOf wsX4_isLeft := goodIn_r _ [6, 7, 8, 9, 10, 11, 12, 13, 14, 15, 16, 17, 18, 19, 20, 21, 22, 23, 24, 25, 26, 27, 28, 29, 30, 31, 32, 33, 34, 35, 36, 37, 38, 39, 40, 41] (by decide +kernel) (by decide +kernel)
set_option maxRecDepth 20000 in
theorem gX4_leftOf_X4_isLeft : GoodIn wsX4_leftOf (wsV RX4 21 RX4 yX4_isLeft wsX4_isLeft) := goodIn_app (goodIn_of _ (by decide +kernel)) ggX4_leftOf_X4_isLeft
theorem dX4_leftOf_0 : decode cX4_leftOf 0 = .ok (.iconst 0, 1) := by decide +kernel
theorem dX4_leftOf_1 : decode cX4_leftOf 1 = .ok (.istore_n 3, 1) := by decide +kernel
theorem dX4_leftOf_2 : decode cX4_leftOf 2 = .ok (.iconst 0, 1) := by decide +kernel
theorem dX4_leftOf_3 : decode cX4_leftOf 3 = .ok (.istore 4, 2) := by decide +kernel
theorem dX4_leftOf_5 : decode cX4_leftOf 5 = .ok (.iload 4, 2) := by decide +kernel
theorem dX4_leftOf_7 : decode cX4_leftOf 7 = .ok (.aload_n 1, 1) := by decide +kernel
theorem dX4_leftOf_8 : decode cX4_leftOf 8 = .ok (.getfield 15, 3) := by decide +kernel
theorem dX4_leftOf_11 : decode cX4_leftOf 11 = .ok (.if_icmp .ge 27, 3) := by decide +kernel
theorem dX4_leftOf_14 : decode cX4_leftOf 14 = .ok (.aload_n 0, 1) := by decide +kernel
theorem dX4_leftOf_15 : decode cX4_leftOf 15 = .ok (.aload_n 1, 1) := by decide +kernel
theorem dX4_leftOf_16 : decode cX4_leftOf 16 = .ok (.iload 4, 2) := by decide +kernel
theorem dX4_leftOf_18 : decode cX4_leftOf 18 = .ok (.iload_n 2, 1) := by decide +kernel
theorem dX4_leftOf_19 : decode cX4_leftOf 19 = .ok (.invokevirtual 21, 3) := by decide +kernel
theorem dX4_leftOf_22 : decode cX4_leftOf 22 = .ok (.ifCond .eq 10, 3) := by decide +kernel
theorem dX4_leftOf_25 : decode cX4_leftOf 25 = .ok (.iload_n 3, 1) := by decide +kernel
theorem dX4_leftOf_26 : decode cX4_leftOf 26 = .ok (.iconst 1, 1) := by decide +kernel
theorem dX4_leftOf_27 : decode cX4_leftOf 27 = .ok (.iload 4, 2) := by decide +kernel
theorem dX4_leftOf_29 : decode cX4_leftOf 29 = .ok (.ishl, 1) := by decide +kernel
theorem dX4_leftOf_30 : decode cX4_leftOf 30 = .ok (.ior, 1) := by decide +kernel
theorem dX4_leftOf_31 : decode cX4_leftOf 31 = .ok (.istore_n 3, 1) := by decide +kernel
theorem dX4_leftOf_32 : decode cX4_leftOf 32 = .ok (.iinc 4 1, 3) := by decide +kernel
theorem dX4_leftOf_35 : decode cX4_leftOf 35 = .ok (.goto (-30), 3) := by decide +kernel
theorem dX4_leftOf_38 : decode cX4_leftOf 38 = .ok (.iload_n 3, 1) := by decide +kernel
theorem dX4_leftOf_39 : decode cX4_leftOf 39 = .ok (.ireturn, 1) := by decide +kernel
set_option maxRecDepth 20000 in
theorem ggX4_isLeft_X0_countsOn : GoodIn wsX4_isLeft wsX0_countsOn := goodIn_r _ [8, 9, 10, 11, 12, 13, 7, 14, 15, 16, 17, 18, 19, 20, 21, 22, 23, 24, 25, 26, 27, 28, 29, 30, 31, 32, 33, 34, 35] (by decide +kernel) (by decide +kernel)
set_option maxRecDepth 20000 in
theorem gX4_isLeft_X0_countsOn : GoodIn wsX4_isLeft (wsV RX4 35 RX0 yX0_countsOn wsX0_countsOn) := goodIn_app (goodIn_of _ (by decide +kernel)) ggX4_isLeft_X0_countsOn

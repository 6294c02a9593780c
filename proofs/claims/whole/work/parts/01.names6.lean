theorem dX7_fits_164 : decode cX7_fits 164 = .ok (.iload_n 1, 1) := by decide +kernel
theorem dX7_fits_165 : decode cX7_fits 165 = .ok (.bipush 40, 2) := by decide +kernel
theorem dX7_fits_167 : decode cX7_fits 167 = .ok (.iload_n 2, 1) := by decide +kernel
theorem dX7_fits_168 : decode cX7_fits 168 = .ok (.imul, 1) := by decide +kernel
theorem dX7_fits_169 : decode cX7_fits 169 = .ok (.iload_n 3, 1) := by decide +kernel
theorem dX7_fits_170 : decode cX7_fits 170 = .ok (.iadd, 1) := by decide +kernel
theorem dX7_fits_171 : decode cX7_fits 171 = .ok (.iload 4, 2) := by decide +kernel
theorem dX7_fits_173 : decode cX7_fits 173 = .ok (.iload 6, 2) := by decide +kernel
theorem dX7_fits_175 : decode cX7_fits 175 = .ok (.iload 11, 2) := by decide +kernel
theorem dX7_fits_177 : decode cX7_fits 177 = .ok (.invokevirtual 213, 3) := by decide +kernel
theorem dX7_fits_180 : decode cX7_fits 180 = .ok (.ifCond .eq 29, 3) := by decide +kernel
theorem dX7_fits_183 : decode cX7_fits 183 = .ok (.iload 8, 2) := by decide +kernel
theorem dX7_fits_185 : decode cX7_fits 185 = .ok (.iload 5, 2) := by decide +kernel
theorem dX7_fits_187 : decode cX7_fits 187 = .ok (.iconst 2, 1) := by decide +kernel
theorem dX7_fits_188 : decode cX7_fits 188 = .ok (.if_icmp .ge 7, 3) := by decide +kernel
theorem dX7_fits_191 : decode cX7_fits 191 = .ok (.iconst 0, 1) := by decide +kernel
theorem dX7_fits_192 : decode cX7_fits 192 = .ok (.goto 7, 3) := by decide +kernel
theorem dX7_fits_195 : decode cX7_fits 195 = .ok (.iconst 1, 1) := by decide +kernel
theorem dX7_fits_196 : decode cX7_fits 196 = .ok (.iload 11, 2) := by decide +kernel
theorem dX7_fits_198 : decode cX7_fits 198 = .ok (.ishl, 1) := by decide +kernel
theorem dX7_fits_199 : decode cX7_fits 199 = .ok (.ior, 1) := by decide +kernel
theorem dX7_fits_200 : decode cX7_fits 200 = .ok (.istore 8, 2) := by decide +kernel
theorem dX7_fits_202 : decode cX7_fits 202 = .ok (.iinc 9 1, 3) := by decide +kernel
theorem dX7_fits_205 : decode cX7_fits 205 = .ok (.iload 11, 2) := by decide +kernel
theorem dX7_fits_207 : decode cX7_fits 207 = .ok (.istore 10, 2) := by decide +kernel
theorem dX7_fits_209 : decode cX7_fits 209 = .ok (.iinc 11 (-1), 3) := by decide +kernel
theorem dX7_fits_212 : decode cX7_fits 212 = .ok (.goto (-54), 3) := by decide +kernel
theorem dX7_fits_215 : decode cX7_fits 215 = .ok (.aload_n 0, 1) := by decide +kernel
theorem dX7_fits_216 : decode cX7_fits 216 = .ok (.iload 5, 2) := by decide +kernel
theorem dX7_fits_218 : decode cX7_fits 218 = .ok (.ifCond .ne 8, 3) := by decide +kernel
theorem dX7_fits_221 : decode cX7_fits 221 = .ok (.iload 9, 2) := by decide +kernel
theorem dX7_fits_223 : decode cX7_fits 223 = .ok (.goto 16, 3) := by decide +kernel
theorem dX7_fits_226 : decode cX7_fits 226 = .ok (.iload 5, 2) := by decide +kernel
theorem dX7_fits_228 : decode cX7_fits 228 = .ok (.iconst 1, 1) := by decide +kernel
theorem dX7_fits_229 : decode cX7_fits 229 = .ok (.if_icmp .ne 8, 3) := by decide +kernel
theorem dX7_fits_232 : decode cX7_fits 232 = .ok (.iload 10, 2) := by decide +kernel
theorem dX7_fits_234 : decode cX7_fits 234 = .ok (.goto 5, 3) := by decide +kernel
theorem dX7_fits_237 : decode cX7_fits 237 = .ok (.iload 8, 2) := by decide +kernel
theorem dX7_fits_239 : decode cX7_fits 239 = .ok (.invokevirtual 78, 3) := by decide +kernel
theorem dX7_fits_242 : decode cX7_fits 242 = .ok (.ireturn, 1) := by decide +kernel
set_option maxRecDepth 20000 in
theorem ggX7_dropped_X7_isSoul : GoodIn wsX7_dropped wsX7_isSoul := goodIn_r _ [7, 2, 8, 9, 6, 10, 20, 21, 22, 23, 24, 25, 26, 27, 28, 29, 30, 31, 32, 33, 34, 35, 36, 37, 38, 39, 40, 41, 42, 43, 44, 45, 46, 47] (by decide +kernel) (by decide +kernel)
set_option maxRecDepth 20000 in
theorem gX7_dropped_X7_isSoul : GoodIn wsX7_dropped (wsV RX7 177 RX7 yX7_isSoul wsX7_isSoul) := goodIn_app (goodIn_of _ (by decide +kernel)) ggX7_dropped_X7_isSoul
set_option maxRecDepth 20000 in
theorem ggX7_dropped_X7_in : GoodIn wsX7_dropped wsX7_in := goodIn_r _ [10] (by decide +kernel) (by decide +kernel)
set_option maxRecDepth 20000 in
theorem gX7_dropped_X7_in : GoodIn wsX7_dropped (va_wsS RX7 65 yX7_in wsX7_in) := goodIn_app (goodIn_of _ (by decide +kernel)) ggX7_dropped_X7_in
set_option maxRecDepth 20000 in
theorem ggX7_dropped_X7_forceBy : GoodIn wsX7_dropped wsX7_forceBy := goodIn_r _ [13, 14, 15, 6, 16, 17, 18, 19] (by decide +kernel) (by decide +kernel)
set_option maxRecDepth 20000 in
theorem gX7_dropped_X7_forceBy : GoodIn wsX7_dropped (va_wsS RX7 158 yX7_forceBy wsX7_forceBy) := goodIn_app (goodIn_of _ (by decide +kernel)) ggX7_dropped_X7_forceBy
theorem dX7_dropped_0 : decode cX7_dropped 0 = .ok (.aload_n 0, 1) := by decide +kernel
theorem dX7_dropped_1 : decode cX7_dropped 1 = .ok (.iload_n 1, 1) := by decide +kernel
theorem dX7_dropped_2 : decode cX7_dropped 2 = .ok (.invokevirtual 177, 3) := by decide +kernel
theorem dX7_dropped_5 : decode cX7_dropped 5 = .ok (.ifCond .eq 23, 3) := by decide +kernel
theorem dX7_dropped_8 : decode cX7_dropped 8 = .ok (.iload_n 2, 1) := by decide +kernel
theorem dX7_dropped_9 : decode cX7_dropped 9 = .ok (.bipush (-2), 2) := by decide +kernel
theorem dX7_dropped_11 : decode cX7_dropped 11 = .ok (.bipush 60, 2) := by decide +kernel
theorem dX7_dropped_13 : decode cX7_dropped 13 = .ok (.invokestatic 65, 3) := by decide +kernel
theorem dX7_dropped_16 : decode cX7_dropped 16 = .ok (.ifCond .eq 12, 3) := by decide +kernel
theorem dX7_dropped_19 : decode cX7_dropped 19 = .ok (.iload_n 3, 1) := by decide +kernel
theorem dX7_dropped_20 : decode cX7_dropped 20 = .ok (.iconst 0, 1) := by decide +kernel
theorem dX7_dropped_21 : decode cX7_dropped 21 = .ok (.iconst 1, 1) := by decide +kernel
theorem dX7_dropped_22 : decode cX7_dropped 22 = .ok (.invokestatic 65, 3) := by decide +kernel
theorem dX7_dropped_25 : decode cX7_dropped 25 = .ok (.ifCond .ne 6, 3) := by decide +kernel
theorem dX7_dropped_28 : decode cX7_dropped 28 = .ok (.ldc 73, 2) := by decide +kernel
theorem dX7_dropped_30 : decode cX7_dropped 30 = .ok (.ireturn, 1) := by decide +kernel
theorem dX7_dropped_31 : decode cX7_dropped 31 = .ok (.bipush 7, 2) := by decide +kernel
theorem dX7_dropped_33 : decode cX7_dropped 33 = .ok (.iconst 3, 1) := by decide +kernel
theorem dX7_dropped_34 : decode cX7_dropped 34 = .ok (.iload_n 1, 1) := by decide +kernel
theorem dX7_dropped_35 : decode cX7_dropped 35 = .ok (.imul, 1) := by decide +kernel
theorem dX7_dropped_36 : decode cX7_dropped 36 = .ok (.iadd, 1) := by decide +kernel
theorem dX7_dropped_37 : decode cX7_dropped 37 = .ok (.istore 4, 2) := by decide +kernel
theorem dX7_dropped_39 : decode cX7_dropped 39 = .ok (.iconst 0, 1) := by decide +kernel
theorem dX7_dropped_40 : decode cX7_dropped 40 = .ok (.istore 5, 2) := by decide +kernel
theorem dX7_dropped_42 : decode cX7_dropped 42 = .ok (.iload_n 3, 1) := by decide +kernel
theorem dX7_dropped_43 : decode cX7_dropped 43 = .ok (.ifCond .ne 7, 3) := by decide +kernel
theorem dX7_dropped_46 : decode cX7_dropped 46 = .ok (.iconst 1, 1) := by decide +kernel
theorem dX7_dropped_47 : decode cX7_dropped 47 = .ok (.goto 4, 3) := by decide +kernel
theorem dX7_dropped_50 : decode cX7_dropped 50 = .ok (.iconst 0, 1) := by decide +kernel
theorem dX7_dropped_51 : decode cX7_dropped 51 = .ok (.istore 6, 2) := by decide +kernel
theorem dX7_dropped_53 : decode cX7_dropped 53 = .ok (.iload 6, 2) := by decide +kernel
theorem dX7_dropped_55 : decode cX7_dropped 55 = .ok (.iload_n 3, 1) := by decide +kernel
theorem dX7_dropped_56 : decode cX7_dropped 56 = .ok (.ifCond .ne 7, 3) := by decide +kernel
theorem dX7_dropped_59 : decode cX7_dropped 59 = .ok (.iconst 5, 1) := by decide +kernel
theorem dX7_dropped_60 : decode cX7_dropped 60 = .ok (.goto 5, 3) := by decide +kernel
theorem dX7_dropped_63 : decode cX7_dropped 63 = .ok (.bipush 20, 2) := by decide +kernel
theorem dX7_dropped_65 : decode cX7_dropped 65 = .ok (.if_icmp .gt 86, 3) := by decide +kernel
theorem dX7_dropped_68 : decode cX7_dropped 68 = .ok (.iload_n 3, 1) := by decide +kernel
theorem dX7_dropped_69 : decode cX7_dropped 69 = .ok (.ifCond .ne 8, 3) := by decide +kernel
theorem dX7_dropped_72 : decode cX7_dropped 72 = .ok (.iload 6, 2) := by decide +kernel
theorem dX7_dropped_74 : decode cX7_dropped 74 = .ok (.goto 10, 3) := by decide +kernel
theorem dX7_dropped_77 : decode cX7_dropped 77 = .ok (.aload_n 0, 1) := by decide +kernel
theorem dX7_dropped_78 : decode cX7_dropped 78 = .ok (.getfield 25, 3) := by decide +kernel
theorem dX7_dropped_81 : decode cX7_dropped 81 = .ok (.iload 4, 2) := by decide +kernel
theorem dX7_dropped_83 : decode cX7_dropped 83 = .ok (.iaload, 1) := by decide +kernel
theorem dX7_dropped_84 : decode cX7_dropped 84 = .ok (.iload_n 3, 1) := by decide +kernel
theorem dX7_dropped_85 : decode cX7_dropped 85 = .ok (.ifCond .ne 15, 3) := by decide +kernel
theorem dX7_dropped_88 : decode cX7_dropped 88 = .ok (.aload_n 0, 1) := by decide +kernel
theorem dX7_dropped_89 : decode cX7_dropped 89 = .ok (.getfield 25, 3) := by decide +kernel
theorem dX7_dropped_92 : decode cX7_dropped 92 = .ok (.iload 4, 2) := by decide +kernel
theorem dX7_dropped_94 : decode cX7_dropped 94 = .ok (.iconst 1, 1) := by decide +kernel
theorem dX7_dropped_95 : decode cX7_dropped 95 = .ok (.iadd, 1) := by decide +kernel
theorem dX7_dropped_96 : decode cX7_dropped 96 = .ok (.iaload, 1) := by decide +kernel
theorem dX7_dropped_97 : decode cX7_dropped 97 = .ok (.goto 5, 3) := by decide +kernel
theorem dX7_dropped_100 : decode cX7_dropped 100 = .ok (.iload 6, 2) := by decide +kernel
theorem dX7_dropped_102 : decode cX7_dropped 102 = .ok (.aload_n 0, 1) := by decide +kernel
theorem dX7_dropped_103 : decode cX7_dropped 103 = .ok (.getfield 25, 3) := by decide +kernel
theorem dX7_dropped_106 : decode cX7_dropped 106 = .ok (.iconst 0, 1) := by decide +kernel
theorem dX7_dropped_107 : decode cX7_dropped 107 = .ok (.iaload, 1) := by decide +kernel
theorem dX7_dropped_108 : decode cX7_dropped 108 = .ok (.aload_n 0, 1) := by decide +kernel
theorem dX7_dropped_109 : decode cX7_dropped 109 = .ok (.getfield 25, 3) := by decide +kernel
theorem dX7_dropped_112 : decode cX7_dropped 112 = .ok (.iconst 3, 1) := by decide +kernel
theorem dX7_dropped_113 : decode cX7_dropped 113 = .ok (.iaload, 1) := by decide +kernel
theorem dX7_dropped_114 : decode cX7_dropped 114 = .ok (.invokestatic 158, 3) := by decide +kernel
theorem dX7_dropped_117 : decode cX7_dropped 117 = .ok (.istore 7, 2) := by decide +kernel
theorem dX7_dropped_119 : decode cX7_dropped 119 = .ok (.iload 5, 2) := by decide +kernel
theorem dX7_dropped_121 : decode cX7_dropped 121 = .ok (.aload_n 0, 1) := by decide +kernel
theorem dX7_dropped_122 : decode cX7_dropped 122 = .ok (.getfield 25, 3) := by decide +kernel
theorem dX7_dropped_125 : decode cX7_dropped 125 = .ok (.iconst 0, 1) := by decide +kernel
theorem dX7_dropped_126 : decode cX7_dropped 126 = .ok (.iaload, 1) := by decide +kernel
theorem dX7_dropped_127 : decode cX7_dropped 127 = .ok (.iload 7, 2) := by decide +kernel
theorem dX7_dropped_129 : decode cX7_dropped 129 = .ok (.isub, 1) := by decide +kernel
theorem dX7_dropped_130 : decode cX7_dropped 130 = .ok (.iload_n 2, 1) := by decide +kernel
theorem dX7_dropped_131 : decode cX7_dropped 131 = .ok (.if_icmp .ne 10, 3) := by decide +kernel
theorem dX7_dropped_134 : decode cX7_dropped 134 = .ok (.iconst 1, 1) := by decide +kernel
theorem dX7_dropped_135 : decode cX7_dropped 135 = .ok (.iload 6, 2) := by decide +kernel
theorem dX7_dropped_137 : decode cX7_dropped 137 = .ok (.ishl, 1) := by decide +kernel
theorem dX7_dropped_138 : decode cX7_dropped 138 = .ok (.goto 4, 3) := by decide +kernel
theorem dX7_dropped_141 : decode cX7_dropped 141 = .ok (.iconst 0, 1) := by decide +kernel
theorem dX7_dropped_142 : decode cX7_dropped 142 = .ok (.ior, 1) := by decide +kernel
theorem dX7_dropped_143 : decode cX7_dropped 143 = .ok (.istore 5, 2) := by decide +kernel
theorem dX7_dropped_145 : decode cX7_dropped 145 = .ok (.iinc 6 1, 3) := by decide +kernel
theorem dX7_dropped_148 : decode cX7_dropped 148 = .ok (.goto (-95), 3) := by decide +kernel
theorem dX7_dropped_151 : decode cX7_dropped 151 = .ok (.iload 5, 2) := by decide +kernel
theorem dX7_dropped_153 : decode cX7_dropped 153 = .ok (.ireturn, 1) := by decide +kernel
set_option maxRecDepth 20000 in
theorem ggX7_owning_X7_isCoast : GoodIn wsX7_owning wsX7_isCoast := goodIn_r _ [8, 3, 31, 32, 33, 34, 35, 36, 37, 38, 39, 40, 41, 42, 43, 44, 45, 46, 47, 48, 49, 50, 51, 52, 53, 54, 55, 56, 57, 58] (by decide +kernel) (by decide +kernel)
set_option maxRecDepth 20000 in
theorem gX7_owning_X7_isCoast : GoodIn wsX7_owning (wsV RX7 166 RX7 yX7_isCoast wsX7_isCoast) := goodIn_app (goodIn_of _ (by decide +kernel)) ggX7_owning_X7_isCoast
set_option maxRecDepth 20000 in
theorem ggX7_owning_X7_in : GoodIn wsX7_owning wsX7_in := goodIn_r _ [11] (by decide +kernel) (by decide +kernel)
set_option maxRecDepth 20000 in
theorem gX7_owning_X7_in : GoodIn wsX7_owning (va_wsS RX7 65 yX7_in wsX7_in) := goodIn_app (goodIn_of _ (by decide +kernel)) ggX7_owning_X7_in
set_option maxRecDepth 20000 in
theorem ggX7_owning_X7_has : GoodIn wsX7_owning wsX7_has := goodIn_r _ [14] (by decide +kernel) (by decide +kernel)
set_option maxRecDepth 20000 in
theorem gX7_owning_X7_has : GoodIn wsX7_owning (va_wsS RX7 188 yX7_has wsX7_has) := goodIn_app (goodIn_of _ (by decide +kernel)) ggX7_owning_X7_has
set_option maxRecDepth 20000 in
theorem ggX7_owning_X7_forceBehind : GoodIn wsX7_owning wsX7_forceBehind := goodIn_r _ [18, 3, 12, 13, 7, 14, 19, 20, 21, 22, 23, 24, 25, 26, 27, 28, 29, 30, 31, 32, 33, 34, 35, 36, 37, 38, 39, 40, 41, 42, 43, 44, 45, 46, 47, 48, 49, 50, 51, 52, 53, 54, 55, 56, 57, 58] (by decide +kernel) (by decide +kernel)
set_option maxRecDepth 20000 in
theorem gX7_owning_X7_forceBehind : GoodIn wsX7_owning (wsV RX7 195 RX7 yX7_forceBehind wsX7_forceBehind) := goodIn_app (goodIn_of _ (by decide +kernel)) ggX7_owning_X7_forceBehind
theorem dX7_owning_0 : decode cX7_owning 0 = .ok (.aload_n 0, 1) := by decide +kernel
theorem dX7_owning_1 : decode cX7_owning 1 = .ok (.invokevirtual 166, 3) := by decide +kernel
theorem dX7_owning_4 : decode cX7_owning 4 = .ok (.ifCond .ne 6, 3) := by decide +kernel
theorem dX7_owning_7 : decode cX7_owning 7 = .ok (.ldc 169, 2) := by decide +kernel
theorem dX7_owning_9 : decode cX7_owning 9 = .ok (.ireturn, 1) := by decide +kernel
theorem dX7_owning_10 : decode cX7_owning 10 = .ok (.iload_n 1, 1) := by decide +kernel
theorem dX7_owning_11 : decode cX7_owning 11 = .ok (.iconst 0, 1) := by decide +kernel
theorem dX7_owning_12 : decode cX7_owning 12 = .ok (.bipush 60, 2) := by decide +kernel
theorem dX7_owning_14 : decode cX7_owning 14 = .ok (.invokestatic 65, 3) := by decide +kernel
theorem dX7_owning_17 : decode cX7_owning 17 = .ok (.ifCond .eq 22, 3) := by decide +kernel
theorem dX7_owning_20 : decode cX7_owning 20 = .ok (.iload_n 2, 1) := by decide +kernel
theorem dX7_owning_21 : decode cX7_owning 21 = .ok (.iconst 0, 1) := by decide +kernel
theorem dX7_owning_22 : decode cX7_owning 22 = .ok (.bipush 10, 2) := by decide +kernel
theorem dX7_owning_24 : decode cX7_owning 24 = .ok (.invokestatic 65, 3) := by decide +kernel
theorem dX7_owning_27 : decode cX7_owning 27 = .ok (.ifCond .eq 12, 3) := by decide +kernel
theorem dX7_owning_30 : decode cX7_owning 30 = .ok (.iload_n 3, 1) := by decide +kernel
theorem dX7_owning_31 : decode cX7_owning 31 = .ok (.iconst 0, 1) := by decide +kernel
theorem dX7_owning_32 : decode cX7_owning 32 = .ok (.iconst 1, 1) := by decide +kernel
theorem dX7_owning_33 : decode cX7_owning 33 = .ok (.invokestatic 65, 3) := by decide +kernel
theorem dX7_owning_36 : decode cX7_owning 36 = .ok (.ifCond .ne 6, 3) := by decide +kernel
theorem dX7_owning_39 : decode cX7_owning 39 = .ok (.ldc 73, 2) := by decide +kernel
theorem dX7_owning_41 : decode cX7_owning 41 = .ok (.ireturn, 1) := by decide +kernel
theorem dX7_owning_42 : decode cX7_owning 42 = .ok (.iconst 0, 1) := by decide +kernel
theorem dX7_owning_43 : decode cX7_owning 43 = .ok (.istore 4, 2) := by decide +kernel
theorem dX7_owning_45 : decode cX7_owning 45 = .ok (.iconst 1, 1) := by decide +kernel
theorem dX7_owning_46 : decode cX7_owning 46 = .ok (.istore 5, 2) := by decide +kernel
theorem dX7_owning_48 : decode cX7_owning 48 = .ok (.iconst 0, 1) := by decide +kernel
theorem dX7_owning_49 : decode cX7_owning 49 = .ok (.istore 6, 2) := by decide +kernel
theorem dX7_owning_51 : decode cX7_owning 51 = .ok (.iload 6, 2) := by decide +kernel
theorem dX7_owning_53 : decode cX7_owning 53 = .ok (.aload_n 0, 1) := by decide +kernel
theorem dX7_owning_54 : decode cX7_owning 54 = .ok (.getfield 25, 3) := by decide +kernel
theorem dX7_owning_57 : decode cX7_owning 57 = .ok (.iconst 2, 1) := by decide +kernel
theorem dX7_owning_58 : decode cX7_owning 58 = .ok (.iaload, 1) := by decide +kernel
theorem dX7_owning_59 : decode cX7_owning 59 = .ok (.if_icmp .ge 16, 3) := by decide +kernel
theorem dX7_owning_62 : decode cX7_owning 62 = .ok (.iload 5, 2) := by decide +kernel
theorem dX7_owning_64 : decode cX7_owning 64 = .ok (.bipush 10, 2) := by decide +kernel
theorem dX7_owning_66 : decode cX7_owning 66 = .ok (.imul, 1) := by decide +kernel
theorem dX7_owning_67 : decode cX7_owning 67 = .ok (.istore 5, 2) := by decide +kernel
theorem dX7_owning_69 : decode cX7_owning 69 = .ok (.iinc 6 1, 3) := by decide +kernel
theorem dX7_owning_72 : decode cX7_owning 72 = .ok (.goto (-21), 3) := by decide +kernel
theorem dX7_owning_75 : decode cX7_owning 75 = .ok (.iconst 0, 1) := by decide +kernel
theorem dX7_owning_76 : decode cX7_owning 76 = .ok (.istore 6, 2) := by decide +kernel
theorem dX7_owning_78 : decode cX7_owning 78 = .ok (.iload 6, 2) := by decide +kernel
theorem dX7_owning_80 : decode cX7_owning 80 = .ok (.iconst 1, 1) := by decide +kernel
theorem dX7_owning_81 : decode cX7_owning 81 = .ok (.aload_n 0, 1) := by decide +kernel
theorem dX7_owning_82 : decode cX7_owning 82 = .ok (.getfield 25, 3) := by decide +kernel
theorem dX7_owning_85 : decode cX7_owning 85 = .ok (.iconst 2, 1) := by decide +kernel
theorem dX7_owning_86 : decode cX7_owning 86 = .ok (.iaload, 1) := by decide +kernel
theorem dX7_owning_87 : decode cX7_owning 87 = .ok (.ishl, 1) := by decide +kernel
theorem dX7_owning_88 : decode cX7_owning 88 = .ok (.if_icmp .ge 76, 3) := by decide +kernel
theorem dX7_owning_91 : decode cX7_owning 91 = .ok (.iconst 1, 1) := by decide +kernel
theorem dX7_owning_92 : decode cX7_owning 92 = .ok (.istore 7, 2) := by decide +kernel
theorem dX7_owning_94 : decode cX7_owning 94 = .ok (.iconst 0, 1) := by decide +kernel
theorem dX7_owning_95 : decode cX7_owning 95 = .ok (.istore 8, 2) := by decide +kernel
theorem dX7_owning_97 : decode cX7_owning 97 = .ok (.iload 8, 2) := by decide +kernel
theorem dX7_owning_99 : decode cX7_owning 99 = .ok (.aload_n 0, 1) := by decide +kernel
theorem dX7_owning_100 : decode cX7_owning 100 = .ok (.getfield 25, 3) := by decide +kernel
theorem dX7_owning_103 : decode cX7_owning 103 = .ok (.iconst 2, 1) := by decide +kernel
theorem dX7_owning_104 : decode cX7_owning 104 = .ok (.iaload, 1) := by decide +kernel
theorem dX7_owning_105 : decode cX7_owning 105 = .ok (.if_icmp .ge 32, 3) := by decide +kernel
theorem dX7_owning_108 : decode cX7_owning 108 = .ok (.iload 7, 2) := by decide +kernel
theorem dX7_owning_110 : decode cX7_owning 110 = .ok (.iload 6, 2) := by decide +kernel
theorem dX7_owning_112 : decode cX7_owning 112 = .ok (.iload 8, 2) := by decide +kernel
theorem dX7_owning_114 : decode cX7_owning 114 = .ok (.invokestatic 188, 3) := by decide +kernel
theorem dX7_owning_117 : decode cX7_owning 117 = .ok (.ifCond .eq 7, 3) := by decide +kernel
theorem dX7_owning_120 : decode cX7_owning 120 = .ok (.iload_n 2, 1) := by decide +kernel
theorem dX7_owning_121 : decode cX7_owning 121 = .ok (.goto 7, 3) := by decide +kernel
theorem dX7_owning_124 : decode cX7_owning 124 = .ok (.bipush 10, 2) := by decide +kernel
theorem dX7_owning_126 : decode cX7_owning 126 = .ok (.iload_n 2, 1) := by decide +kernel
theorem dX7_owning_127 : decode cX7_owning 127 = .ok (.isub, 1) := by decide +kernel
theorem dX7_owning_128 : decode cX7_owning 128 = .ok (.imul, 1) := by decide +kernel
theorem dX7_owning_129 : decode cX7_owning 129 = .ok (.istore 7, 2) := by decide +kernel
theorem dX7_owning_131 : decode cX7_owning 131 = .ok (.iinc 8 1, 3) := by decide +kernel
theorem dX7_owning_134 : decode cX7_owning 134 = .ok (.goto (-37), 3) := by decide +kernel
theorem dX7_owning_137 : decode cX7_owning 137 = .ok (.iload 4, 2) := by decide +kernel
theorem dX7_owning_139 : decode cX7_owning 139 = .ok (.aload_n 0, 1) := by decide +kernel
theorem dX7_owning_140 : decode cX7_owning 140 = .ok (.iload 6, 2) := by decide +kernel
theorem dX7_owning_142 : decode cX7_owning 142 = .ok (.invokevirtual 195, 3) := by decide +kernel
theorem dX7_owning_145 : decode cX7_owning 145 = .ok (.iload_n 1, 1) := by decide +kernel
theorem dX7_owning_146 : decode cX7_owning 146 = .ok (.if_icmp .gt 8, 3) := by decide +kernel
theorem dX7_owning_149 : decode cX7_owning 149 = .ok (.iload 7, 2) := by decide +kernel
theorem dX7_owning_151 : decode cX7_owning 151 = .ok (.goto 4, 3) := by decide +kernel
theorem dX7_owning_154 : decode cX7_owning 154 = .ok (.iconst 0, 1) := by decide +kernel
theorem dX7_owning_155 : decode cX7_owning 155 = .ok (.iadd, 1) := by decide +kernel
theorem dX7_owning_156 : decode cX7_owning 156 = .ok (.istore 4, 2) := by decide +kernel
theorem dX7_owning_158 : decode cX7_owning 158 = .ok (.iinc 6 1, 3) := by decide +kernel
theorem dX7_owning_161 : decode cX7_owning 161 = .ok (.goto (-83), 3) := by decide +kernel
theorem dX7_owning_164 : decode cX7_owning 164 = .ok (.iload 4, 2) := by decide +kernel
theorem dX7_owning_166 : decode cX7_owning 166 = .ok (.istore 6, 2) := by decide +kernel
theorem dX7_owning_168 : decode cX7_owning 168 = .ok (.iload 5, 2) := by decide +kernel
theorem dX7_owning_170 : decode cX7_owning 170 = .ok (.istore 7, 2) := by decide +kernel
theorem dX7_owning_172 : decode cX7_owning 172 = .ok (.iload 7, 2) := by decide +kernel
theorem dX7_owning_174 : decode cX7_owning 174 = .ok (.ifCond .eq 21, 3) := by decide +kernel
theorem dX7_owning_177 : decode cX7_owning 177 = .ok (.iload 6, 2) := by decide +kernel
theorem dX7_owning_179 : decode cX7_owning 179 = .ok (.iload 7, 2) := by decide +kernel
theorem dX7_owning_181 : decode cX7_owning 181 = .ok (.irem, 1) := by decide +kernel
theorem dX7_owning_182 : decode cX7_owning 182 = .ok (.istore 8, 2) := by decide +kernel
theorem dX7_owning_184 : decode cX7_owning 184 = .ok (.iload 7, 2) := by decide +kernel
theorem dX7_owning_186 : decode cX7_owning 186 = .ok (.istore 6, 2) := by decide +kernel
theorem dX7_owning_188 : decode cX7_owning 188 = .ok (.iload 8, 2) := by decide +kernel
theorem dX7_owning_190 : decode cX7_owning 190 = .ok (.istore 7, 2) := by decide +kernel
theorem dX7_owning_192 : decode cX7_owning 192 = .ok (.goto (-20), 3) := by decide +kernel
theorem dX7_owning_195 : decode cX7_owning 195 = .ok (.iload_n 3, 1) := by decide +kernel
theorem dX7_owning_196 : decode cX7_owning 196 = .ok (.ifCond .ne 8, 3) := by decide +kernel
theorem dX7_owning_199 : decode cX7_owning 199 = .ok (.iload 4, 2) := by decide +kernel
theorem dX7_owning_201 : decode cX7_owning 201 = .ok (.goto 5, 3) := by decide +kernel
theorem dX7_owning_204 : decode cX7_owning 204 = .ok (.iload 5, 2) := by decide +kernel
theorem dX7_owning_206 : decode cX7_owning 206 = .ok (.iload 6, 2) := by decide +kernel
theorem dX7_owning_208 : decode cX7_owning 208 = .ok (.idiv, 1) := by decide +kernel
theorem dX7_owning_209 : decode cX7_owning 209 = .ok (.ireturn, 1) := by decide +kernel
set_option maxRecDepth 20000 in
theorem ggX7_drawn_X7_isCoast : GoodIn wsX7_drawn wsX7_isCoast := goodIn_r _ [14, 4, 46, 47, 48, 49, 50, 51, 52, 53, 54, 55, 56, 57, 58, 59, 60, 61, 62, 63, 64, 65, 66, 67, 68, 69, 70, 71, 72, 73] (by decide +kernel) (by decide +kernel)
set_option maxRecDepth 20000 in
theorem gX7_drawn_X7_isCoast : GoodIn wsX7_drawn (wsV RX7 166 RX7 yX7_isCoast wsX7_isCoast) := goodIn_app (goodIn_of _ (by decide +kernel)) ggX7_drawn_X7_isCoast
set_option maxRecDepth 20000 in
theorem ggX7_drawn_X7_in : GoodIn wsX7_drawn wsX7_in := goodIn_r _ [17] (by decide +kernel) (by decide +kernel)
set_option maxRecDepth 20000 in
theorem gX7_drawn_X7_in : GoodIn wsX7_drawn (va_wsS RX7 65 yX7_in wsX7_in) := goodIn_app (goodIn_of _ (by decide +kernel)) ggX7_drawn_X7_in
set_option maxRecDepth 20000 in
theorem ggX7_drawn_X7_copies : GoodIn wsX7_drawn wsX7_copies := goodIn_r _ [20] (by decide +kernel) (by decide +kernel)
set_option maxRecDepth 20000 in
theorem gX7_drawn_X7_copies : GoodIn wsX7_drawn (va_wsS RX7 144 yX7_copies wsX7_copies) := goodIn_app (goodIn_of _ (by decide +kernel)) ggX7_drawn_X7_copies
set_option maxRecDepth 20000 in
theorem ggX7_drawn_X7_confesses : GoodIn wsX7_drawn wsX7_confesses := goodIn_r _ [23, 24, 25, 13, 26, 27, 28, 29, 30, 31, 32, 33, 34, 35] (by decide +kernel) (by decide +kernel)
set_option maxRecDepth 20000 in
theorem gX7_drawn_X7_confesses : GoodIn wsX7_drawn (va_wsS RX7 180 yX7_confesses wsX7_confesses) := goodIn_app (goodIn_of _ (by decide +kernel)) ggX7_drawn_X7_confesses
set_option maxRecDepth 20000 in
theorem ggX7_drawn_X7_passes : GoodIn wsX7_drawn wsX7_passes := goodIn_r _ [38, 39, 30, 31, 13, 32, 15, 16, 17] (by decide +kernel) (by decide +kernel)
set_option maxRecDepth 20000 in
theorem gX7_drawn_X7_passes : GoodIn wsX7_drawn (va_wsS RX7 173 yX7_passes wsX7_passes) := goodIn_app (goodIn_of _ (by decide +kernel)) ggX7_drawn_X7_passes
set_option maxRecDepth 20000 in
theorem ggX7_drawn_X7_bares : GoodIn wsX7_drawn wsX7_bares := goodIn_r _ [42] (by decide +kernel) (by decide +kernel)
set_option maxRecDepth 20000 in
theorem gX7_drawn_X7_bares : GoodIn wsX7_drawn (va_wsS RX7 226 yX7_bares wsX7_bares) := goodIn_app (goodIn_of _ (by decide +kernel)) ggX7_drawn_X7_bares
set_option maxRecDepth 20000 in
theorem ggX7_drawn_X7_ones : GoodIn wsX7_drawn wsX7_ones := goodIn_r _ [45] (by decide +kernel) (by decide +kernel)
set_option maxRecDepth 20000 in
theorem gX7_drawn_X7_ones : GoodIn wsX7_drawn (va_wsS RX7 192 yX7_ones wsX7_ones) := goodIn_app (goodIn_of _ (by decide +kernel)) ggX7_drawn_X7_ones
theorem dX7_drawn_0 : decode cX7_drawn 0 = .ok (.aload_n 0, 1) := by decide +kernel
theorem dX7_drawn_1 : decode cX7_drawn 1 = .ok (.invokevirtual 166, 3) := by decide +kernel
theorem dX7_drawn_4 : decode cX7_drawn 4 = .ok (.ifCond .ne 6, 3) := by decide +kernel
theorem dX7_drawn_7 : decode cX7_drawn 7 = .ok (.ldc 169, 2) := by decide +kernel
theorem dX7_drawn_9 : decode cX7_drawn 9 = .ok (.ireturn, 1) := by decide +kernel
theorem dX7_drawn_10 : decode cX7_drawn 10 = .ok (.iload_n 1, 1) := by decide +kernel
theorem dX7_drawn_11 : decode cX7_drawn 11 = .ok (.iconst 0, 1) := by decide +kernel
theorem dX7_drawn_12 : decode cX7_drawn 12 = .ok (.bipush 60, 2) := by decide +kernel
theorem dX7_drawn_14 : decode cX7_drawn 14 = .ok (.invokestatic 65, 3) := by decide +kernel
theorem dX7_drawn_17 : decode cX7_drawn 17 = .ok (.ifCond .eq 22, 3) := by decide +kernel
theorem dX7_drawn_20 : decode cX7_drawn 20 = .ok (.iload_n 2, 1) := by decide +kernel
theorem dX7_drawn_21 : decode cX7_drawn 21 = .ok (.iconst 1, 1) := by decide +kernel
theorem dX7_drawn_22 : decode cX7_drawn 22 = .ok (.ldc 217, 2) := by decide +kernel
theorem dX7_drawn_24 : decode cX7_drawn 24 = .ok (.invokestatic 65, 3) := by decide +kernel
theorem dX7_drawn_27 : decode cX7_drawn 27 = .ok (.ifCond .eq 12, 3) := by decide +kernel
theorem dX7_drawn_30 : decode cX7_drawn 30 = .ok (.iload_n 3, 1) := by decide +kernel
theorem dX7_drawn_31 : decode cX7_drawn 31 = .ok (.iconst 0, 1) := by decide +kernel
theorem dX7_drawn_32 : decode cX7_drawn 32 = .ok (.iconst 1, 1) := by decide +kernel
theorem dX7_drawn_33 : decode cX7_drawn 33 = .ok (.invokestatic 65, 3) := by decide +kernel
theorem dX7_drawn_36 : decode cX7_drawn 36 = .ok (.ifCond .ne 6, 3) := by decide +kernel
theorem dX7_drawn_39 : decode cX7_drawn 39 = .ok (.ldc 73, 2) := by decide +kernel
theorem dX7_drawn_41 : decode cX7_drawn 41 = .ok (.ireturn, 1) := by decide +kernel
theorem dX7_drawn_42 : decode cX7_drawn 42 = .ok (.aload_n 0, 1) := by decide +kernel
theorem dX7_drawn_43 : decode cX7_drawn 43 = .ok (.getfield 25, 3) := by decide +kernel
theorem dX7_drawn_46 : decode cX7_drawn 46 = .ok (.iconst 0, 1) := by decide +kernel
theorem dX7_drawn_47 : decode cX7_drawn 47 = .ok (.aload_n 0, 1) := by decide +kernel
theorem dX7_drawn_48 : decode cX7_drawn 48 = .ok (.getfield 31, 3) := by decide +kernel
theorem dX7_drawn_51 : decode cX7_drawn 51 = .ok (.iconst 0, 1) := by decide +kernel
theorem dX7_drawn_52 : decode cX7_drawn 52 = .ok (.invokestatic 144, 3) := by decide +kernel
theorem dX7_drawn_55 : decode cX7_drawn 55 = .ok (.aload_n 0, 1) := by decide +kernel
theorem dX7_drawn_56 : decode cX7_drawn 56 = .ok (.getfield 31, 3) := by decide +kernel
theorem dX7_drawn_59 : decode cX7_drawn 59 = .ok (.bipush 6, 2) := by decide +kernel
theorem dX7_drawn_61 : decode cX7_drawn 61 = .ok (.iconst 0, 1) := by decide +kernel
theorem dX7_drawn_62 : decode cX7_drawn 62 = .ok (.iastore, 1) := by decide +kernel
theorem dX7_drawn_63 : decode cX7_drawn 63 = .ok (.iload_n 2, 1) := by decide +kernel
theorem dX7_drawn_64 : decode cX7_drawn 64 = .ok (.i2l, 1) := by decide +kernel
theorem dX7_drawn_65 : decode cX7_drawn 65 = .ok (.lstore 4, 2) := by decide +kernel
theorem dX7_drawn_67 : decode cX7_drawn 67 = .ok (.iconst 0, 1) := by decide +kernel
theorem dX7_drawn_68 : decode cX7_drawn 68 = .ok (.istore 6, 2) := by decide +kernel
theorem dX7_drawn_70 : decode cX7_drawn 70 = .ok (.iload 6, 2) := by decide +kernel
theorem dX7_drawn_72 : decode cX7_drawn 72 = .ok (.iload_n 1, 1) := by decide +kernel
theorem dX7_drawn_73 : decode cX7_drawn 73 = .ok (.if_icmp .ge 94, 3) := by decide +kernel
theorem dX7_drawn_76 : decode cX7_drawn 76 = .ok (.lload 4, 2) := by decide +kernel
theorem dX7_drawn_78 : decode cX7_drawn 78 = .ok (.ldc2_w 218, 3) := by decide +kernel
theorem dX7_drawn_81 : decode cX7_drawn 81 = .ok (.lmul, 1) := by decide +kernel
theorem dX7_drawn_82 : decode cX7_drawn 82 = .ok (.ldc2_w 220, 3) := by decide +kernel
theorem dX7_drawn_85 : decode cX7_drawn 85 = .ok (.lrem, 1) := by decide +kernel
theorem dX7_drawn_86 : decode cX7_drawn 86 = .ok (.lstore 4, 2) := by decide +kernel
theorem dX7_drawn_88 : decode cX7_drawn 88 = .ok (.lload 4, 2) := by decide +kernel
theorem dX7_drawn_90 : decode cX7_drawn 90 = .ok (.aload_n 0, 1) := by decide +kernel
theorem dX7_drawn_91 : decode cX7_drawn 91 = .ok (.getfield 25, 3) := by decide +kernel
theorem dX7_drawn_94 : decode cX7_drawn 94 = .ok (.iconst 2, 1) := by decide +kernel
theorem dX7_drawn_95 : decode cX7_drawn 95 = .ok (.iaload, 1) := by decide +kernel
theorem dX7_drawn_96 : decode cX7_drawn 96 = .ok (.i2l, 1) := by decide +kernel
theorem dX7_drawn_97 : decode cX7_drawn 97 = .ok (.lrem, 1) := by decide +kernel
theorem dX7_drawn_98 : decode cX7_drawn 98 = .ok (.l2i, 1) := by decide +kernel
theorem dX7_drawn_99 : decode cX7_drawn 99 = .ok (.istore 7, 2) := by decide +kernel
theorem dX7_drawn_101 : decode cX7_drawn 101 = .ok (.aload_n 0, 1) := by decide +kernel
theorem dX7_drawn_102 : decode cX7_drawn 102 = .ok (.getfield 31, 3) := by decide +kernel
theorem dX7_drawn_105 : decode cX7_drawn 105 = .ok (.iconst 0, 1) := by decide +kernel
theorem dX7_drawn_106 : decode cX7_drawn 106 = .ok (.iaload, 1) := by decide +kernel
theorem dX7_drawn_107 : decode cX7_drawn 107 = .ok (.ifCond .ne 27, 3) := by decide +kernel
theorem dX7_drawn_110 : decode cX7_drawn 110 = .ok (.aload_n 0, 1) := by decide +kernel
theorem dX7_drawn_111 : decode cX7_drawn 111 = .ok (.getfield 31, 3) := by decide +kernel
theorem dX7_drawn_114 : decode cX7_drawn 114 = .ok (.iconst 0, 1) := by decide +kernel
theorem dX7_drawn_115 : decode cX7_drawn 115 = .ok (.lload 4, 2) := by decide +kernel
theorem dX7_drawn_117 : decode cX7_drawn 117 = .ok (.ldc2_w 222, 3) := by decide +kernel
theorem dX7_drawn_120 : decode cX7_drawn 120 = .ok (.lrem, 1) := by decide +kernel
theorem dX7_drawn_121 : decode cX7_drawn 121 = .ok (.l2i, 1) := by decide +kernel
theorem dX7_drawn_122 : decode cX7_drawn 122 = .ok (.iastore, 1) := by decide +kernel
theorem dX7_drawn_123 : decode cX7_drawn 123 = .ok (.aload_n 0, 1) := by decide +kernel
theorem dX7_drawn_124 : decode cX7_drawn 124 = .ok (.getfield 31, 3) := by decide +kernel
theorem dX7_drawn_127 : decode cX7_drawn 127 = .ok (.iconst 4, 1) := by decide +kernel
theorem dX7_drawn_128 : decode cX7_drawn 128 = .ok (.iload 7, 2) := by decide +kernel
theorem dX7_drawn_130 : decode cX7_drawn 130 = .ok (.iastore, 1) := by decide +kernel
theorem dX7_drawn_131 : decode cX7_drawn 131 = .ok (.goto 23, 3) := by decide +kernel
theorem dX7_drawn_134 : decode cX7_drawn 134 = .ok (.lload 4, 2) := by decide +kernel
theorem dX7_drawn_136 : decode cX7_drawn 136 = .ok (.ldc2_w 224, 3) := by decide +kernel
theorem dX7_drawn_139 : decode cX7_drawn 139 = .ok (.lrem, 1) := by decide +kernel
theorem dX7_drawn_140 : decode cX7_drawn 140 = .ok (.lconst 0, 1) := by decide +kernel
theorem dX7_drawn_141 : decode cX7_drawn 141 = .ok (.lcmp, 1) := by decide +kernel
theorem dX7_drawn_142 : decode cX7_drawn 142 = .ok (.ifCond .ne 12, 3) := by decide +kernel
theorem dX7_drawn_145 : decode cX7_drawn 145 = .ok (.aload_n 0, 1) := by decide +kernel
theorem dX7_drawn_146 : decode cX7_drawn 146 = .ok (.getfield 31, 3) := by decide +kernel
theorem dX7_drawn_149 : decode cX7_drawn 149 = .ok (.iload 7, 2) := by decide +kernel
theorem dX7_drawn_151 : decode cX7_drawn 151 = .ok (.invokestatic 180, 3) := by decide +kernel
theorem dX7_drawn_154 : decode cX7_drawn 154 = .ok (.aload_n 0, 1) := by decide +kernel
theorem dX7_drawn_155 : decode cX7_drawn 155 = .ok (.getfield 31, 3) := by decide +kernel
theorem dX7_drawn_158 : decode cX7_drawn 158 = .ok (.invokestatic 173, 3) := by decide +kernel
theorem dX7_drawn_161 : decode cX7_drawn 161 = .ok (.iinc 6 1, 3) := by decide +kernel
theorem dX7_drawn_164 : decode cX7_drawn 164 = .ok (.goto (-94), 3) := by decide +kernel
theorem dX7_drawn_167 : decode cX7_drawn 167 = .ok (.iload_n 3, 1) := by decide +kernel
theorem dX7_drawn_168 : decode cX7_drawn 168 = .ok (.ifCond .ne 13, 3) := by decide +kernel
theorem dX7_drawn_171 : decode cX7_drawn 171 = .ok (.aload_n 0, 1) := by decide +kernel
theorem dX7_drawn_172 : decode cX7_drawn 172 = .ok (.getfield 31, 3) := by decide +kernel
theorem dX7_drawn_175 : decode cX7_drawn 175 = .ok (.bipush 6, 2) := by decide +kernel
theorem dX7_drawn_177 : decode cX7_drawn 177 = .ok (.iaload, 1) := by decide +kernel
theorem dX7_drawn_178 : decode cX7_drawn 178 = .ok (.goto 13, 3) := by decide +kernel
theorem dX7_drawn_181 : decode cX7_drawn 181 = .ok (.aload_n 0, 1) := by decide +kernel
theorem dX7_drawn_182 : decode cX7_drawn 182 = .ok (.getfield 31, 3) := by decide +kernel
theorem dX7_drawn_185 : decode cX7_drawn 185 = .ok (.invokestatic 226, 3) := by decide +kernel
theorem dX7_drawn_188 : decode cX7_drawn 188 = .ok (.invokestatic 192, 3) := by decide +kernel
theorem dX7_drawn_191 : decode cX7_drawn 191 = .ok (.ireturn, 1) := by decide +kernel
set_option maxRecDepth 20000 in
theorem ggX7_image_X7_in : GoodIn wsX7_image wsX7_in := goodIn_r _ [9] (by decide +kernel) (by decide +kernel)
set_option maxRecDepth 20000 in
theorem gX7_image_X7_in : GoodIn wsX7_image (va_wsS RX7 65 yX7_in wsX7_in) := goodIn_app (goodIn_of _ (by decide +kernel)) ggX7_image_X7_in
set_option maxRecDepth 20000 in
theorem ggX7_image_X7_isCoast : GoodIn wsX7_image wsX7_isCoast := goodIn_r _ [13, 3, 17, 18, 19, 20, 21, 22, 23, 24, 25, 26, 27, 28, 29, 30, 31, 32, 33, 34, 35, 36, 37, 38, 39, 40, 41, 42, 43, 44] (by decide +kernel) (by decide +kernel)
set_option maxRecDepth 20000 in
theorem gX7_image_X7_isCoast : GoodIn wsX7_image (wsV RX7 166 RX7 yX7_isCoast wsX7_isCoast) := goodIn_app (goodIn_of _ (by decide +kernel)) ggX7_image_X7_isCoast
set_option maxRecDepth 20000 in
theorem ggX7_image_X7_copies : GoodIn wsX7_image wsX7_copies := goodIn_r _ [16] (by decide +kernel) (by decide +kernel)
set_option maxRecDepth 20000 in
theorem gX7_image_X7_copies : GoodIn wsX7_image (va_wsS RX7 144 yX7_copies wsX7_copies) := goodIn_app (goodIn_of _ (by decide +kernel)) ggX7_image_X7_copies
theorem dX7_image_0 : decode cX7_image 0 = .ok (.iload_n 1, 1) := by decide +kernel
theorem dX7_image_1 : decode cX7_image 1 = .ok (.iconst 0, 1) := by decide +kernel
theorem dX7_image_2 : decode cX7_image 2 = .ok (.iconst 1, 1) := by decide +kernel
theorem dX7_image_3 : decode cX7_image 3 = .ok (.invokestatic 65, 3) := by decide +kernel
theorem dX7_image_6 : decode cX7_image 6 = .ok (.ifCond .ne 6, 3) := by decide +kernel
theorem dX7_image_9 : decode cX7_image 9 = .ok (.ldc 73, 2) := by decide +kernel
theorem dX7_image_11 : decode cX7_image 11 = .ok (.ireturn, 1) := by decide +kernel
theorem dX7_image_12 : decode cX7_image 12 = .ok (.aload_n 0, 1) := by decide +kernel
theorem dX7_image_13 : decode cX7_image 13 = .ok (.invokevirtual 166, 3) := by decide +kernel
theorem dX7_image_16 : decode cX7_image 16 = .ok (.ifCond .ne 6, 3) := by decide +kernel
theorem dX7_image_19 : decode cX7_image 19 = .ok (.ldc 169, 2) := by decide +kernel
theorem dX7_image_21 : decode cX7_image 21 = .ok (.ireturn, 1) := by decide +kernel
theorem dX7_image_22 : decode cX7_image 22 = .ok (.aload_n 0, 1) := by decide +kernel
theorem dX7_image_23 : decode cX7_image 23 = .ok (.getfield 25, 3) := by decide +kernel
theorem dX7_image_26 : decode cX7_image 26 = .ok (.iconst 0, 1) := by decide +kernel
theorem dX7_image_27 : decode cX7_image 27 = .ok (.aload_n 0, 1) := by decide +kernel
theorem dX7_image_28 : decode cX7_image 28 = .ok (.getfield 37, 3) := by decide +kernel
theorem dX7_image_31 : decode cX7_image 31 = .ok (.bipush 28, 2) := by decide +kernel
theorem dX7_image_33 : decode cX7_image 33 = .ok (.iload_n 1, 1) := by decide +kernel
theorem dX7_image_34 : decode cX7_image 34 = .ok (.imul, 1) := by decide +kernel
theorem dX7_image_35 : decode cX7_image 35 = .ok (.invokestatic 144, 3) := by decide +kernel
theorem dX7_image_38 : decode cX7_image 38 = .ok (.aload_n 0, 1) := by decide +kernel
theorem dX7_image_39 : decode cX7_image 39 = .ok (.getfield 40, 3) := by decide +kernel
theorem dX7_image_42 : decode cX7_image 42 = .ok (.iload_n 1, 1) := by decide +kernel
theorem dX7_image_43 : decode cX7_image 43 = .ok (.iconst 1, 1) := by decide +kernel
theorem dX7_image_44 : decode cX7_image 44 = .ok (.bastore, 1) := by decide +kernel
theorem dX7_image_45 : decode cX7_image 45 = .ok (.iconst 1, 1) := by decide +kernel
theorem dX7_image_46 : decode cX7_image 46 = .ok (.ireturn, 1) := by decide +kernel
set_option maxRecDepth 20000 in
theorem ggX7_restore_X7_in : GoodIn wsX7_restore wsX7_in := goodIn_r _ [10] (by decide +kernel) (by decide +kernel)
set_option maxRecDepth 20000 in
theorem gX7_restore_X7_in : GoodIn wsX7_restore (va_wsS RX7 65 yX7_in wsX7_in) := goodIn_app (goodIn_of _ (by decide +kernel)) ggX7_restore_X7_in
set_option maxRecDepth 20000 in
theorem ggX7_restore_X7_copies : GoodIn wsX7_restore wsX7_copies := goodIn_r _ [13] (by decide +kernel) (by decide +kernel)
set_option maxRecDepth 20000 in
theorem gX7_restore_X7_copies : GoodIn wsX7_restore (va_wsS RX7 144 yX7_copies wsX7_copies) := goodIn_app (goodIn_of _ (by decide +kernel)) ggX7_restore_X7_copies
theorem dX7_restore_0 : decode cX7_restore 0 = .ok (.iload_n 1, 1) := by decide +kernel
theorem dX7_restore_1 : decode cX7_restore 1 = .ok (.iconst 0, 1) := by decide +kernel
theorem dX7_restore_2 : decode cX7_restore 2 = .ok (.iconst 1, 1) := by decide +kernel
theorem dX7_restore_3 : decode cX7_restore 3 = .ok (.invokestatic 65, 3) := by decide +kernel
theorem dX7_restore_6 : decode cX7_restore 6 = .ok (.ifCond .ne 6, 3) := by decide +kernel
theorem dX7_restore_9 : decode cX7_restore 9 = .ok (.ldc 73, 2) := by decide +kernel
theorem dX7_restore_11 : decode cX7_restore 11 = .ok (.ireturn, 1) := by decide +kernel
theorem dX7_restore_12 : decode cX7_restore 12 = .ok (.aload_n 0, 1) := by decide +kernel
theorem dX7_restore_13 : decode cX7_restore 13 = .ok (.getfield 40, 3) := by decide +kernel
theorem dX7_restore_16 : decode cX7_restore 16 = .ok (.iload_n 1, 1) := by decide +kernel
theorem dX7_restore_17 : decode cX7_restore 17 = .ok (.baload, 1) := by decide +kernel
theorem dX7_restore_18 : decode cX7_restore 18 = .ok (.ifCond .ne 6, 3) := by decide +kernel
theorem dX7_restore_21 : decode cX7_restore 21 = .ok (.ldc 169, 2) := by decide +kernel
theorem dX7_restore_23 : decode cX7_restore 23 = .ok (.ireturn, 1) := by decide +kernel
theorem dX7_restore_24 : decode cX7_restore 24 = .ok (.aload_n 0, 1) := by decide +kernel
theorem dX7_restore_25 : decode cX7_restore 25 = .ok (.getfield 37, 3) := by decide +kernel
theorem dX7_restore_28 : decode cX7_restore 28 = .ok (.bipush 28, 2) := by decide +kernel
theorem dX7_restore_30 : decode cX7_restore 30 = .ok (.iload_n 1, 1) := by decide +kernel
theorem dX7_restore_31 : decode cX7_restore 31 = .ok (.imul, 1) := by decide +kernel
theorem dX7_restore_32 : decode cX7_restore 32 = .ok (.aload_n 0, 1) := by decide +kernel
theorem dX7_restore_33 : decode cX7_restore 33 = .ok (.getfield 25, 3) := by decide +kernel
theorem dX7_restore_36 : decode cX7_restore 36 = .ok (.iconst 0, 1) := by decide +kernel
theorem dX7_restore_37 : decode cX7_restore 37 = .ok (.invokestatic 144, 3) := by decide +kernel
theorem dX7_restore_40 : decode cX7_restore 40 = .ok (.aload_n 0, 1) := by decide +kernel
theorem dX7_restore_41 : decode cX7_restore 41 = .ok (.iconst 0, 1) := by decide +kernel
theorem dX7_restore_42 : decode cX7_restore 42 = .ok (.putfield 148, 3) := by decide +kernel
theorem dX7_restore_45 : decode cX7_restore 45 = .ok (.iconst 1, 1) := by decide +kernel
theorem dX7_restore_46 : decode cX7_restore 46 = .ok (.ireturn, 1) := by decide +kernel
theorem dX7_kindIn_0 : decode cX7_kindIn 0 = .ok (.aload_n 0, 1) := by decide +kernel
theorem dX7_kindIn_1 : decode cX7_kindIn 1 = .ok (.getfield 25, 3) := by decide +kernel
theorem dX7_kindIn_4 : decode cX7_kindIn 4 = .ok (.bipush 7, 2) := by decide +kernel
theorem dX7_kindIn_6 : decode cX7_kindIn 6 = .ok (.iconst 3, 1) := by decide +kernel
theorem dX7_kindIn_7 : decode cX7_kindIn 7 = .ok (.iload_n 1, 1) := by decide +kernel
theorem dX7_kindIn_8 : decode cX7_kindIn 8 = .ok (.imul, 1) := by decide +kernel
theorem dX7_kindIn_9 : decode cX7_kindIn 9 = .ok (.iadd, 1) := by decide +kernel
theorem dX7_kindIn_10 : decode cX7_kindIn 10 = .ok (.iaload, 1) := by decide +kernel
theorem dX7_kindIn_11 : decode cX7_kindIn 11 = .ok (.ireturn, 1) := by decide +kernel
set_option maxRecDepth 20000 in
theorem ggX7_kind_X7_isSoul : GoodIn wsX7_kind wsX7_isSoul := goodIn_r _ [6, 7, 8, 9, 5, 10, 15, 16, 17, 18, 19, 20, 21, 22, 23, 24, 25, 26, 27, 28, 29, 30, 31, 32, 33, 34, 35, 36, 37, 38, 39, 40, 41, 42] (by decide +kernel) (by decide +kernel)
set_option maxRecDepth 20000 in
theorem gX7_kind_X7_isSoul : GoodIn wsX7_kind (wsV RX7 177 RX7 yX7_isSoul wsX7_isSoul) := goodIn_app (goodIn_of _ (by decide +kernel)) ggX7_kind_X7_isSoul
set_option maxRecDepth 20000 in
theorem ggX7_kind_X7_kindIn : GoodIn wsX7_kind wsX7_kindIn := goodIn_r _ [14, 7, 15, 16, 17, 18, 19, 20, 21, 22, 23, 24, 25, 26, 27, 28, 29, 30, 31, 32, 33, 34, 35, 36, 37, 38, 39, 40, 41, 42] (by decide +kernel) (by decide +kernel)
set_option maxRecDepth 20000 in
theorem gX7_kind_X7_kindIn : GoodIn wsX7_kind (wsV RX7 230 RX7 yX7_kindIn wsX7_kindIn) := goodIn_app (goodIn_of _ (by decide +kernel)) ggX7_kind_X7_kindIn
theorem dX7_kind_0 : decode cX7_kind 0 = .ok (.aload_n 0, 1) := by decide +kernel
theorem dX7_kind_1 : decode cX7_kind 1 = .ok (.iload_n 1, 1) := by decide +kernel
theorem dX7_kind_2 : decode cX7_kind 2 = .ok (.invokevirtual 177, 3) := by decide +kernel
theorem dX7_kind_5 : decode cX7_kind 5 = .ok (.ifCond .eq 11, 3) := by decide +kernel
theorem dX7_kind_8 : decode cX7_kind 8 = .ok (.aload_n 0, 1) := by decide +kernel
theorem dX7_kind_9 : decode cX7_kind 9 = .ok (.iload_n 1, 1) := by decide +kernel
theorem dX7_kind_10 : decode cX7_kind 10 = .ok (.invokevirtual 230, 3) := by decide +kernel
theorem dX7_kind_13 : decode cX7_kind 13 = .ok (.goto 5, 3) := by decide +kernel
theorem dX7_kind_16 : decode cX7_kind 16 = .ok (.ldc 73, 2) := by decide +kernel
theorem dX7_kind_18 : decode cX7_kind 18 = .ok (.ireturn, 1) := by decide +kernel
set_option maxRecDepth 20000 in
theorem ggX7_as_X7_isSoul : GoodIn wsX7_as wsX7_isSoul := goodIn_r _ [6, 7, 8, 9, 5, 10, 25, 26, 27, 28, 29, 30, 31, 32, 33, 34, 35, 36, 37, 38, 39, 40, 41, 42, 43, 44, 45, 46, 47, 48, 49, 50, 51, 52] (by decide +kernel) (by decide +kernel)
set_option maxRecDepth 20000 in
theorem gX7_as_X7_isSoul : GoodIn wsX7_as (wsV RX7 177 RX7 yX7_isSoul wsX7_isSoul) := goodIn_app (goodIn_of _ (by decide +kernel)) ggX7_as_X7_isSoul
set_option maxRecDepth 20000 in
theorem ggX7_as_X7_in : GoodIn wsX7_as wsX7_in := goodIn_r _ [10] (by decide +kernel) (by decide +kernel)
set_option maxRecDepth 20000 in
theorem gX7_as_X7_in : GoodIn wsX7_as (va_wsS RX7 65 yX7_in wsX7_in) := goodIn_app (goodIn_of _ (by decide +kernel)) ggX7_as_X7_in
set_option maxRecDepth 20000 in
theorem ggX7_as_X7_kindIn : GoodIn wsX7_as wsX7_kindIn := goodIn_r _ [14, 7, 25, 26, 27, 28, 29, 30, 31, 32, 33, 34, 35, 36, 37, 38, 39, 40, 41, 42, 43, 44, 45, 46, 47, 48, 49, 50, 51, 52] (by decide +kernel) (by decide +kernel)
set_option maxRecDepth 20000 in
theorem gX7_as_X7_kindIn : GoodIn wsX7_as (wsV RX7 230 RX7 yX7_kindIn wsX7_kindIn) := goodIn_app (goodIn_of _ (by decide +kernel)) ggX7_as_X7_kindIn
set_option maxRecDepth 20000 in
theorem ggX7_as_X7_well : GoodIn wsX7_as wsX7_well := goodIn_r _ [18, 19, 25, 26, 27, 28, 29, 30, 31, 32, 33, 34, 35, 36, 37, 38, 39, 40, 41, 42, 43, 44, 45, 46, 47, 48, 49, 50, 51, 52] (by decide +kernel) (by decide +kernel)
set_option maxRecDepth 20000 in
theorem gX7_as_X7_well : GoodIn wsX7_as (wsV RX7 78 RX7 yX7_well wsX7_well) := goodIn_app (goodIn_of _ (by decide +kernel)) ggX7_as_X7_well
set_option maxRecDepth 20000 in
theorem ggX7_as_X7_found : GoodIn wsX7_as wsX7_found := goodIn_r _ [23, 19, 24, 25, 26, 27, 28, 29, 30, 31, 32, 33, 34, 35, 36, 37, 38, 39, 40, 41, 42, 43, 44, 45, 46, 47, 48, 49, 50, 51, 52] (by decide +kernel) (by decide +kernel)
set_option maxRecDepth 20000 in
theorem gX7_as_X7_found : GoodIn wsX7_as (wsV RX7 74 RX7 yX7_found wsX7_found) := goodIn_app (goodIn_of _ (by decide +kernel)) ggX7_as_X7_found
theorem dX7_as_0 : decode cX7_as 0 = .ok (.aload_n 0, 1) := by decide +kernel
theorem dX7_as_1 : decode cX7_as 1 = .ok (.iload_n 1, 1) := by decide +kernel
theorem dX7_as_2 : decode cX7_as 2 = .ok (.invokevirtual 177, 3) := by decide +kernel
theorem dX7_as_5 : decode cX7_as 5 = .ok (.ifCond .eq 12, 3) := by decide +kernel
theorem dX7_as_8 : decode cX7_as 8 = .ok (.iload_n 2, 1) := by decide +kernel
theorem dX7_as_9 : decode cX7_as 9 = .ok (.iconst 0, 1) := by decide +kernel
theorem dX7_as_10 : decode cX7_as 10 = .ok (.iconst 5, 1) := by decide +kernel
theorem dX7_as_11 : decode cX7_as 11 = .ok (.invokestatic 65, 3) := by decide +kernel
theorem dX7_as_14 : decode cX7_as 14 = .ok (.ifCond .ne 6, 3) := by decide +kernel
theorem dX7_as_17 : decode cX7_as 17 = .ok (.ldc 73, 2) := by decide +kernel
theorem dX7_as_19 : decode cX7_as 19 = .ok (.ireturn, 1) := by decide +kernel
theorem dX7_as_20 : decode cX7_as 20 = .ok (.aload_n 0, 1) := by decide +kernel
theorem dX7_as_21 : decode cX7_as 21 = .ok (.iload_n 1, 1) := by decide +kernel
theorem dX7_as_22 : decode cX7_as 22 = .ok (.invokevirtual 230, 3) := by decide +kernel
theorem dX7_as_25 : decode cX7_as 25 = .ok (.istore_n 3, 1) := by decide +kernel
theorem dX7_as_26 : decode cX7_as 26 = .ok (.iload_n 2, 1) := by decide +kernel
theorem dX7_as_27 : decode cX7_as 27 = .ok (.ifCond .eq 28, 3) := by decide +kernel
theorem dX7_as_30 : decode cX7_as 30 = .ok (.iload_n 2, 1) := by decide +kernel
theorem dX7_as_31 : decode cX7_as 31 = .ok (.iload_n 3, 1) := by decide +kernel
theorem dX7_as_32 : decode cX7_as 32 = .ok (.if_icmp .eq 23, 3) := by decide +kernel
theorem dX7_as_35 : decode cX7_as 35 = .ok (.iload_n 2, 1) := by decide +kernel
theorem dX7_as_36 : decode cX7_as 36 = .ok (.iconst 1, 1) := by decide +kernel
theorem dX7_as_37 : decode cX7_as 37 = .ok (.if_icmp .ne 8, 3) := by decide +kernel
theorem dX7_as_40 : decode cX7_as 40 = .ok (.iload_n 3, 1) := by decide +kernel
theorem dX7_as_41 : decode cX7_as 41 = .ok (.iconst 4, 1) := by decide +kernel
theorem dX7_as_42 : decode cX7_as 42 = .ok (.if_icmp .lt 13, 3) := by decide +kernel
theorem dX7_as_45 : decode cX7_as 45 = .ok (.iload_n 2, 1) := by decide +kernel
theorem dX7_as_46 : decode cX7_as 46 = .ok (.iconst 4, 1) := by decide +kernel
theorem dX7_as_47 : decode cX7_as 47 = .ok (.if_icmp .ne 12, 3) := by decide +kernel
theorem dX7_as_50 : decode cX7_as 50 = .ok (.iload_n 3, 1) := by decide +kernel
theorem dX7_as_51 : decode cX7_as 51 = .ok (.iconst 5, 1) := by decide +kernel
theorem dX7_as_52 : decode cX7_as 52 = .ok (.if_icmp .ne 7, 3) := by decide +kernel
theorem dX7_as_55 : decode cX7_as 55 = .ok (.iconst 1, 1) := by decide +kernel
theorem dX7_as_56 : decode cX7_as 56 = .ok (.goto 4, 3) := by decide +kernel
theorem dX7_as_59 : decode cX7_as 59 = .ok (.iconst 0, 1) := by decide +kernel
theorem dX7_as_60 : decode cX7_as 60 = .ok (.istore 4, 2) := by decide +kernel
theorem dX7_as_62 : decode cX7_as 62 = .ok (.iload 4, 2) := by decide +kernel
theorem dX7_as_64 : decode cX7_as 64 = .ok (.ifCond .eq 11, 3) := by decide +kernel
theorem dX7_as_67 : decode cX7_as 67 = .ok (.aload_n 0, 1) := by decide +kernel
theorem dX7_as_68 : decode cX7_as 68 = .ok (.iload_n 1, 1) := by decide +kernel
theorem dX7_as_69 : decode cX7_as 69 = .ok (.invokevirtual 78, 3) := by decide +kernel
theorem dX7_as_72 : decode cX7_as 72 = .ok (.goto 8, 3) := by decide +kernel
theorem dX7_as_75 : decode cX7_as 75 = .ok (.aload_n 0, 1) := by decide +kernel
theorem dX7_as_76 : decode cX7_as 76 = .ok (.iconst 3, 1) := by decide +kernel
theorem dX7_as_77 : decode cX7_as 77 = .ok (.invokevirtual 74, 3) := by decide +kernel
theorem dX7_as_80 : decode cX7_as 80 = .ok (.ireturn, 1) := by decide +kernel
theorem dX7_begins_0 : decode cX7_begins 0 = .ok (.aload_n 0, 1) := by decide +kernel
theorem dX7_begins_1 : decode cX7_begins 1 = .ok (.getfield 233, 3) := by decide +kernel
theorem dX7_begins_4 : decode cX7_begins 4 = .ok (.bipush 16, 2) := by decide +kernel
theorem dX7_begins_6 : decode cX7_begins 6 = .ok (.if_icmp .ge 23, 3) := by decide +kernel
theorem dX7_begins_9 : decode cX7_begins 9 = .ok (.aload_n 0, 1) := by decide +kernel
theorem dX7_begins_10 : decode cX7_begins 10 = .ok (.getfield 56, 3) := by decide +kernel
theorem dX7_begins_13 : decode cX7_begins 13 = .ok (.aload_n 0, 1) := by decide +kernel
theorem dX7_begins_14 : decode cX7_begins 14 = .ok (.getfield 233, 3) := by decide +kernel
theorem dX7_begins_17 : decode cX7_begins 17 = .ok (.iload_n 1, 1) := by decide +kernel
theorem dX7_begins_18 : decode cX7_begins 18 = .ok (.iastore, 1) := by decide +kernel
theorem dX7_begins_19 : decode cX7_begins 19 = .ok (.aload_n 0, 1) := by decide +kernel
theorem dX7_begins_20 : decode cX7_begins 20 = .ok (.dup, 1) := by decide +kernel
theorem dX7_begins_21 : decode cX7_begins 21 = .ok (.getfield 233, 3) := by decide +kernel
theorem dX7_begins_24 : decode cX7_begins 24 = .ok (.iconst 1, 1) := by decide +kernel
theorem dX7_begins_25 : decode cX7_begins 25 = .ok (.iadd, 1) := by decide +kernel
theorem dX7_begins_26 : decode cX7_begins 26 = .ok (.putfield 233, 3) := by decide +kernel
theorem dX7_begins_29 : decode cX7_begins 29 = .ok (.return_, 1) := by decide +kernel
set_option maxRecDepth 20000 in
theorem ggX7_manMark_X7_kindIn : GoodIn wsX7_manMark wsX7_kindIn := goodIn_r _ [6, 1, 13, 14, 15, 16, 17, 18, 19, 20, 21, 22, 23, 24, 25, 26, 27, 28, 29, 30, 31, 32, 33, 34, 35, 36, 37, 38, 39, 40] (by decide +kernel) (by decide +kernel)
set_option maxRecDepth 20000 in
theorem gX7_manMark_X7_kindIn : GoodIn wsX7_manMark (wsV RX7 230 RX7 yX7_kindIn wsX7_kindIn) := goodIn_app (goodIn_of _ (by decide +kernel)) ggX7_manMark_X7_kindIn
set_option maxRecDepth 20000 in
theorem ggX7_manMark_X7_begins : GoodIn wsX7_manMark wsX7_begins := goodIn_r _ [10, 11, 12, 13, 14, 15, 16, 17, 18, 19, 20, 21, 22, 23, 24, 25, 26, 27, 28, 29, 30, 31, 32, 33, 34, 35, 36, 37, 38, 39, 40] (by decide +kernel) (by decide +kernel)
set_option maxRecDepth 20000 in
theorem gX7_manMark_X7_begins : GoodIn wsX7_manMark (wsV RX7 236 RX7 yX7_begins wsX7_begins) := goodIn_app (goodIn_of _ (by decide +kernel)) ggX7_manMark_X7_begins
theorem dX7_manMark_0 : decode cX7_manMark 0 = .ok (.aload_n 0, 1) := by decide +kernel
theorem dX7_manMark_1 : decode cX7_manMark 1 = .ok (.iload_n 1, 1) := by decide +kernel
theorem dX7_manMark_2 : decode cX7_manMark 2 = .ok (.invokevirtual 230, 3) := by decide +kernel
theorem dX7_manMark_5 : decode cX7_manMark 5 = .ok (.istore_n 2, 1) := by decide +kernel
theorem dX7_manMark_6 : decode cX7_manMark 6 = .ok (.iload_n 2, 1) := by decide +kernel
theorem dX7_manMark_7 : decode cX7_manMark 7 = .ok (.iconst 1, 1) := by decide +kernel
theorem dX7_manMark_8 : decode cX7_manMark 8 = .ok (.if_icmp .eq 19, 3) := by decide +kernel
theorem dX7_manMark_11 : decode cX7_manMark 11 = .ok (.aload_n 0, 1) := by decide +kernel
theorem dX7_manMark_12 : decode cX7_manMark 12 = .ok (.iload_n 2, 1) := by decide +kernel
theorem dX7_manMark_13 : decode cX7_manMark 13 = .ok (.iconst 2, 1) := by decide +kernel
theorem dX7_manMark_14 : decode cX7_manMark 14 = .ok (.if_icmp .ne 8, 3) := by decide +kernel
theorem dX7_manMark_17 : decode cX7_manMark 17 = .ok (.bipush 24, 2) := by decide +kernel
theorem dX7_manMark_19 : decode cX7_manMark 19 = .ok (.goto 5, 3) := by decide +kernel
theorem dX7_manMark_22 : decode cX7_manMark 22 = .ok (.bipush 22, 2) := by decide +kernel
theorem dX7_manMark_24 : decode cX7_manMark 24 = .ok (.invokevirtual 236, 3) := by decide +kernel
theorem dX7_manMark_27 : decode cX7_manMark 27 = .ok (.aload_n 0, 1) := by decide +kernel
theorem dX7_manMark_28 : decode cX7_manMark 28 = .ok (.bipush 21, 2) := by decide +kernel
theorem dX7_manMark_30 : decode cX7_manMark 30 = .ok (.invokevirtual 236, 3) := by decide +kernel
theorem dX7_manMark_33 : decode cX7_manMark 33 = .ok (.aload_n 0, 1) := by decide +kernel
theorem dX7_manMark_34 : decode cX7_manMark 34 = .ok (.bipush 20, 2) := by decide +kernel
theorem dX7_manMark_36 : decode cX7_manMark 36 = .ok (.invokevirtual 236, 3) := by decide +kernel
theorem dX7_manMark_39 : decode cX7_manMark 39 = .ok (.iload_n 1, 1) := by decide +kernel
theorem dX7_manMark_40 : decode cX7_manMark 40 = .ok (.aload_n 0, 1) := by decide +kernel
theorem dX7_manMark_41 : decode cX7_manMark 41 = .ok (.getfield 25, 3) := by decide +kernel
theorem dX7_manMark_44 : decode cX7_manMark 44 = .ok (.bipush 7, 2) := by decide +kernel
theorem dX7_manMark_46 : decode cX7_manMark 46 = .ok (.iconst 3, 1) := by decide +kernel
theorem dX7_manMark_47 : decode cX7_manMark 47 = .ok (.iload_n 1, 1) := by decide +kernel
theorem dX7_manMark_48 : decode cX7_manMark 48 = .ok (.imul, 1) := by decide +kernel
theorem dX7_manMark_49 : decode cX7_manMark 49 = .ok (.iadd, 1) := by decide +kernel
theorem dX7_manMark_50 : decode cX7_manMark 50 = .ok (.iconst 1, 1) := by decide +kernel
theorem dX7_manMark_51 : decode cX7_manMark 51 = .ok (.iadd, 1) := by decide +kernel
theorem dX7_manMark_52 : decode cX7_manMark 52 = .ok (.iaload, 1) := by decide +kernel
theorem dX7_manMark_53 : decode cX7_manMark 53 = .ok (.iadd, 1) := by decide +kernel
theorem dX7_manMark_54 : decode cX7_manMark 54 = .ok (.istore_n 3, 1) := by decide +kernel
theorem dX7_manMark_55 : decode cX7_manMark 55 = .ok (.iload_n 2, 1) := by decide +kernel
theorem dX7_manMark_56 : decode cX7_manMark 56 = .ok (.iconst 2, 1) := by decide +kernel
theorem dX7_manMark_57 : decode cX7_manMark 57 = .ok (.if_icmp .ne 9, 3) := by decide +kernel
theorem dX7_manMark_60 : decode cX7_manMark 60 = .ok (.iconst 2, 1) := by decide +kernel
theorem dX7_manMark_61 : decode cX7_manMark 61 = .ok (.iload_n 3, 1) := by decide +kernel
theorem dX7_manMark_62 : decode cX7_manMark 62 = .ok (.imul, 1) := by decide +kernel
theorem dX7_manMark_63 : decode cX7_manMark 63 = .ok (.goto 17, 3) := by decide +kernel
theorem dX7_manMark_66 : decode cX7_manMark 66 = .ok (.iload_n 2, 1) := by decide +kernel
theorem dX7_manMark_67 : decode cX7_manMark 67 = .ok (.iconst 3, 1) := by decide +kernel
theorem dX7_manMark_68 : decode cX7_manMark 68 = .ok (.if_icmp .ne 11, 3) := by decide +kernel
theorem dX7_manMark_71 : decode cX7_manMark 71 = .ok (.iload_n 3, 1) := by decide +kernel
theorem dX7_manMark_72 : decode cX7_manMark 72 = .ok (.sipush 1000, 3) := by decide +kernel
theorem dX7_manMark_75 : decode cX7_manMark 75 = .ok (.isub, 1) := by decide +kernel
theorem dX7_manMark_76 : decode cX7_manMark 76 = .ok (.goto 4, 3) := by decide +kernel
theorem dX7_manMark_79 : decode cX7_manMark 79 = .ok (.iload_n 3, 1) := by decide +kernel
theorem dX7_manMark_80 : decode cX7_manMark 80 = .ok (.ireturn, 1) := by decide +kernel
set_option maxRecDepth 20000 in
theorem ggX7_womanSize_X7_kindIn : GoodIn wsX7_womanSize wsX7_kindIn := goodIn_r _ [6, 1, 13, 14, 15, 16, 17, 18, 19, 20, 21, 22, 23, 24, 25, 26, 27, 28, 29, 30, 31, 32, 33, 34, 35, 36, 37, 38, 39, 40] (by decide +kernel) (by decide +kernel)
set_option maxRecDepth 20000 in
theorem gX7_womanSize_X7_kindIn : GoodIn wsX7_womanSize (wsV RX7 230 RX7 yX7_kindIn wsX7_kindIn) := goodIn_app (goodIn_of _ (by decide +kernel)) ggX7_womanSize_X7_kindIn
set_option maxRecDepth 20000 in
theorem ggX7_womanSize_X7_begins : GoodIn wsX7_womanSize wsX7_begins := goodIn_r _ [10, 11, 12, 13, 14, 15, 16, 17, 18, 19, 20, 21, 22, 23, 24, 25, 26, 27, 28, 29, 30, 31, 32, 33, 34, 35, 36, 37, 38, 39, 40] (by decide +kernel) (by decide +kernel)
set_option maxRecDepth 20000 in
theorem gX7_womanSize_X7_begins : GoodIn wsX7_womanSize (wsV RX7 236 RX7 yX7_begins wsX7_begins) := goodIn_app (goodIn_of _ (by decide +kernel)) ggX7_womanSize_X7_begins
theorem dX7_womanSize_0 : decode cX7_womanSize 0 = .ok (.aload_n 0, 1) := by decide +kernel
theorem dX7_womanSize_1 : decode cX7_womanSize 1 = .ok (.iload_n 1, 1) := by decide +kernel
theorem dX7_womanSize_2 : decode cX7_womanSize 2 = .ok (.invokevirtual 230, 3) := by decide +kernel
theorem dX7_womanSize_5 : decode cX7_womanSize 5 = .ok (.iconst 5, 1) := by decide +kernel
theorem dX7_womanSize_6 : decode cX7_womanSize 6 = .ok (.if_icmp .ne 7, 3) := by decide +kernel
theorem dX7_womanSize_9 : decode cX7_womanSize 9 = .ok (.iconst 1, 1) := by decide +kernel
theorem dX7_womanSize_10 : decode cX7_womanSize 10 = .ok (.goto 4, 3) := by decide +kernel
theorem dX7_womanSize_13 : decode cX7_womanSize 13 = .ok (.iconst 0, 1) := by decide +kernel
theorem dX7_womanSize_14 : decode cX7_womanSize 14 = .ok (.istore_n 2, 1) := by decide +kernel
theorem dX7_womanSize_15 : decode cX7_womanSize 15 = .ok (.iload_n 2, 1) := by decide +kernel
theorem dX7_womanSize_16 : decode cX7_womanSize 16 = .ok (.ifCond .eq 9, 3) := by decide +kernel
theorem dX7_womanSize_19 : decode cX7_womanSize 19 = .ok (.aload_n 0, 1) := by decide +kernel
theorem dX7_womanSize_20 : decode cX7_womanSize 20 = .ok (.bipush 14, 2) := by decide +kernel
theorem dX7_womanSize_22 : decode cX7_womanSize 22 = .ok (.invokevirtual 236, 3) := by decide +kernel
theorem dX7_womanSize_25 : decode cX7_womanSize 25 = .ok (.aload_n 0, 1) := by decide +kernel
theorem dX7_womanSize_26 : decode cX7_womanSize 26 = .ok (.bipush 13, 2) := by decide +kernel
theorem dX7_womanSize_28 : decode cX7_womanSize 28 = .ok (.invokevirtual 236, 3) := by decide +kernel
theorem dX7_womanSize_31 : decode cX7_womanSize 31 = .ok (.aload_n 0, 1) := by decide +kernel
theorem dX7_womanSize_32 : decode cX7_womanSize 32 = .ok (.bipush 10, 2) := by decide +kernel
theorem dX7_womanSize_34 : decode cX7_womanSize 34 = .ok (.invokevirtual 236, 3) := by decide +kernel
theorem dX7_womanSize_37 : decode cX7_womanSize 37 = .ok (.aload_n 0, 1) := by decide +kernel
theorem dX7_womanSize_38 : decode cX7_womanSize 38 = .ok (.getfield 25, 3) := by decide +kernel
theorem dX7_womanSize_41 : decode cX7_womanSize 41 = .ok (.bipush 7, 2) := by decide +kernel
theorem dX7_womanSize_43 : decode cX7_womanSize 43 = .ok (.iconst 3, 1) := by decide +kernel
theorem dX7_womanSize_44 : decode cX7_womanSize 44 = .ok (.iload_n 1, 1) := by decide +kernel
theorem dX7_womanSize_45 : decode cX7_womanSize 45 = .ok (.imul, 1) := by decide +kernel
theorem dX7_womanSize_46 : decode cX7_womanSize 46 = .ok (.iadd, 1) := by decide +kernel
theorem dX7_womanSize_47 : decode cX7_womanSize 47 = .ok (.iconst 2, 1) := by decide +kernel
theorem dX7_womanSize_48 : decode cX7_womanSize 48 = .ok (.iadd, 1) := by decide +kernel
theorem dX7_womanSize_49 : decode cX7_womanSize 49 = .ok (.iaload, 1) := by decide +kernel
theorem dX7_womanSize_50 : decode cX7_womanSize 50 = .ok (.bipush 100, 2) := by decide +kernel
theorem dX7_womanSize_52 : decode cX7_womanSize 52 = .ok (.isub, 1) := by decide +kernel
theorem dX7_womanSize_53 : decode cX7_womanSize 53 = .ok (.istore_n 3, 1) := by decide +kernel
theorem dX7_womanSize_54 : decode cX7_womanSize 54 = .ok (.iload_n 2, 1) := by decide +kernel
theorem dX7_womanSize_55 : decode cX7_womanSize 55 = .ok (.ifCond .eq 9, 3) := by decide +kernel
theorem dX7_womanSize_58 : decode cX7_womanSize 58 = .ok (.iconst 2, 1) := by decide +kernel
theorem dX7_womanSize_59 : decode cX7_womanSize 59 = .ok (.iload_n 3, 1) := by decide +kernel
theorem dX7_womanSize_60 : decode cX7_womanSize 60 = .ok (.imul, 1) := by decide +kernel
theorem dX7_womanSize_61 : decode cX7_womanSize 61 = .ok (.goto 4, 3) := by decide +kernel
theorem dX7_womanSize_64 : decode cX7_womanSize 64 = .ok (.iload_n 3, 1) := by decide +kernel
theorem dX7_womanSize_65 : decode cX7_womanSize 65 = .ok (.ireturn, 1) := by decide +kernel
set_option maxRecDepth 20000 in
theorem ggX7_manSize_X7_kindIn : GoodIn wsX7_manSize wsX7_kindIn := goodIn_r _ [6, 1, 17, 18, 19, 20, 21, 22, 23, 24, 25, 26, 27, 28, 29, 30, 31, 32, 33, 34, 35, 36, 37, 38, 39, 40, 41, 42, 43, 44] (by decide +kernel) (by decide +kernel)
set_option maxRecDepth 20000 in
theorem gX7_manSize_X7_kindIn : GoodIn wsX7_manSize (wsV RX7 230 RX7 yX7_kindIn wsX7_kindIn) := goodIn_app (goodIn_of _ (by decide +kernel)) ggX7_manSize_X7_kindIn
set_option maxRecDepth 20000 in
theorem ggX7_manSize_X7_begins : GoodIn wsX7_manSize wsX7_begins := goodIn_r _ [10, 11, 12, 17, 18, 19, 20, 21, 22, 23, 24, 25, 26, 27, 28, 29, 30, 31, 32, 33, 34, 35, 36, 37, 38, 39, 40, 41, 42, 43, 44] (by decide +kernel) (by decide +kernel)
set_option maxRecDepth 20000 in
theorem gX7_manSize_X7_begins : GoodIn wsX7_manSize (wsV RX7 236 RX7 yX7_begins wsX7_begins) := goodIn_app (goodIn_of _ (by decide +kernel)) ggX7_manSize_X7_begins
set_option maxRecDepth 20000 in
theorem ggX7_manSize_X7_manMark : GoodIn wsX7_manSize wsX7_manMark := goodIn_r _ [16, 1, 2, 3, 4, 5, 6, 7, 8, 9, 10, 11, 12, 17, 18, 19, 20, 21, 22, 23, 24, 25, 26, 27, 28, 29, 30, 31, 32, 33, 34, 35, 36, 37, 38, 39, 40, 41, 42, 43, 44] (by decide +kernel) (by decide +kernel)
set_option maxRecDepth 20000 in
theorem gX7_manSize_X7_manMark : GoodIn wsX7_manSize (wsV RX7 239 RX7 yX7_manMark wsX7_manMark) := goodIn_app (goodIn_of _ (by decide +kernel)) ggX7_manSize_X7_manMark
theorem dX7_manSize_0 : decode cX7_manSize 0 = .ok (.aload_n 0, 1) := by decide +kernel
theorem dX7_manSize_1 : decode cX7_manSize 1 = .ok (.iload_n 1, 1) := by decide +kernel
theorem dX7_manSize_2 : decode cX7_manSize 2 = .ok (.invokevirtual 230, 3) := by decide +kernel
theorem dX7_manSize_5 : decode cX7_manSize 5 = .ok (.iconst 2, 1) := by decide +kernel
theorem dX7_manSize_6 : decode cX7_manSize 6 = .ok (.if_icmp .ne 7, 3) := by decide +kernel
theorem dX7_manSize_9 : decode cX7_manSize 9 = .ok (.iconst 1, 1) := by decide +kernel
theorem dX7_manSize_10 : decode cX7_manSize 10 = .ok (.goto 4, 3) := by decide +kernel
theorem dX7_manSize_13 : decode cX7_manSize 13 = .ok (.iconst 0, 1) := by decide +kernel
theorem dX7_manSize_14 : decode cX7_manSize 14 = .ok (.istore_n 2, 1) := by decide +kernel
theorem dX7_manSize_15 : decode cX7_manSize 15 = .ok (.iload_n 2, 1) := by decide +kernel
theorem dX7_manSize_16 : decode cX7_manSize 16 = .ok (.ifCond .eq 9, 3) := by decide +kernel
theorem dX7_manSize_19 : decode cX7_manSize 19 = .ok (.aload_n 0, 1) := by decide +kernel
theorem dX7_manSize_20 : decode cX7_manSize 20 = .ok (.bipush 12, 2) := by decide +kernel
theorem dX7_manSize_22 : decode cX7_manSize 22 = .ok (.invokevirtual 236, 3) := by decide +kernel
theorem dX7_manSize_25 : decode cX7_manSize 25 = .ok (.aload_n 0, 1) := by decide +kernel
theorem dX7_manSize_26 : decode cX7_manSize 26 = .ok (.bipush 11, 2) := by decide +kernel
theorem dX7_manSize_28 : decode cX7_manSize 28 = .ok (.invokevirtual 236, 3) := by decide +kernel
theorem dX7_manSize_31 : decode cX7_manSize 31 = .ok (.aload_n 0, 1) := by decide +kernel
theorem dX7_manSize_32 : decode cX7_manSize 32 = .ok (.bipush 10, 2) := by decide +kernel
theorem dX7_manSize_34 : decode cX7_manSize 34 = .ok (.invokevirtual 236, 3) := by decide +kernel
theorem dX7_manSize_37 : decode cX7_manSize 37 = .ok (.aload_n 0, 1) := by decide +kernel
theorem dX7_manSize_38 : decode cX7_manSize 38 = .ok (.getfield 25, 3) := by decide +kernel
theorem dX7_manSize_41 : decode cX7_manSize 41 = .ok (.bipush 7, 2) := by decide +kernel
theorem dX7_manSize_43 : decode cX7_manSize 43 = .ok (.iconst 3, 1) := by decide +kernel
theorem dX7_manSize_44 : decode cX7_manSize 44 = .ok (.iload_n 1, 1) := by decide +kernel
theorem dX7_manSize_45 : decode cX7_manSize 45 = .ok (.imul, 1) := by decide +kernel
theorem dX7_manSize_46 : decode cX7_manSize 46 = .ok (.iadd, 1) := by decide +kernel
theorem dX7_manSize_47 : decode cX7_manSize 47 = .ok (.iconst 2, 1) := by decide +kernel
theorem dX7_manSize_48 : decode cX7_manSize 48 = .ok (.iadd, 1) := by decide +kernel
theorem dX7_manSize_49 : decode cX7_manSize 49 = .ok (.iaload, 1) := by decide +kernel
theorem dX7_manSize_50 : decode cX7_manSize 50 = .ok (.aload_n 0, 1) := by decide +kernel
theorem dX7_manSize_51 : decode cX7_manSize 51 = .ok (.iload_n 1, 1) := by decide +kernel
theorem dX7_manSize_52 : decode cX7_manSize 52 = .ok (.invokevirtual 239, 3) := by decide +kernel
theorem dX7_manSize_55 : decode cX7_manSize 55 = .ok (.iadd, 1) := by decide +kernel
theorem dX7_manSize_56 : decode cX7_manSize 56 = .ok (.istore_n 3, 1) := by decide +kernel
theorem dX7_manSize_57 : decode cX7_manSize 57 = .ok (.iload_n 2, 1) := by decide +kernel
theorem dX7_manSize_58 : decode cX7_manSize 58 = .ok (.ifCond .eq 8, 3) := by decide +kernel
theorem dX7_manSize_61 : decode cX7_manSize 61 = .ok (.iload_n 3, 1) := by decide +kernel
theorem dX7_manSize_62 : decode cX7_manSize 62 = .ok (.ineg, 1) := by decide +kernel
theorem dX7_manSize_63 : decode cX7_manSize 63 = .ok (.goto 4, 3) := by decide +kernel
theorem dX7_manSize_66 : decode cX7_manSize 66 = .ok (.iload_n 3, 1) := by decide +kernel
theorem dX7_manSize_67 : decode cX7_manSize 67 = .ok (.ireturn, 1) := by decide +kernel
set_option maxRecDepth 20000 in
theorem ggX7_womanMark_X7_begins : GoodIn wsX7_womanMark wsX7_begins := goodIn_r _ [5, 6, 7, 17, 18, 19, 20, 21, 22, 23, 24, 25, 26, 27, 28, 29, 30, 31, 32, 33, 34, 35, 36, 37, 38, 39, 40, 41, 42, 43, 44] (by decide +kernel) (by decide +kernel)
set_option maxRecDepth 20000 in
theorem gX7_womanMark_X7_begins : GoodIn wsX7_womanMark (wsV RX7 236 RX7 yX7_begins wsX7_begins) := goodIn_app (goodIn_of _ (by decide +kernel)) ggX7_womanMark_X7_begins
set_option maxRecDepth 20000 in
theorem ggX7_womanMark_X7_womanSize : GoodIn wsX7_womanMark wsX7_womanSize := goodIn_r _ [11, 12, 13, 14, 15, 4, 16, 1, 2, 3, 5, 6, 7, 17, 18, 19, 20, 21, 22, 23, 24, 25, 26, 27, 28, 29, 30, 31, 32, 33, 34, 35, 36, 37, 38, 39, 40, 41, 42, 43, 44] (by decide +kernel) (by decide +kernel)
set_option maxRecDepth 20000 in
theorem gX7_womanMark_X7_womanSize : GoodIn wsX7_womanMark (wsV RX7 242 RX7 yX7_womanSize wsX7_womanSize) := goodIn_app (goodIn_of _ (by decide +kernel)) ggX7_womanMark_X7_womanSize
theorem dX7_womanMark_0 : decode cX7_womanMark 0 = .ok (.aload_n 0, 1) := by decide +kernel
theorem dX7_womanMark_1 : decode cX7_womanMark 1 = .ok (.bipush 23, 2) := by decide +kernel
theorem dX7_womanMark_3 : decode cX7_womanMark 3 = .ok (.invokevirtual 236, 3) := by decide +kernel
theorem dX7_womanMark_6 : decode cX7_womanMark 6 = .ok (.aload_n 0, 1) := by decide +kernel
theorem dX7_womanMark_7 : decode cX7_womanMark 7 = .ok (.bipush 20, 2) := by decide +kernel
theorem dX7_womanMark_9 : decode cX7_womanMark 9 = .ok (.invokevirtual 236, 3) := by decide +kernel
theorem dX7_womanMark_12 : decode cX7_womanMark 12 = .ok (.iload_n 1, 1) := by decide +kernel
theorem dX7_womanMark_13 : decode cX7_womanMark 13 = .ok (.aload_n 0, 1) := by decide +kernel
theorem dX7_womanMark_14 : decode cX7_womanMark 14 = .ok (.iload_n 1, 1) := by decide +kernel
theorem dX7_womanMark_15 : decode cX7_womanMark 15 = .ok (.invokevirtual 242, 3) := by decide +kernel
theorem dX7_womanMark_18 : decode cX7_womanMark 18 = .ok (.isub, 1) := by decide +kernel
theorem dX7_womanMark_19 : decode cX7_womanMark 19 = .ok (.ireturn, 1) := by decide +kernel
set_option maxRecDepth 20000 in
theorem ggX7_ask_X7_isSoul : GoodIn wsX7_ask wsX7_isSoul := goodIn_r _ [7, 8, 9, 10, 6, 11, 37, 38, 39, 40, 41, 42, 43, 44, 45, 46, 47, 48, 49, 50, 51, 52, 53, 54, 55, 56, 57, 58, 59, 60, 61, 62, 63, 64] (by decide +kernel) (by decide +kernel)
set_option maxRecDepth 20000 in
theorem gX7_ask_X7_isSoul : GoodIn wsX7_ask (wsV RX7 177 RX7 yX7_isSoul wsX7_isSoul) := goodIn_app (goodIn_of _ (by decide +kernel)) ggX7_ask_X7_isSoul
set_option maxRecDepth 20000 in
theorem ggX7_ask_X7_in : GoodIn wsX7_ask wsX7_in := goodIn_r _ [11] (by decide +kernel) (by decide +kernel)
set_option maxRecDepth 20000 in
theorem gX7_ask_X7_in : GoodIn wsX7_ask (va_wsS RX7 65 yX7_in wsX7_in) := goodIn_app (goodIn_of _ (by decide +kernel)) ggX7_ask_X7_in
set_option maxRecDepth 20000 in
theorem ggX7_ask_X7_kindIn : GoodIn wsX7_ask wsX7_kindIn := goodIn_r _ [15, 8, 37, 38, 39, 40, 41, 42, 43, 44, 45, 46, 47, 48, 49, 50, 51, 52, 53, 54, 55, 56, 57, 58, 59, 60, 61, 62, 63, 64] (by decide +kernel) (by decide +kernel)
set_option maxRecDepth 20000 in
theorem gX7_ask_X7_kindIn : GoodIn wsX7_ask (wsV RX7 230 RX7 yX7_kindIn wsX7_kindIn) := goodIn_app (goodIn_of _ (by decide +kernel)) ggX7_ask_X7_kindIn
set_option maxRecDepth 20000 in
theorem ggX7_ask_X7_womanSize : GoodIn wsX7_ask wsX7_womanSize := goodIn_r _ [19, 8, 12, 13, 14, 6, 15, 20, 21, 22, 23, 2, 24, 37, 38, 39, 40, 41, 42, 43, 44, 45, 46, 47, 48, 49, 50, 51, 52, 53, 54, 55, 56, 57, 58, 59, 60, 61, 62, 63, 64] (by decide +kernel) (by decide +kernel)
set_option maxRecDepth 20000 in
theorem gX7_ask_X7_womanSize : GoodIn wsX7_ask (wsV RX7 242 RX7 yX7_womanSize wsX7_womanSize) := goodIn_app (goodIn_of _ (by decide +kernel)) ggX7_ask_X7_womanSize
set_option maxRecDepth 20000 in
theorem ggX7_ask_X7_manSize : GoodIn wsX7_ask wsX7_manSize := goodIn_r _ [28, 8, 12, 13, 14, 6, 15, 20, 21, 22, 23, 2, 24, 29, 30, 31, 32, 37, 38, 39, 40, 41, 42, 43, 44, 45, 46, 47, 48, 49, 50, 51, 52, 53, 54, 55, 56, 57, 58, 59, 60, 61, 62, 63, 64] (by decide +kernel) (by decide +kernel)
set_option maxRecDepth 20000 in
theorem gX7_ask_X7_manSize : GoodIn wsX7_ask (wsV RX7 245 RX7 yX7_manSize wsX7_manSize) := goodIn_app (goodIn_of _ (by decide +kernel)) ggX7_ask_X7_manSize
set_option maxRecDepth 20000 in
theorem ggX7_ask_X7_womanMark : GoodIn wsX7_ask wsX7_womanMark := goodIn_r _ [36, 20, 21, 22, 6, 23, 2, 24, 16, 17, 18, 19, 8, 12, 13, 14, 15, 37, 38, 39, 40, 41, 42, 43, 44, 45, 46, 47, 48, 49, 50, 51, 52, 53, 54, 55, 56, 57, 58, 59, 60, 61, 62, 63, 64] (by decide +kernel) (by decide +kernel)
set_option maxRecDepth 20000 in
theorem gX7_ask_X7_womanMark : GoodIn wsX7_ask (wsV RX7 248 RX7 yX7_womanMark wsX7_womanMark) := goodIn_app (goodIn_of _ (by decide +kernel)) ggX7_ask_X7_womanMark
set_option maxRecDepth 20000 in
theorem ggX7_ask_X7_manMark : GoodIn wsX7_ask wsX7_manMark := goodIn_r _ [32, 8, 12, 13, 14, 6, 15, 20, 21, 22, 23, 2, 24, 37, 38, 39, 40, 41, 42, 43, 44, 45, 46, 47, 48, 49, 50, 51, 52, 53, 54, 55, 56, 57, 58, 59, 60, 61, 62, 63, 64] (by decide +kernel) (by decide +kernel)
set_option maxRecDepth 20000 in
theorem gX7_ask_X7_manMark : GoodIn wsX7_ask (wsV RX7 239 RX7 yX7_manMark wsX7_manMark) := goodIn_app (goodIn_of _ (by decide +kernel)) ggX7_ask_X7_manMark
theorem dX7_ask_0 : decode cX7_ask 0 = .ok (.aload_n 0, 1) := by decide +kernel
theorem dX7_ask_1 : decode cX7_ask 1 = .ok (.iload_n 1, 1) := by decide +kernel
theorem dX7_ask_2 : decode cX7_ask 2 = .ok (.invokevirtual 177, 3) := by decide +kernel
theorem dX7_ask_5 : decode cX7_ask 5 = .ok (.ifCond .eq 12, 3) := by decide +kernel
theorem dX7_ask_8 : decode cX7_ask 8 = .ok (.iload_n 2, 1) := by decide +kernel
theorem dX7_ask_9 : decode cX7_ask 9 = .ok (.iconst 0, 1) := by decide +kernel
theorem dX7_ask_10 : decode cX7_ask 10 = .ok (.iconst 1, 1) := by decide +kernel
theorem dX7_ask_11 : decode cX7_ask 11 = .ok (.invokestatic 65, 3) := by decide +kernel
theorem dX7_ask_14 : decode cX7_ask 14 = .ok (.ifCond .ne 6, 3) := by decide +kernel
theorem dX7_ask_17 : decode cX7_ask 17 = .ok (.ldc 73, 2) := by decide +kernel
theorem dX7_ask_19 : decode cX7_ask 19 = .ok (.ireturn, 1) := by decide +kernel
theorem dX7_ask_20 : decode cX7_ask 20 = .ok (.aload_n 0, 1) := by decide +kernel
theorem dX7_ask_21 : decode cX7_ask 21 = .ok (.iconst 0, 1) := by decide +kernel
theorem dX7_ask_22 : decode cX7_ask 22 = .ok (.putfield 233, 3) := by decide +kernel
theorem dX7_ask_25 : decode cX7_ask 25 = .ok (.aload_n 0, 1) := by decide +kernel
theorem dX7_ask_26 : decode cX7_ask 26 = .ok (.iload_n 1, 1) := by decide +kernel
theorem dX7_ask_27 : decode cX7_ask 27 = .ok (.invokevirtual 230, 3) := by decide +kernel
theorem dX7_ask_30 : decode cX7_ask 30 = .ok (.iconst 4, 1) := by decide +kernel
theorem dX7_ask_31 : decode cX7_ask 31 = .ok (.if_icmp .lt 7, 3) := by decide +kernel
theorem dX7_ask_34 : decode cX7_ask 34 = .ok (.iconst 1, 1) := by decide +kernel
theorem dX7_ask_35 : decode cX7_ask 35 = .ok (.goto 4, 3) := by decide +kernel
theorem dX7_ask_38 : decode cX7_ask 38 = .ok (.iconst 0, 1) := by decide +kernel
theorem dX7_ask_39 : decode cX7_ask 39 = .ok (.istore_n 3, 1) := by decide +kernel
theorem dX7_ask_40 : decode cX7_ask 40 = .ok (.iload_n 2, 1) := by decide +kernel
theorem dX7_ask_41 : decode cX7_ask 41 = .ok (.ifCond .ne 21, 3) := by decide +kernel
theorem dX7_ask_44 : decode cX7_ask 44 = .ok (.iload_n 3, 1) := by decide +kernel
theorem dX7_ask_45 : decode cX7_ask 45 = .ok (.ifCond .eq 11, 3) := by decide +kernel
theorem dX7_ask_48 : decode cX7_ask 48 = .ok (.aload_n 0, 1) := by decide +kernel
theorem dX7_ask_49 : decode cX7_ask 49 = .ok (.iload_n 1, 1) := by decide +kernel
theorem dX7_ask_50 : decode cX7_ask 50 = .ok (.invokevirtual 242, 3) := by decide +kernel
theorem dX7_ask_53 : decode cX7_ask 53 = .ok (.goto 8, 3) := by decide +kernel
theorem dX7_ask_56 : decode cX7_ask 56 = .ok (.aload_n 0, 1) := by decide +kernel
theorem dX7_ask_57 : decode cX7_ask 57 = .ok (.iload_n 1, 1) := by decide +kernel
theorem dX7_ask_58 : decode cX7_ask 58 = .ok (.invokevirtual 245, 3) := by decide +kernel
theorem dX7_ask_61 : decode cX7_ask 61 = .ok (.ireturn, 1) := by decide +kernel
theorem dX7_ask_62 : decode cX7_ask 62 = .ok (.iload_n 3, 1) := by decide +kernel
theorem dX7_ask_63 : decode cX7_ask 63 = .ok (.ifCond .eq 11, 3) := by decide +kernel
theorem dX7_ask_66 : decode cX7_ask 66 = .ok (.aload_n 0, 1) := by decide +kernel
theorem dX7_ask_67 : decode cX7_ask 67 = .ok (.iload_n 1, 1) := by decide +kernel
theorem dX7_ask_68 : decode cX7_ask 68 = .ok (.invokevirtual 248, 3) := by decide +kernel
theorem dX7_ask_71 : decode cX7_ask 71 = .ok (.goto 8, 3) := by decide +kernel
theorem dX7_ask_74 : decode cX7_ask 74 = .ok (.aload_n 0, 1) := by decide +kernel
theorem dX7_ask_75 : decode cX7_ask 75 = .ok (.iload_n 1, 1) := by decide +kernel
theorem dX7_ask_76 : decode cX7_ask 76 = .ok (.invokevirtual 239, 3) := by decide +kernel
theorem dX7_ask_79 : decode cX7_ask 79 = .ok (.ireturn, 1) := by decide +kernel
set_option maxRecDepth 20000 in
theorem ggX7_trace_X7_in : GoodIn wsX7_trace wsX7_in := goodIn_r _ [7] (by decide +kernel) (by decide +kernel)
set_option maxRecDepth 20000 in
theorem gX7_trace_X7_in : GoodIn wsX7_trace (va_wsS RX7 65 yX7_in wsX7_in) := goodIn_app (goodIn_of _ (by decide +kernel)) ggX7_trace_X7_in
theorem dX7_trace_0 : decode cX7_trace 0 = .ok (.iload_n 1, 1) := by decide +kernel
theorem dX7_trace_1 : decode cX7_trace 1 = .ok (.iconst 0, 1) := by decide +kernel
theorem dX7_trace_2 : decode cX7_trace 2 = .ok (.aload_n 0, 1) := by decide +kernel
theorem dX7_trace_3 : decode cX7_trace 3 = .ok (.getfield 233, 3) := by decide +kernel
theorem dX7_trace_6 : decode cX7_trace 6 = .ok (.iconst 1, 1) := by decide +kernel
theorem dX7_trace_7 : decode cX7_trace 7 = .ok (.isub, 1) := by decide +kernel
theorem dX7_trace_8 : decode cX7_trace 8 = .ok (.invokestatic 65, 3) := by decide +kernel
theorem dX7_trace_11 : decode cX7_trace 11 = .ok (.ifCond .eq 12, 3) := by decide +kernel
theorem dX7_trace_14 : decode cX7_trace 14 = .ok (.aload_n 0, 1) := by decide +kernel
theorem dX7_trace_15 : decode cX7_trace 15 = .ok (.getfield 56, 3) := by decide +kernel
theorem dX7_trace_18 : decode cX7_trace 18 = .ok (.iload_n 1, 1) := by decide +kernel
theorem dX7_trace_19 : decode cX7_trace 19 = .ok (.iaload, 1) := by decide +kernel
theorem dX7_trace_20 : decode cX7_trace 20 = .ok (.goto 5, 3) := by decide +kernel
theorem dX7_trace_23 : decode cX7_trace 23 = .ok (.ldc 59, 2) := by decide +kernel
theorem dX7_trace_25 : decode cX7_trace 25 = .ok (.ireturn, 1) := by decide +kernel
set_option maxRecDepth 20000 in
theorem ggX7_count_X7_isMissing : GoodIn wsX7_count wsX7_isMissing := goodIn_r _ [9, 10, 11, 12, 13, 14, 15, 16, 17, 18, 19, 20, 21, 22, 23, 24, 25, 26, 27, 28, 29, 30, 31, 32, 33, 34, 35, 36, 37, 38, 39] (by decide +kernel) (by decide +kernel)
set_option maxRecDepth 20000 in
theorem gX7_count_X7_isMissing : GoodIn wsX7_count (wsV RX7 81 RX7 yX7_isMissing wsX7_isMissing) := goodIn_app (goodIn_of _ (by decide +kernel)) ggX7_count_X7_isMissing
theorem dX7_count_0 : decode cX7_count 0 = .ok (.iconst 0, 1) := by decide +kernel
theorem dX7_count_1 : decode cX7_count 1 = .ok (.istore_n 2, 1) := by decide +kernel
theorem dX7_count_2 : decode cX7_count 2 = .ok (.iload_n 1, 1) := by decide +kernel
theorem dX7_count_3 : decode cX7_count 3 = .ok (.tableswitch 145 0 9 #[53, 85, 92, 99, 106, 113, 120, 127, 135, 140], 53) := by decide +kernel
theorem dX7_count_56 : decode cX7_count 56 = .ok (.iconst 0, 1) := by decide +kernel
theorem dX7_count_57 : decode cX7_count 57 = .ok (.istore_n 3, 1) := by decide +kernel
theorem dX7_count_58 : decode cX7_count 58 = .ok (.iload_n 3, 1) := by decide +kernel
theorem dX7_count_59 : decode cX7_count 59 = .ok (.bipush 8, 2) := by decide +kernel
theorem dX7_count_61 : decode cX7_count 61 = .ok (.if_icmp .ge 25, 3) := by decide +kernel
theorem dX7_count_64 : decode cX7_count 64 = .ok (.iload_n 2, 1) := by decide +kernel
theorem dX7_count_65 : decode cX7_count 65 = .ok (.aload_n 0, 1) := by decide +kernel
theorem dX7_count_66 : decode cX7_count 66 = .ok (.iload_n 3, 1) := by decide +kernel
theorem dX7_count_67 : decode cX7_count 67 = .ok (.invokevirtual 81, 3) := by decide +kernel
theorem dX7_count_70 : decode cX7_count 70 = .ok (.ifCond .eq 7, 3) := by decide +kernel
theorem dX7_count_73 : decode cX7_count 73 = .ok (.iconst 0, 1) := by decide +kernel
theorem dX7_count_74 : decode cX7_count 74 = .ok (.goto 4, 3) := by decide +kernel
theorem dX7_count_77 : decode cX7_count 77 = .ok (.iconst 1, 1) := by decide +kernel
theorem dX7_count_78 : decode cX7_count 78 = .ok (.iadd, 1) := by decide +kernel
theorem dX7_count_79 : decode cX7_count 79 = .ok (.istore_n 2, 1) := by decide +kernel
theorem dX7_count_80 : decode cX7_count 80 = .ok (.iinc 3 1, 3) := by decide +kernel
theorem dX7_count_83 : decode cX7_count 83 = .ok (.goto (-25), 3) := by decide +kernel
theorem dX7_count_86 : decode cX7_count 86 = .ok (.iload_n 2, 1) := by decide +kernel
theorem dX7_count_87 : decode cX7_count 87 = .ok (.ireturn, 1) := by decide +kernel
theorem dX7_count_88 : decode cX7_count 88 = .ok (.aload_n 0, 1) := by decide +kernel
theorem dX7_count_89 : decode cX7_count 89 = .ok (.getfield 25, 3) := by decide +kernel
theorem dX7_count_92 : decode cX7_count 92 = .ok (.iconst 2, 1) := by decide +kernel
theorem dX7_count_93 : decode cX7_count 93 = .ok (.iaload, 1) := by decide +kernel
theorem dX7_count_94 : decode cX7_count 94 = .ok (.ireturn, 1) := by decide +kernel
theorem dX7_count_95 : decode cX7_count 95 = .ok (.aload_n 0, 1) := by decide +kernel
theorem dX7_count_96 : decode cX7_count 96 = .ok (.getfield 25, 3) := by decide +kernel
theorem dX7_count_99 : decode cX7_count 99 = .ok (.iconst 3, 1) := by decide +kernel
theorem dX7_count_100 : decode cX7_count 100 = .ok (.iaload, 1) := by decide +kernel
theorem dX7_count_101 : decode cX7_count 101 = .ok (.ireturn, 1) := by decide +kernel
theorem dX7_count_102 : decode cX7_count 102 = .ok (.aload_n 0, 1) := by decide +kernel
theorem dX7_count_103 : decode cX7_count 103 = .ok (.getfield 25, 3) := by decide +kernel
theorem dX7_count_106 : decode cX7_count 106 = .ok (.iconst 0, 1) := by decide +kernel
theorem dX7_count_107 : decode cX7_count 107 = .ok (.iaload, 1) := by decide +kernel
theorem dX7_count_108 : decode cX7_count 108 = .ok (.ireturn, 1) := by decide +kernel
theorem dX7_count_109 : decode cX7_count 109 = .ok (.aload_n 0, 1) := by decide +kernel
theorem dX7_count_110 : decode cX7_count 110 = .ok (.getfield 25, 3) := by decide +kernel
theorem dX7_count_113 : decode cX7_count 113 = .ok (.iconst 4, 1) := by decide +kernel
theorem dX7_count_114 : decode cX7_count 114 = .ok (.iaload, 1) := by decide +kernel
theorem dX7_count_115 : decode cX7_count 115 = .ok (.ireturn, 1) := by decide +kernel
theorem dX7_count_116 : decode cX7_count 116 = .ok (.aload_n 0, 1) := by decide +kernel
theorem dX7_count_117 : decode cX7_count 117 = .ok (.getfield 25, 3) := by decide +kernel
theorem dX7_count_120 : decode cX7_count 120 = .ok (.iconst 5, 1) := by decide +kernel
theorem dX7_count_121 : decode cX7_count 121 = .ok (.iaload, 1) := by decide +kernel
theorem dX7_count_122 : decode cX7_count 122 = .ok (.ireturn, 1) := by decide +kernel
theorem dX7_count_123 : decode cX7_count 123 = .ok (.aload_n 0, 1) := by decide +kernel
theorem dX7_count_124 : decode cX7_count 124 = .ok (.getfield 25, 3) := by decide +kernel
theorem dX7_count_127 : decode cX7_count 127 = .ok (.iconst 1, 1) := by decide +kernel
theorem dX7_count_128 : decode cX7_count 128 = .ok (.iaload, 1) := by decide +kernel
theorem dX7_count_129 : decode cX7_count 129 = .ok (.ireturn, 1) := by decide +kernel
theorem dX7_count_130 : decode cX7_count 130 = .ok (.aload_n 0, 1) := by decide +kernel
theorem dX7_count_131 : decode cX7_count 131 = .ok (.getfield 25, 3) := by decide +kernel
theorem dX7_count_134 : decode cX7_count 134 = .ok (.bipush 6, 2) := by decide +kernel
theorem dX7_count_136 : decode cX7_count 136 = .ok (.iaload, 1) := by decide +kernel
theorem dX7_count_137 : decode cX7_count 137 = .ok (.ireturn, 1) := by decide +kernel
theorem dX7_count_138 : decode cX7_count 138 = .ok (.aload_n 0, 1) := by decide +kernel
theorem dX7_count_139 : decode cX7_count 139 = .ok (.getfield 148, 3) := by decide +kernel
theorem dX7_count_142 : decode cX7_count 142 = .ok (.ireturn, 1) := by decide +kernel
theorem dX7_count_143 : decode cX7_count 143 = .ok (.aload_n 0, 1) := by decide +kernel
theorem dX7_count_144 : decode cX7_count 144 = .ok (.getfield 91, 3) := by decide +kernel
theorem dX7_count_147 : decode cX7_count 147 = .ok (.ireturn, 1) := by decide +kernel
theorem dX7_count_148 : decode cX7_count 148 = .ok (.ldc 73, 2) := by decide +kernel
theorem dX7_count_150 : decode cX7_count 150 = .ok (.ireturn, 1) := by decide +kernel
theorem dX7_status_0 : decode cX7_status 0 = .ok (.aload_n 0, 1) := by decide +kernel
theorem dX7_status_1 : decode cX7_status 1 = .ok (.getfield 60, 3) := by decide +kernel
theorem dX7_status_4 : decode cX7_status 4 = .ok (.ireturn, 1) := by decide +kernel
theorem dJ6_bitCount_0f7a4_0 : decode cJ6_bitCount_0f7a4 0 = .ok (.iload_n 0, 1) := by decide +kernel
theorem dJ6_bitCount_0f7a4_1 : decode cJ6_bitCount_0f7a4 1 = .ok (.iload_n 0, 1) := by decide +kernel
theorem dJ6_bitCount_0f7a4_2 : decode cJ6_bitCount_0f7a4 2 = .ok (.iconst 1, 1) := by decide +kernel
theorem dJ6_bitCount_0f7a4_3 : decode cJ6_bitCount_0f7a4 3 = .ok (.iushr, 1) := by decide +kernel
theorem dJ6_bitCount_0f7a4_4 : decode cJ6_bitCount_0f7a4 4 = .ok (.ldc_w 265, 3) := by decide +kernel
theorem dJ6_bitCount_0f7a4_7 : decode cJ6_bitCount_0f7a4 7 = .ok (.iand, 1) := by decide +kernel
theorem dJ6_bitCount_0f7a4_8 : decode cJ6_bitCount_0f7a4 8 = .ok (.isub, 1) := by decide +kernel
theorem dJ6_bitCount_0f7a4_9 : decode cJ6_bitCount_0f7a4 9 = .ok (.istore_n 0, 1) := by decide +kernel
theorem dJ6_bitCount_0f7a4_10 : decode cJ6_bitCount_0f7a4 10 = .ok (.iload_n 0, 1) := by decide +kernel
theorem dJ6_bitCount_0f7a4_11 : decode cJ6_bitCount_0f7a4 11 = .ok (.ldc_w 266, 3) := by decide +kernel
theorem dJ6_bitCount_0f7a4_14 : decode cJ6_bitCount_0f7a4 14 = .ok (.iand, 1) := by decide +kernel
theorem dJ6_bitCount_0f7a4_15 : decode cJ6_bitCount_0f7a4 15 = .ok (.iload_n 0, 1) := by decide +kernel
theorem dJ6_bitCount_0f7a4_16 : decode cJ6_bitCount_0f7a4 16 = .ok (.iconst 2, 1) := by decide +kernel
theorem dJ6_bitCount_0f7a4_17 : decode cJ6_bitCount_0f7a4 17 = .ok (.iushr, 1) := by decide +kernel
theorem dJ6_bitCount_0f7a4_18 : decode cJ6_bitCount_0f7a4 18 = .ok (.ldc_w 266, 3) := by decide +kernel
theorem dJ6_bitCount_0f7a4_21 : decode cJ6_bitCount_0f7a4 21 = .ok (.iand, 1) := by decide +kernel
theorem dJ6_bitCount_0f7a4_22 : decode cJ6_bitCount_0f7a4 22 = .ok (.iadd, 1) := by decide +kernel
theorem dJ6_bitCount_0f7a4_23 : decode cJ6_bitCount_0f7a4 23 = .ok (.istore_n 0, 1) := by decide +kernel
theorem dJ6_bitCount_0f7a4_24 : decode cJ6_bitCount_0f7a4 24 = .ok (.iload_n 0, 1) := by decide +kernel
theorem dJ6_bitCount_0f7a4_25 : decode cJ6_bitCount_0f7a4 25 = .ok (.iload_n 0, 1) := by decide +kernel
theorem dJ6_bitCount_0f7a4_26 : decode cJ6_bitCount_0f7a4 26 = .ok (.iconst 4, 1) := by decide +kernel
theorem dJ6_bitCount_0f7a4_27 : decode cJ6_bitCount_0f7a4 27 = .ok (.iushr, 1) := by decide +kernel
theorem dJ6_bitCount_0f7a4_28 : decode cJ6_bitCount_0f7a4 28 = .ok (.iadd, 1) := by decide +kernel
theorem dJ6_bitCount_0f7a4_29 : decode cJ6_bitCount_0f7a4 29 = .ok (.ldc_w 267, 3) := by decide +kernel
theorem dJ6_bitCount_0f7a4_32 : decode cJ6_bitCount_0f7a4 32 = .ok (.iand, 1) := by decide +kernel
theorem dJ6_bitCount_0f7a4_33 : decode cJ6_bitCount_0f7a4 33 = .ok (.istore_n 0, 1) := by decide +kernel
theorem dJ6_bitCount_0f7a4_34 : decode cJ6_bitCount_0f7a4 34 = .ok (.iload_n 0, 1) := by decide +kernel
theorem dJ6_bitCount_0f7a4_35 : decode cJ6_bitCount_0f7a4 35 = .ok (.iload_n 0, 1) := by decide +kernel
theorem dJ6_bitCount_0f7a4_36 : decode cJ6_bitCount_0f7a4 36 = .ok (.bipush 8, 2) := by decide +kernel
theorem dJ6_bitCount_0f7a4_38 : decode cJ6_bitCount_0f7a4 38 = .ok (.iushr, 1) := by decide +kernel
theorem dJ6_bitCount_0f7a4_39 : decode cJ6_bitCount_0f7a4 39 = .ok (.iadd, 1) := by decide +kernel
theorem dJ6_bitCount_0f7a4_40 : decode cJ6_bitCount_0f7a4 40 = .ok (.istore_n 0, 1) := by decide +kernel
theorem dJ6_bitCount_0f7a4_41 : decode cJ6_bitCount_0f7a4 41 = .ok (.iload_n 0, 1) := by decide +kernel
theorem dJ6_bitCount_0f7a4_42 : decode cJ6_bitCount_0f7a4 42 = .ok (.iload_n 0, 1) := by decide +kernel
theorem dJ6_bitCount_0f7a4_43 : decode cJ6_bitCount_0f7a4 43 = .ok (.bipush 16, 2) := by decide +kernel
theorem dJ6_bitCount_0f7a4_45 : decode cJ6_bitCount_0f7a4 45 = .ok (.iushr, 1) := by decide +kernel
theorem dJ6_bitCount_0f7a4_46 : decode cJ6_bitCount_0f7a4 46 = .ok (.iadd, 1) := by decide +kernel
theorem dJ6_bitCount_0f7a4_47 : decode cJ6_bitCount_0f7a4 47 = .ok (.istore_n 0, 1) := by decide +kernel
theorem dJ6_bitCount_0f7a4_48 : decode cJ6_bitCount_0f7a4 48 = .ok (.iload_n 0, 1) := by decide +kernel
theorem dJ6_bitCount_0f7a4_49 : decode cJ6_bitCount_0f7a4 49 = .ok (.bipush 63, 2) := by decide +kernel
theorem dJ6_bitCount_0f7a4_51 : decode cJ6_bitCount_0f7a4 51 = .ok (.iand, 1) := by decide +kernel
theorem dJ6_bitCount_0f7a4_52 : decode cJ6_bitCount_0f7a4 52 = .ok (.ireturn, 1) := by decide +kernel
theorem dJ13_bitCount_95d88_0 : decode cJ13_bitCount_95d88 0 = .ok (.lload_n 0, 1) := by decide +kernel
theorem dJ13_bitCount_95d88_1 : decode cJ13_bitCount_95d88 1 = .ok (.lload_n 0, 1) := by decide +kernel
theorem dJ13_bitCount_95d88_2 : decode cJ13_bitCount_95d88 2 = .ok (.iconst 1, 1) := by decide +kernel
theorem dJ13_bitCount_95d88_3 : decode cJ13_bitCount_95d88 3 = .ok (.lushr, 1) := by decide +kernel
theorem dJ13_bitCount_95d88_4 : decode cJ13_bitCount_95d88 4 = .ok (.ldc2_w 314, 3) := by decide +kernel
theorem dJ13_bitCount_95d88_7 : decode cJ13_bitCount_95d88 7 = .ok (.land, 1) := by decide +kernel
theorem dJ13_bitCount_95d88_8 : decode cJ13_bitCount_95d88 8 = .ok (.lsub, 1) := by decide +kernel
theorem dJ13_bitCount_95d88_9 : decode cJ13_bitCount_95d88 9 = .ok (.lstore_n 0, 1) := by decide +kernel
theorem dJ13_bitCount_95d88_10 : decode cJ13_bitCount_95d88 10 = .ok (.lload_n 0, 1) := by decide +kernel
theorem dJ13_bitCount_95d88_11 : decode cJ13_bitCount_95d88 11 = .ok (.ldc2_w 316, 3) := by decide +kernel
theorem dJ13_bitCount_95d88_14 : decode cJ13_bitCount_95d88 14 = .ok (.land, 1) := by decide +kernel
theorem dJ13_bitCount_95d88_15 : decode cJ13_bitCount_95d88 15 = .ok (.lload_n 0, 1) := by decide +kernel
theorem dJ13_bitCount_95d88_16 : decode cJ13_bitCount_95d88 16 = .ok (.iconst 2, 1) := by decide +kernel
theorem dJ13_bitCount_95d88_17 : decode cJ13_bitCount_95d88 17 = .ok (.lushr, 1) := by decide +kernel
theorem dJ13_bitCount_95d88_18 : decode cJ13_bitCount_95d88 18 = .ok (.ldc2_w 316, 3) := by decide +kernel
theorem dJ13_bitCount_95d88_21 : decode cJ13_bitCount_95d88 21 = .ok (.land, 1) := by decide +kernel
theorem dJ13_bitCount_95d88_22 : decode cJ13_bitCount_95d88 22 = .ok (.ladd, 1) := by decide +kernel
theorem dJ13_bitCount_95d88_23 : decode cJ13_bitCount_95d88 23 = .ok (.lstore_n 0, 1) := by decide +kernel
theorem dJ13_bitCount_95d88_24 : decode cJ13_bitCount_95d88 24 = .ok (.lload_n 0, 1) := by decide +kernel
theorem dJ13_bitCount_95d88_25 : decode cJ13_bitCount_95d88 25 = .ok (.lload_n 0, 1) := by decide +kernel
theorem dJ13_bitCount_95d88_26 : decode cJ13_bitCount_95d88 26 = .ok (.iconst 4, 1) := by decide +kernel
theorem dJ13_bitCount_95d88_27 : decode cJ13_bitCount_95d88 27 = .ok (.lushr, 1) := by decide +kernel
theorem dJ13_bitCount_95d88_28 : decode cJ13_bitCount_95d88 28 = .ok (.ladd, 1) := by decide +kernel
theorem dJ13_bitCount_95d88_29 : decode cJ13_bitCount_95d88 29 = .ok (.ldc2_w 318, 3) := by decide +kernel
theorem dJ13_bitCount_95d88_32 : decode cJ13_bitCount_95d88 32 = .ok (.land, 1) := by decide +kernel
theorem dJ13_bitCount_95d88_33 : decode cJ13_bitCount_95d88 33 = .ok (.lstore_n 0, 1) := by decide +kernel
theorem dJ13_bitCount_95d88_34 : decode cJ13_bitCount_95d88 34 = .ok (.lload_n 0, 1) := by decide +kernel
theorem dJ13_bitCount_95d88_35 : decode cJ13_bitCount_95d88 35 = .ok (.lload_n 0, 1) := by decide +kernel
theorem dJ13_bitCount_95d88_36 : decode cJ13_bitCount_95d88 36 = .ok (.bipush 8, 2) := by decide +kernel
theorem dJ13_bitCount_95d88_38 : decode cJ13_bitCount_95d88 38 = .ok (.lushr, 1) := by decide +kernel
theorem dJ13_bitCount_95d88_39 : decode cJ13_bitCount_95d88 39 = .ok (.ladd, 1) := by decide +kernel
theorem dJ13_bitCount_95d88_40 : decode cJ13_bitCount_95d88 40 = .ok (.lstore_n 0, 1) := by decide +kernel
theorem dJ13_bitCount_95d88_41 : decode cJ13_bitCount_95d88 41 = .ok (.lload_n 0, 1) := by decide +kernel
theorem dJ13_bitCount_95d88_42 : decode cJ13_bitCount_95d88 42 = .ok (.lload_n 0, 1) := by decide +kernel
theorem dJ13_bitCount_95d88_43 : decode cJ13_bitCount_95d88 43 = .ok (.bipush 16, 2) := by decide +kernel
theorem dJ13_bitCount_95d88_45 : decode cJ13_bitCount_95d88 45 = .ok (.lushr, 1) := by decide +kernel
theorem dJ13_bitCount_95d88_46 : decode cJ13_bitCount_95d88 46 = .ok (.ladd, 1) := by decide +kernel
theorem dJ13_bitCount_95d88_47 : decode cJ13_bitCount_95d88 47 = .ok (.lstore_n 0, 1) := by decide +kernel
theorem dJ13_bitCount_95d88_48 : decode cJ13_bitCount_95d88 48 = .ok (.lload_n 0, 1) := by decide +kernel
theorem dJ13_bitCount_95d88_49 : decode cJ13_bitCount_95d88 49 = .ok (.lload_n 0, 1) := by decide +kernel
theorem dJ13_bitCount_95d88_50 : decode cJ13_bitCount_95d88 50 = .ok (.bipush 32, 2) := by decide +kernel
theorem dJ13_bitCount_95d88_52 : decode cJ13_bitCount_95d88 52 = .ok (.lushr, 1) := by decide +kernel
theorem dJ13_bitCount_95d88_53 : decode cJ13_bitCount_95d88 53 = .ok (.ladd, 1) := by decide +kernel
theorem dJ13_bitCount_95d88_54 : decode cJ13_bitCount_95d88 54 = .ok (.lstore_n 0, 1) := by decide +kernel
theorem dJ13_bitCount_95d88_55 : decode cJ13_bitCount_95d88 55 = .ok (.lload_n 0, 1) := by decide +kernel
theorem dJ13_bitCount_95d88_56 : decode cJ13_bitCount_95d88 56 = .ok (.l2i, 1) := by decide +kernel
theorem dJ13_bitCount_95d88_57 : decode cJ13_bitCount_95d88 57 = .ok (.bipush 127, 2) := by decide +kernel
theorem dJ13_bitCount_95d88_59 : decode cJ13_bitCount_95d88 59 = .ok (.iand, 1) := by decide +kernel
theorem dJ13_bitCount_95d88_60 : decode cJ13_bitCount_95d88 60 = .ok (.ireturn, 1) := by decide +kernel
theorem dJ9_max_7cf53_0 : decode cJ9_max_7cf53 0 = .ok (.iload_n 0, 1) := by decide +kernel
theorem dJ9_max_7cf53_1 : decode cJ9_max_7cf53 1 = .ok (.iload_n 1, 1) := by decide +kernel
theorem dJ9_max_7cf53_2 : decode cJ9_max_7cf53 2 = .ok (.if_icmp .lt 7, 3) := by decide +kernel
theorem dJ9_max_7cf53_5 : decode cJ9_max_7cf53 5 = .ok (.iload_n 0, 1) := by decide +kernel
theorem dJ9_max_7cf53_6 : decode cJ9_max_7cf53 6 = .ok (.goto 4, 3) := by decide +kernel
theorem dJ9_max_7cf53_9 : decode cJ9_max_7cf53 9 = .ok (.iload_n 1, 1) := by decide +kernel
theorem dJ9_max_7cf53_10 : decode cJ9_max_7cf53 10 = .ok (.ireturn, 1) := by decide +kernel
theorem dJ9_min_7cf53_0 : decode cJ9_min_7cf53 0 = .ok (.iload_n 0, 1) := by decide +kernel
theorem dJ9_min_7cf53_1 : decode cJ9_min_7cf53 1 = .ok (.iload_n 1, 1) := by decide +kernel
theorem dJ9_min_7cf53_2 : decode cJ9_min_7cf53 2 = .ok (.if_icmp .gt 7, 3) := by decide +kernel
theorem dJ9_min_7cf53_5 : decode cJ9_min_7cf53 5 = .ok (.iload_n 0, 1) := by decide +kernel
theorem dJ9_min_7cf53_6 : decode cJ9_min_7cf53 6 = .ok (.goto 4, 3) := by decide +kernel
theorem dJ9_min_7cf53_9 : decode cJ9_min_7cf53 9 = .ok (.iload_n 1, 1) := by decide +kernel
theorem dJ9_min_7cf53_10 : decode cJ9_min_7cf53 10 = .ok (.ireturn, 1) := by decide +kernel
theorem dJ7_fill_d0a16_0 : decode cJ7_fill_d0a16 0 = .ok (.iconst 0, 1) := by decide +kernel
theorem dJ7_fill_d0a16_1 : decode cJ7_fill_d0a16 1 = .ok (.istore_n 3, 1) := by decide +kernel
theorem dJ7_fill_d0a16_2 : decode cJ7_fill_d0a16 2 = .ok (.aload_n 0, 1) := by decide +kernel
theorem dJ7_fill_d0a16_3 : decode cJ7_fill_d0a16 3 = .ok (.arraylength, 1) := by decide +kernel
theorem dJ7_fill_d0a16_4 : decode cJ7_fill_d0a16 4 = .ok (.istore 4, 2) := by decide +kernel
theorem dJ7_fill_d0a16_6 : decode cJ7_fill_d0a16 6 = .ok (.iload_n 3, 1) := by decide +kernel
theorem dJ7_fill_d0a16_7 : decode cJ7_fill_d0a16 7 = .ok (.iload 4, 2) := by decide +kernel
theorem dJ7_fill_d0a16_9 : decode cJ7_fill_d0a16 9 = .ok (.if_icmp .ge 13, 3) := by decide +kernel
theorem dJ7_fill_d0a16_12 : decode cJ7_fill_d0a16 12 = .ok (.aload_n 0, 1) := by decide +kernel
theorem dJ7_fill_d0a16_13 : decode cJ7_fill_d0a16 13 = .ok (.iload_n 3, 1) := by decide +kernel
theorem dJ7_fill_d0a16_14 : decode cJ7_fill_d0a16 14 = .ok (.lload_n 1, 1) := by decide +kernel
theorem dJ7_fill_d0a16_15 : decode cJ7_fill_d0a16 15 = .ok (.lastore, 1) := by decide +kernel
theorem dJ7_fill_d0a16_16 : decode cJ7_fill_d0a16 16 = .ok (.iinc 3 1, 3) := by decide +kernel
theorem dJ7_fill_d0a16_19 : decode cJ7_fill_d0a16 19 = .ok (.goto (-13), 3) := by decide +kernel
theorem dJ7_fill_d0a16_22 : decode cJ7_fill_d0a16 22 = .ok (.return_, 1) := by decide +kernel
theorem dJ7_fill_53178_0 : decode cJ7_fill_53178 0 = .ok (.iconst 0, 1) := by decide +kernel
theorem dJ7_fill_53178_1 : decode cJ7_fill_53178 1 = .ok (.istore_n 2, 1) := by decide +kernel
theorem dJ7_fill_53178_2 : decode cJ7_fill_53178 2 = .ok (.aload_n 0, 1) := by decide +kernel
theorem dJ7_fill_53178_3 : decode cJ7_fill_53178 3 = .ok (.arraylength, 1) := by decide +kernel
theorem dJ7_fill_53178_4 : decode cJ7_fill_53178 4 = .ok (.istore_n 3, 1) := by decide +kernel
theorem dJ7_fill_53178_5 : decode cJ7_fill_53178 5 = .ok (.iload_n 2, 1) := by decide +kernel
theorem dJ7_fill_53178_6 : decode cJ7_fill_53178 6 = .ok (.iload_n 3, 1) := by decide +kernel
theorem dJ7_fill_53178_7 : decode cJ7_fill_53178 7 = .ok (.if_icmp .ge 13, 3) := by decide +kernel
theorem dJ7_fill_53178_10 : decode cJ7_fill_53178 10 = .ok (.aload_n 0, 1) := by decide +kernel
theorem dJ7_fill_53178_11 : decode cJ7_fill_53178 11 = .ok (.iload_n 2, 1) := by decide +kernel
theorem dJ7_fill_53178_12 : decode cJ7_fill_53178 12 = .ok (.iload_n 1, 1) := by decide +kernel
theorem dJ7_fill_53178_13 : decode cJ7_fill_53178 13 = .ok (.iastore, 1) := by decide +kernel
theorem dJ7_fill_53178_14 : decode cJ7_fill_53178 14 = .ok (.iinc 2 1, 3) := by decide +kernel
theorem dJ7_fill_53178_17 : decode cJ7_fill_53178 17 = .ok (.goto (-12), 3) := by decide +kernel
theorem dJ7_fill_53178_20 : decode cJ7_fill_53178 20 = .ok (.return_, 1) := by decide +kernel
set_option maxRecDepth 20000 in
theorem ggL_law_X6_init : GoodIn wsL_law wsX6_init := goodIn_r _ [8, 9, 10, 11, 12, 13, 14, 15, 16, 17, 18, 19, 20, 21, 22, 23, 24, 25, 26, 27, 28, 29, 30, 31, 32, 33, 34, 35, 36, 37, 38, 39, 40, 41, 42, 43, 44, 45, 46, 47, 48, 49, 50, 51, 52, 53, 54, 55, 56, 57, 58, 59, 60, 61, 62, 63, 64, 65, 66, 67, 68, 69, 70, 71, 72, 73, 74, 75, 893, 894, 895, 896, 855, 856, 857, 858, 859, 860, 861, 862, 863, 864, 897, 898, 899, 900, 901, 902, 903, 904, 905, 906, 907, 908, 909, 910, 911, 912, 913, 914, 915, 916, 917, 918, 919, 920] (by decide +kernel) (by decide +kernel)
set_option maxRecDepth 20000 in
theorem gL_law_X6_init : GoodIn wsL_law (wsX6_init) := ggL_law_X6_init
set_option maxRecDepth 20000 in
theorem ggL_law_X7_init : GoodIn wsL_law wsX7_init := goodIn_r _ [78, 79, 10, 11, 44, 80, 81, 82, 83, 84, 85, 86, 87, 88, 89, 42, 90, 91, 92, 93, 94, 95, 96, 865, 866, 867, 868, 869, 870, 871, 872, 873, 874, 875, 876, 877, 878, 879, 880, 881, 882, 883, 884, 885, 886, 887, 888, 889, 890, 891, 892] (by decide +kernel) (by decide +kernel)
set_option maxRecDepth 20000 in
theorem gL_law_X7_init : GoodIn wsL_law (wsX7_init) := ggL_law_X7_init
set_option maxRecDepth 20000 in
theorem ggL_law_X6_row : GoodIn wsL_law wsX6_row := goodIn_r _ [100, 101, 15, 102, 103, 2, 104, 105, 106, 107, 108, 109, 110, 111, 112, 113, 14, 114, 43, 45, 46, 48, 115, 116, 117, 118, 119, 120, 121, 122, 855, 856, 857, 858, 859, 860, 861, 862, 863, 864, 893, 894, 895, 896] (by decide +kernel) (by decide +kernel)
set_option maxRecDepth 20000 in
theorem gL_law_X6_row : GoodIn wsL_law (wsV RL 13 RX6 yX6_row wsX6_row) := goodIn_app (goodIn_of _ (by decide +kernel)) ggL_law_X6_row
set_option maxRecDepth 20000 in
theorem ggL_law_X7_row : GoodIn wsL_law wsX7_row := goodIn_r _ [126, 127, 80, 81, 82, 128, 129, 5, 130, 131, 132, 133, 134, 135, 136, 137, 138, 139, 140, 141, 142, 143, 865, 866, 867, 868, 869, 870, 871, 872, 873, 874, 875, 876, 877, 878, 879, 880, 881, 882, 883, 884, 885, 886, 887, 888, 889, 890, 891, 892] (by decide +kernel) (by decide +kernel)
set_option maxRecDepth 20000 in
theorem gL_law_X7_row : GoodIn wsL_law (wsV RL 17 RX7 yX7_row wsX7_row) := goodIn_app (goodIn_of _ (by decide +kernel)) ggL_law_X7_row
set_option maxRecDepth 20000 in
theorem ggL_law_X6_set : GoodIn wsL_law wsX6_set := goodIn_r _ [147, 101, 15, 148, 149, 102, 103, 2, 104, 105, 106, 107, 108, 109, 110, 150, 151, 152, 14, 153, 46, 154, 155, 156, 157, 45, 119, 120, 121, 122, 855, 856, 857, 858, 859, 860, 861, 862, 863, 864, 893, 894, 895, 896] (by decide +kernel) (by decide +kernel)
set_option maxRecDepth 20000 in
theorem gL_law_X6_set : GoodIn wsL_law (wsV RL 18 RX6 yX6_set wsX6_set) := goodIn_app (goodIn_of _ (by decide +kernel)) ggL_law_X6_set
set_option maxRecDepth 20000 in
theorem ggL_law_X7_set : GoodIn wsL_law wsX7_set := goodIn_r _ [161, 127, 81, 82, 80, 128, 129, 5, 130, 131, 132, 133, 162, 163, 164, 165, 96, 134, 135, 136, 137, 138, 139, 166, 167, 168, 140, 141, 142, 143, 865, 866, 867, 868, 869, 870, 871, 872, 873, 874, 875, 876, 877, 878, 879, 880, 881, 882, 883, 884, 885, 886, 887, 888, 889, 890, 891, 892] (by decide +kernel) (by decide +kernel)
set_option maxRecDepth 20000 in
theorem gL_law_X7_set : GoodIn wsL_law (wsV RL 21 RX7 yX7_set wsX7_set) := goodIn_app (goodIn_of _ (by decide +kernel)) ggL_law_X7_set
set_option maxRecDepth 20000 in
theorem ggL_law_X6_copy : GoodIn wsL_law wsX6_copy := goodIn_r _ [172, 101, 15, 148, 173, 149, 174, 175, 176, 177, 102, 103, 2, 104, 105, 106, 107, 108, 109, 110, 150, 151, 152, 14, 153, 46, 119, 120, 121, 122, 855, 856, 857, 858, 859, 860, 861, 862, 863, 864, 893, 894, 895, 896] (by decide +kernel) (by decide +kernel)
set_option maxRecDepth 20000 in
theorem gL_law_X6_copy : GoodIn wsL_law (wsV RL 22 RX6 yX6_copy wsX6_copy) := goodIn_app (goodIn_of _ (by decide +kernel)) ggL_law_X6_copy
set_option maxRecDepth 20000 in
theorem ggL_law_X7_copy : GoodIn wsL_law wsX7_copy := goodIn_r _ [181, 127, 80, 83, 82, 128, 129, 5, 130, 131, 132, 133, 162, 163, 164, 165, 96, 134, 135, 136, 137, 138, 139, 182, 183, 184, 185, 81, 140, 141, 142, 143, 865, 866, 867, 868, 869, 870, 871, 872, 873, 874, 875, 876, 877, 878, 879, 880, 881, 882, 883, 884, 885, 886, 887, 888, 889, 890, 891, 892] (by decide +kernel) (by decide +kernel)
set_option maxRecDepth 20000 in
theorem gL_law_X7_copy : GoodIn wsL_law (wsV RL 26 RX7 yX7_copy wsX7_copy) := goodIn_app (goodIn_of _ (by decide +kernel)) ggL_law_X7_copy
set_option maxRecDepth 20000 in
theorem ggL_law_X6_drop : GoodIn wsL_law wsX6_drop := goodIn_r _ [189, 101, 15, 148, 190, 102, 103, 2, 104, 105, 106, 107, 108, 109, 110, 119, 120, 121, 122, 855, 856, 857, 858, 859, 860, 861, 862, 863, 864, 893, 894, 895, 896] (by decide +kernel) (by decide +kernel)
set_option maxRecDepth 20000 in
theorem gL_law_X6_drop : GoodIn wsL_law (wsV RL 27 RX6 yX6_drop wsX6_drop) := goodIn_app (goodIn_of _ (by decide +kernel)) ggL_law_X6_drop
set_option maxRecDepth 20000 in
theorem ggL_law_X7_drop : GoodIn wsL_law wsX7_drop := goodIn_r _ [194, 127, 80, 96, 81, 128, 129, 5, 130, 131, 132, 133, 162, 163, 164, 165, 134, 135, 136, 137, 138, 139, 140, 141, 142, 143, 865, 866, 867, 868, 869, 870, 871, 872, 873, 874, 875, 876, 877, 878, 879, 880, 881, 882, 883, 884, 885, 886, 887, 888, 889, 890, 891, 892] (by decide +kernel) (by decide +kernel)
set_option maxRecDepth 20000 in
theorem gL_law_X7_drop : GoodIn wsL_law (wsV RL 31 RX7 yX7_drop wsX7_drop) := goodIn_app (goodIn_of _ (by decide +kernel)) ggL_law_X7_drop
set_option maxRecDepth 20000 in
theorem ggL_law_X6_feed : GoodIn wsL_law wsX6_feed := goodIn_r _ [198, 101, 19, 199, 200, 102, 103, 2, 104, 201, 202, 203, 18, 204, 205, 52, 855, 856, 857, 858, 859, 860, 861, 862, 863, 864, 897, 898, 899, 900] (by decide +kernel) (by decide +kernel)
set_option maxRecDepth 20000 in
theorem gL_law_X6_feed : GoodIn wsL_law (wsV RL 32 RX6 yX6_feed wsX6_feed) := goodIn_app (goodIn_of _ (by decide +kernel)) ggL_law_X6_feed
set_option maxRecDepth 20000 in
theorem ggL_law_X7_feed : GoodIn wsL_law wsX7_feed := goodIn_r _ [209, 127, 210, 211, 84, 131, 132, 5, 133, 865, 866, 867, 868, 869, 870, 871, 872, 873, 874, 875, 876, 877, 878, 879, 880, 881, 882, 883, 884, 885, 886, 887, 888, 889, 890, 891, 892] (by decide +kernel) (by decide +kernel)
set_option maxRecDepth 20000 in
theorem gL_law_X7_feed : GoodIn wsL_law (wsV RL 35 RX7 yX7_feed wsX7_feed) := goodIn_app (goodIn_of _ (by decide +kernel)) ggL_law_X7_feed
set_option maxRecDepth 20000 in
theorem ggL_law_X6_coast : GoodIn wsL_law wsX6_coast := goodIn_r _ [215, 19, 24, 199, 216, 217, 23, 30, 218, 219, 220, 221, 18, 222, 223, 205, 224, 225, 226, 227, 228, 229, 230, 231, 232, 233, 234, 235, 236, 52, 237, 238, 239, 240, 241, 242, 243, 244, 245, 246, 247, 248, 249, 250, 251, 22, 252, 253, 254, 255, 256, 257, 258, 259, 260, 261, 262, 263, 264, 265, 266, 267, 268, 269, 270, 271, 56, 57, 58, 272, 273, 274, 275, 276, 175, 176, 177, 277, 278, 279, 29, 280, 281, 855, 856, 857, 858, 859, 860, 861, 862, 863, 864, 897, 898, 899, 900, 901, 902, 903, 904, 905, 906, 907, 908, 909, 910, 911, 912, 913] (by decide +kernel) (by decide +kernel)
set_option maxRecDepth 20000 in
theorem gL_law_X6_coast : GoodIn wsL_law (wsV RL 36 RX6 yX6_coast wsX6_coast) := goodIn_app (goodIn_of _ (by decide +kernel)) ggL_law_X6_coast
set_option maxRecDepth 20000 in
theorem ggL_law_X7_coast : GoodIn wsL_law wsX7_coast := goodIn_r _ [285, 86, 286, 287, 288, 289, 210, 290, 85, 291, 292, 293, 294, 5, 295, 296, 297, 298, 299, 300, 84, 131, 132, 133, 301, 302, 303, 304, 305, 306, 307, 308, 309, 310, 311, 312, 313, 314, 315, 316, 317, 318, 319, 320, 321, 322, 323, 324, 325, 326, 327, 328, 329, 330, 331, 865, 866, 867, 868, 869, 870, 871, 872, 873, 874, 875, 876, 877, 878, 879, 880, 881, 882, 883, 884, 885, 886, 887, 888, 889, 890, 891, 892] (by decide +kernel) (by decide +kernel)
set_option maxRecDepth 20000 in
theorem gL_law_X7_coast : GoodIn wsL_law (wsV RL 40 RX7 yX7_coast wsX7_coast) := goodIn_app (goodIn_of _ (by decide +kernel)) ggL_law_X7_coast
set_option maxRecDepth 20000 in
theorem ggL_law_X6_fault : GoodIn wsL_law wsX6_fault := goodIn_r _ [335, 19, 336, 855, 856, 857, 858, 859, 860, 861, 862, 863, 864, 897, 898, 899, 900] (by decide +kernel) (by decide +kernel)
set_option maxRecDepth 20000 in
theorem gL_law_X6_fault : GoodIn wsL_law (wsV RL 41 RX6 yX6_fault wsX6_fault) := goodIn_app (goodIn_of _ (by decide +kernel)) ggL_law_X6_fault
set_option maxRecDepth 20000 in
theorem ggL_law_X7_fault : GoodIn wsL_law wsX7_fault := goodIn_r _ [340, 305, 865, 866, 867, 868, 869, 870, 871, 872, 873, 874, 875, 876, 877, 878, 879, 880, 881, 882, 883, 884, 885, 886, 887, 888, 889, 890, 891, 892] (by decide +kernel) (by decide +kernel)
set_option maxRecDepth 20000 in
theorem gL_law_X7_fault : GoodIn wsL_law (wsV RL 44 RX7 yX7_fault wsX7_fault) := goodIn_app (goodIn_of _ (by decide +kernel)) ggL_law_X7_fault
set_option maxRecDepth 20000 in
theorem ggL_law_X6_hours : GoodIn wsL_law wsX6_hours := goodIn_r _ [344, 23, 218, 345, 101, 346, 200, 30, 347, 102, 103, 2, 104, 348, 349, 350, 29, 351, 64, 352, 281, 353, 354, 355, 356, 357, 273, 274, 22, 275, 56, 276, 175, 176, 177, 57, 58, 253, 254, 255, 256, 257, 258, 259, 358, 359, 360, 361, 362, 363, 364, 365, 366, 855, 856, 857, 858, 859, 860, 861, 862, 863, 864, 901, 902, 903, 904, 905, 906, 907, 908, 909, 910, 911, 912, 913] (by decide +kernel) (by decide +kernel)
set_option maxRecDepth 20000 in
theorem gL_law_X6_hours : GoodIn wsL_law (wsV RL 45 RX6 yX6_hours wsX6_hours) := goodIn_app (goodIn_of _ (by decide +kernel)) ggL_law_X6_hours
set_option maxRecDepth 20000 in
theorem ggL_law_X7_hours : GoodIn wsL_law wsX7_hours := goodIn_r _ [370, 371, 127, 85, 211, 372, 373, 374, 5, 375, 131, 132, 133, 376, 377, 378, 379, 291, 88, 329, 330, 331, 380, 381, 382, 383, 384, 385, 386, 865, 866, 867, 868, 869, 870, 871, 872, 873, 874, 875, 876, 877, 878, 879, 880, 881, 882, 883, 884, 885, 886, 887, 888, 889, 890, 891, 892] (by decide +kernel) (by decide +kernel)
set_option maxRecDepth 20000 in
theorem gL_law_X7_hours : GoodIn wsL_law (wsV RL 48 RX7 yX7_hours wsX7_hours) := goodIn_app (goodIn_of _ (by decide +kernel)) ggL_law_X7_hours
set_option maxRecDepth 20000 in
theorem ggL_law_X6_confess : GoodIn wsL_law wsX6_confess := goodIn_r _ [390, 101, 30, 23, 347, 391, 392, 393, 2, 394, 218, 102, 103, 104, 348, 349, 350, 29, 351, 64, 352, 281, 353, 354, 355, 356, 357, 273, 274, 22, 275, 56, 276, 175, 176, 177, 57, 58, 253, 254, 255, 256, 257, 258, 259, 395, 396, 397, 398, 399, 400, 401, 402, 403, 404, 405, 406, 364, 365, 366, 362, 407, 408, 409, 410, 855, 856, 857, 858, 859, 860, 861, 862, 863, 864, 901, 902, 903, 904, 905, 906, 907, 908, 909, 910, 911, 912, 913] (by decide +kernel) (by decide +kernel)
set_option maxRecDepth 20000 in
theorem gL_law_X6_confess : GoodIn wsL_law (wsV RL 49 RX6 yX6_confess wsX6_confess) := goodIn_app (goodIn_of _ (by decide +kernel)) ggL_law_X6_confess
set_option maxRecDepth 20000 in
theorem ggL_law_X7_confess : GoodIn wsL_law wsX7_confess := goodIn_r _ [414, 127, 85, 415, 416, 417, 5, 418, 131, 132, 133, 376, 377, 378, 379, 291, 88, 329, 330, 331, 419, 420, 421, 422, 423, 424, 425, 426, 427, 384, 385, 386, 428, 429, 430, 865, 866, 867, 868, 869, 870, 871, 872, 873, 874, 875, 876, 877, 878, 879, 880, 881, 882, 883, 884, 885, 886, 887, 888, 889, 890, 891, 892] (by decide +kernel) (by decide +kernel)
set_option maxRecDepth 20000 in
theorem gL_law_X7_confess : GoodIn wsL_law (wsV RL 52 RX7 yX7_confess wsX7_confess) := goodIn_app (goodIn_of _ (by decide +kernel)) ggL_law_X7_confess
set_option maxRecDepth 20000 in
theorem ggL_law_X6_mend : GoodIn wsL_law wsX6_mend := goodIn_r _ [434, 101, 30, 23, 435, 436, 354, 355, 356, 391, 392, 393, 2, 394, 218, 102, 103, 104, 348, 349, 350, 29, 351, 64, 352, 281, 353, 357, 273, 274, 22, 275, 56, 276, 175, 176, 177, 57, 58, 253, 254, 255, 256, 257, 258, 259, 855, 856, 857, 858, 859, 860, 861, 862, 863, 864, 901, 902, 903, 904, 905, 906, 907, 908, 909, 910, 911, 912, 913] (by decide +kernel) (by decide +kernel)
set_option maxRecDepth 20000 in
theorem gL_law_X6_mend : GoodIn wsL_law (wsV RL 53 RX6 yX6_mend wsX6_mend) := goodIn_app (goodIn_of _ (by decide +kernel)) ggL_law_X6_mend
set_option maxRecDepth 20000 in
theorem ggL_law_X7_mend : GoodIn wsL_law wsX7_mend := goodIn_r _ [440, 127, 85, 415, 416, 417, 5, 418, 131, 132, 133, 376, 377, 378, 379, 291, 88, 329, 330, 331, 384, 385, 386, 865, 866, 867, 868, 869, 870, 871, 872, 873, 874, 875, 876, 877, 878, 879, 880, 881, 882, 883, 884, 885, 886, 887, 888, 889, 890, 891, 892] (by decide +kernel) (by decide +kernel)
set_option maxRecDepth 20000 in
theorem gL_law_X7_mend : GoodIn wsL_law (wsV RL 57 RX7 yX7_mend wsX7_mend) := goodIn_app (goodIn_of _ (by decide +kernel)) ggL_law_X7_mend
set_option maxRecDepth 20000 in
theorem ggL_law_X6_raise : GoodIn wsL_law wsX6_raise := goodIn_r _ [444, 23, 218, 345, 101, 30, 347, 445, 102, 103, 2, 104, 391, 392, 393, 394, 348, 349, 350, 29, 351, 64, 352, 281, 353, 354, 355, 356, 357, 273, 274, 22, 275, 56, 276, 175, 176, 177, 57, 58, 253, 254, 255, 256, 257, 258, 259, 855, 856, 857, 858, 859, 860, 861, 862, 863, 864, 901, 902, 903, 904, 905, 906, 907, 908, 909, 910, 911, 912, 913] (by decide +kernel) (by decide +kernel)
set_option maxRecDepth 20000 in
theorem gL_law_X6_raise : GoodIn wsL_law (wsV RL 58 RX6 yX6_raise wsX6_raise) := goodIn_app (goodIn_of _ (by decide +kernel)) ggL_law_X6_raise
set_option maxRecDepth 20000 in
theorem ggL_law_X7_raise : GoodIn wsL_law wsX7_raise := goodIn_r _ [449, 371, 127, 85, 372, 373, 374, 5, 375, 131, 132, 133, 415, 416, 417, 418, 376, 377, 378, 379, 291, 88, 329, 330, 331, 865, 866, 867, 868, 869, 870, 871, 872, 873, 874, 875, 876, 877, 878, 879, 880, 881, 882, 883, 884, 885, 886, 887, 888, 889, 890, 891, 892] (by decide +kernel) (by decide +kernel)
set_option maxRecDepth 20000 in
theorem gL_law_X7_raise : GoodIn wsL_law (wsV RL 61 RX7 yX7_raise wsX7_raise) := goodIn_app (goodIn_of _ (by decide +kernel)) ggL_law_X7_raise
set_option maxRecDepth 20000 in
theorem ggL_law_X6_veer : GoodIn wsL_law wsX6_veer := goodIn_r _ [453, 23, 218, 345, 30, 454, 348, 349, 350, 29, 351, 64, 352, 281, 353, 354, 355, 356, 357, 273, 274, 22, 275, 56, 276, 175, 176, 177, 57, 58, 253, 254, 255, 256, 257, 258, 259, 855, 856, 857, 858, 859, 860, 861, 862, 863, 864, 901, 902, 903, 904, 905, 906, 907, 908, 909, 910, 911, 912, 913] (by decide +kernel) (by decide +kernel)
set_option maxRecDepth 20000 in
theorem gL_law_X6_veer : GoodIn wsL_law (wsV RL 62 RX6 yX6_veer wsX6_veer) := goodIn_app (goodIn_of _ (by decide +kernel)) ggL_law_X6_veer
set_option maxRecDepth 20000 in
theorem ggL_law_X7_veer : GoodIn wsL_law wsX7_veer := goodIn_r _ [458, 371, 85, 372, 373, 374, 5, 375, 376, 377, 378, 379, 291, 88, 329, 330, 331, 865, 866, 867, 868, 869, 870, 871, 872, 873, 874, 875, 876, 877, 878, 879, 880, 881, 882, 883, 884, 885, 886, 887, 888, 889, 890, 891, 892] (by decide +kernel) (by decide +kernel)
set_option maxRecDepth 20000 in
theorem gL_law_X7_veer : GoodIn wsL_law (wsV RL 65 RX7 yX7_veer wsX7_veer) := goodIn_app (goodIn_of _ (by decide +kernel)) ggL_law_X7_veer
set_option maxRecDepth 20000 in
theorem ggL_law_X6_undo : GoodIn wsL_law wsX6_undo := goodIn_r _ [462, 30, 463, 345, 23, 464, 465, 466, 29, 467, 281, 352, 64, 357, 273, 274, 22, 275, 56, 276, 175, 176, 177, 57, 58, 253, 254, 255, 256, 257, 258, 259, 855, 856, 857, 858, 859, 860, 861, 862, 863, 864, 911, 912, 913, 901, 902, 903, 904, 905, 906, 907, 908, 909, 910] (by decide +kernel) (by decide +kernel)
set_option maxRecDepth 20000 in
theorem gL_law_X6_undo : GoodIn wsL_law (wsV RL 66 RX6 yX6_undo wsX6_undo) := goodIn_app (goodIn_of _ (by decide +kernel)) ggL_law_X6_undo
set_option maxRecDepth 20000 in
theorem ggL_law_X7_undo : GoodIn wsL_law wsX7_undo := goodIn_r _ [471, 291, 371, 88, 85, 329, 330, 5, 331, 865, 866, 867, 868, 869, 870, 871, 872, 873, 874, 875, 876, 877, 878, 879, 880, 881, 882, 883, 884, 885, 886, 887, 888, 889, 890, 891, 892] (by decide +kernel) (by decide +kernel)
set_option maxRecDepth 20000 in
theorem gL_law_X7_undo : GoodIn wsL_law (wsV RL 69 RX7 yX7_undo wsX7_undo) := goodIn_app (goodIn_of _ (by decide +kernel)) ggL_law_X7_undo
set_option maxRecDepth 20000 in
theorem ggL_law_X6_soul : GoodIn wsL_law wsX6_soul := goodIn_r _ [475, 101, 23, 476, 435, 477, 347, 391, 392, 393, 2, 394, 218, 102, 103, 104, 478, 408, 409, 22, 410, 256, 362, 354, 355, 356, 479, 480, 481, 482, 254, 403, 404, 405, 406, 364, 365, 366, 407, 855, 856, 857, 858, 859, 860, 861, 862, 863, 864, 901, 902, 903, 904, 905, 906, 907, 908, 909, 910] (by decide +kernel) (by decide +kernel)
set_option maxRecDepth 20000 in
theorem gL_law_X6_soul : GoodIn wsL_law (wsV RL 70 RX6 yX6_soul wsX6_soul) := goodIn_app (goodIn_of _ (by decide +kernel)) ggL_law_X6_soul
set_option maxRecDepth 20000 in
theorem ggL_law_X7_soul : GoodIn wsL_law wsX7_soul := goodIn_r _ [486, 127, 85, 415, 416, 417, 5, 418, 131, 132, 133, 428, 429, 430, 384, 385, 386, 422, 423, 424, 425, 426, 427, 865, 866, 867, 868, 869, 870, 871, 872, 873, 874, 875, 876, 877, 878, 879, 880, 881, 882, 883, 884, 885, 886, 887, 888, 889, 890, 891, 892] (by decide +kernel) (by decide +kernel)
set_option maxRecDepth 20000 in
theorem gL_law_X7_soul : GoodIn wsL_law (wsV RL 73 RX7 yX7_soul wsX7_soul) := goodIn_app (goodIn_of _ (by decide +kernel)) ggL_law_X7_soul
set_option maxRecDepth 20000 in
theorem ggL_law_X6_roofs : GoodIn wsL_law wsX6_roofs := goodIn_r _ [490, 101, 24, 435, 391, 392, 393, 2, 394, 23, 218, 102, 103, 104, 491, 492, 493, 494, 272, 273, 274, 22, 275, 56, 276, 175, 176, 177, 57, 58, 253, 254, 255, 256, 257, 258, 259, 358, 359, 360, 361, 362, 354, 355, 356, 363, 364, 365, 366, 855, 856, 857, 858, 859, 860, 861, 862, 863, 864, 901, 902, 903, 904, 905, 906, 907, 908, 909, 910] (by decide +kernel) (by decide +kernel)
set_option maxRecDepth 20000 in
theorem gL_law_X6_roofs : GoodIn wsL_law (wsV RL 74 RX6 yX6_roofs wsX6_roofs) := goodIn_app (goodIn_of _ (by decide +kernel)) ggL_law_X6_roofs
set_option maxRecDepth 20000 in
theorem ggL_law_X7_roofs : GoodIn wsL_law wsX7_roofs := goodIn_r _ [498, 127, 85, 87, 415, 416, 417, 5, 418, 131, 132, 133, 329, 330, 331, 499, 500, 501, 502, 380, 381, 382, 383, 384, 385, 386, 865, 866, 867, 868, 869, 870, 871, 872, 873, 874, 875, 876, 877, 878, 879, 880, 881, 882, 883, 884, 885, 886, 887, 888, 889, 890, 891, 892] (by decide +kernel) (by decide +kernel)
set_option maxRecDepth 20000 in
theorem gL_law_X7_roofs : GoodIn wsL_law (wsV RL 77 RX7 yX7_roofs wsX7_roofs) := goodIn_app (goodIn_of _ (by decide +kernel)) ggL_law_X7_roofs
set_option maxRecDepth 20000 in
theorem ggL_law_X6_later : GoodIn wsL_law wsX6_later := goodIn_r _ [506, 23, 218, 345, 101, 24, 347, 445, 507, 102, 103, 2, 104, 491, 492, 493, 494, 272, 273, 274, 22, 275, 56, 276, 175, 176, 177, 57, 58, 253, 254, 255, 256, 257, 258, 259, 358, 359, 360, 361, 362, 354, 355, 356, 363, 364, 365, 366, 855, 856, 857, 858, 859, 860, 861, 862, 863, 864, 901, 902, 903, 904, 905, 906, 907, 908, 909, 910] (by decide +kernel) (by decide +kernel)
set_option maxRecDepth 20000 in
theorem gL_law_X6_later : GoodIn wsL_law (wsV RL 78 RX6 yX6_later wsX6_later) := goodIn_app (goodIn_of _ (by decide +kernel)) ggL_law_X6_later
set_option maxRecDepth 20000 in
theorem ggL_law_X7_later : GoodIn wsL_law wsX7_later := goodIn_r _ [511, 371, 127, 85, 87, 372, 373, 374, 5, 375, 131, 132, 133, 329, 330, 331, 499, 500, 501, 502, 380, 381, 382, 383, 384, 385, 386, 865, 866, 867, 868, 869, 870, 871, 872, 873, 874, 875, 876, 877, 878, 879, 880, 881, 882, 883, 884, 885, 886, 887, 888, 889, 890, 891, 892] (by decide +kernel) (by decide +kernel)
set_option maxRecDepth 20000 in
theorem gL_law_X7_later : GoodIn wsL_law (wsV RL 81 RX7 yX7_later wsX7_later) := goodIn_app (goodIn_of _ (by decide +kernel)) ggL_law_X7_later
set_option maxRecDepth 20000 in
theorem ggL_law_X6_still : GoodIn wsL_law wsX6_still := goodIn_r _ [515, 23, 218, 345, 24, 347, 516, 491, 492, 493, 2, 494, 272, 273, 274, 22, 275, 56, 276, 175, 176, 177, 57, 58, 253, 254, 255, 256, 257, 258, 259, 358, 359, 360, 361, 362, 354, 355, 356, 363, 364, 365, 366, 855, 856, 857, 858, 859, 860, 861, 862, 863, 864, 901, 902, 903, 904, 905, 906, 907, 908, 909, 910] (by decide +kernel) (by decide +kernel)
set_option maxRecDepth 20000 in
theorem gL_law_X6_still : GoodIn wsL_law (wsV RL 82 RX6 yX6_still wsX6_still) := goodIn_app (goodIn_of _ (by decide +kernel)) ggL_law_X6_still
set_option maxRecDepth 20000 in
theorem ggL_law_X7_still : GoodIn wsL_law wsX7_still := goodIn_r _ [520, 371, 85, 87, 96, 372, 373, 374, 5, 375, 329, 330, 331, 380, 381, 382, 383, 384, 385, 386, 131, 132, 133, 865, 866, 867, 868, 869, 870, 871, 872, 873, 874, 875, 876, 877, 878, 879, 880, 881, 882, 883, 884, 885, 886, 887, 888, 889, 890, 891, 892] (by decide +kernel) (by decide +kernel)
set_option maxRecDepth 20000 in
theorem gL_law_X7_still : GoodIn wsL_law (wsV RL 85 RX7 yX7_still wsX7_still) := goodIn_app (goodIn_of _ (by decide +kernel)) ggL_law_X7_still
set_option maxRecDepth 20000 in
theorem ggL_law_X6_bare : GoodIn wsL_law wsX6_bare := goodIn_r _ [524, 23, 218, 345, 101, 24, 516, 102, 103, 2, 104, 491, 492, 493, 494, 272, 273, 274, 22, 275, 56, 276, 175, 176, 177, 57, 58, 253, 254, 255, 256, 257, 258, 259, 358, 359, 360, 361, 362, 354, 355, 356, 363, 364, 365, 366, 525, 526, 527, 528, 529, 855, 856, 857, 858, 859, 860, 861, 862, 863, 864, 901, 902, 903, 904, 905, 906, 907, 908, 909, 910] (by decide +kernel) (by decide +kernel)
set_option maxRecDepth 20000 in
theorem gL_law_X6_bare : GoodIn wsL_law (wsV RL 86 RX6 yX6_bare wsX6_bare) := goodIn_app (goodIn_of _ (by decide +kernel)) ggL_law_X6_bare
set_option maxRecDepth 20000 in
theorem ggL_law_X7_bare : GoodIn wsL_law wsX7_bare := goodIn_r _ [533, 371, 127, 85, 87, 96, 372, 373, 374, 5, 375, 131, 132, 133, 329, 330, 331, 380, 381, 382, 383, 384, 385, 386, 865, 866, 867, 868, 869, 870, 871, 872, 873, 874, 875, 876, 877, 878, 879, 880, 881, 882, 883, 884, 885, 886, 887, 888, 889, 890, 891, 892] (by decide +kernel) (by decide +kernel)
set_option maxRecDepth 20000 in
theorem gL_law_X7_bare : GoodIn wsL_law (wsV RL 89 RX7 yX7_bare wsX7_bare) := goodIn_app (goodIn_of _ (by decide +kernel)) ggL_law_X7_bare
set_option maxRecDepth 20000 in
theorem ggL_law_X6_list : GoodIn wsL_law wsX6_list := goodIn_r _ [537, 23, 218, 345, 101, 516, 102, 103, 2, 104, 538, 539, 540, 541, 542, 543, 544, 545, 546, 547, 22, 548, 254, 253, 399, 400, 401, 402, 56, 57, 403, 404, 405, 406, 364, 365, 355, 366, 362, 354, 356, 407, 408, 409, 410, 256, 855, 856, 857, 858, 859, 860, 861, 862, 863, 864, 901, 902, 903, 904, 905, 906, 907, 908, 909, 910] (by decide +kernel) (by decide +kernel)
set_option maxRecDepth 20000 in
theorem gL_law_X6_list : GoodIn wsL_law (wsV RL 90 RX6 yX6_list wsX6_list) := goodIn_app (goodIn_of _ (by decide +kernel)) ggL_law_X6_list
set_option maxRecDepth 20000 in
theorem ggL_law_X7_list : GoodIn wsL_law wsX7_list := goodIn_r _ [552, 371, 127, 96, 85, 372, 373, 374, 5, 375, 131, 132, 133, 553, 554, 555, 556, 557, 558, 559, 560, 561, 562, 422, 423, 424, 425, 426, 427, 384, 385, 386, 428, 429, 430, 865, 866, 867, 868, 869, 870, 871, 872, 873, 874, 875, 876, 877, 878, 879, 880, 881, 882, 883, 884, 885, 886, 887, 888, 889, 890, 891, 892] (by decide +kernel) (by decide +kernel)
set_option maxRecDepth 20000 in
theorem gL_law_X7_list : GoodIn wsL_law (wsV RL 93 RX7 yX7_list wsX7_list) := goodIn_app (goodIn_of _ (by decide +kernel)) ggL_law_X7_list
set_option maxRecDepth 20000 in
theorem ggL_law_X6_order : GoodIn wsL_law wsX6_order := goodIn_r _ [566, 23, 218, 345, 101, 34, 567, 568, 569, 516, 570, 571, 572, 33, 573, 70, 574, 575, 576, 577, 578, 117, 579, 580, 581, 582, 583, 584, 68, 585, 586, 587, 588, 589, 400, 401, 22, 402, 56, 57, 403, 404, 405, 406, 364, 365, 355, 366, 362, 354, 356, 407, 408, 409, 410, 256, 590, 591, 592, 593, 71, 594, 175, 176, 177, 855, 856, 857, 858, 859, 860, 861, 862, 863, 864, 901, 902, 903, 904, 905, 906, 907, 908, 909, 910, 914, 915, 916, 917, 918] (by decide +kernel) (by decide +kernel)
set_option maxRecDepth 20000 in
theorem gL_law_X6_order : GoodIn wsL_law (wsV RL 94 RX6 yX6_order wsX6_order) := goodIn_app (goodIn_of _ (by decide +kernel)) ggL_law_X6_order
set_option maxRecDepth 20000 in
theorem ggL_law_X7_order : GoodIn wsL_law wsX7_order := goodIn_r _ [598, 371, 127, 599, 600, 94, 96, 372, 373, 374, 5, 375, 85, 601, 602, 603, 604, 93, 92, 91, 560, 561, 562, 422, 423, 424, 425, 426, 427, 384, 385, 386, 428, 429, 430, 605, 606, 607, 608, 865, 866, 867, 868, 869, 870, 871, 872, 873, 874, 875, 876, 877, 878, 879, 880, 881, 882, 883, 884, 885, 886, 887, 888, 889, 890, 891, 892] (by decide +kernel) (by decide +kernel)
set_option maxRecDepth 20000 in
theorem gL_law_X7_order : GoodIn wsL_law (wsV RL 97 RX7 yX7_order wsX7_order) := goodIn_app (goodIn_of _ (by decide +kernel)) ggL_law_X7_order
set_option maxRecDepth 20000 in
theorem ggL_law_X6_named : GoodIn wsL_law wsX6_named := goodIn_r _ [612, 23, 218, 345, 101, 516, 102, 103, 2, 104, 613, 614, 615, 616, 24, 507, 272, 273, 274, 22, 275, 56, 276, 175, 176, 177, 57, 58, 253, 254, 255, 256, 257, 258, 259, 395, 396, 397, 398, 399, 400, 401, 402, 403, 404, 405, 406, 364, 365, 355, 366, 362, 354, 356, 407, 408, 409, 410, 358, 359, 360, 361, 363, 855, 856, 857, 858, 859, 860, 861, 862, 863, 864, 901, 902, 903, 904, 905, 906, 907, 908, 909, 910] (by decide +kernel) (by decide +kernel)
set_option maxRecDepth 20000 in
theorem gL_law_X6_named : GoodIn wsL_law (wsV RL 98 RX6 yX6_named wsX6_named) := goodIn_app (goodIn_of _ (by decide +kernel)) ggL_law_X6_named
set_option maxRecDepth 20000 in
theorem ggL_law_X7_named : GoodIn wsL_law wsX7_named := goodIn_r _ [620, 371, 127, 96, 85, 372, 373, 374, 5, 375, 131, 132, 133, 621, 622, 623, 624, 87, 329, 330, 331, 419, 420, 421, 422, 423, 424, 425, 426, 427, 384, 385, 386, 428, 429, 430, 499, 500, 501, 502, 380, 381, 382, 383, 865, 866, 867, 868, 869, 870, 871, 872, 873, 874, 875, 876, 877, 878, 879, 880, 881, 882, 883, 884, 885, 886, 887, 888, 889, 890, 891, 892] (by decide +kernel) (by decide +kernel)
set_option maxRecDepth 20000 in
theorem gL_law_X7_named : GoodIn wsL_law (wsV RL 101 RX7 yX7_named wsX7_named) := goodIn_app (goodIn_of _ (by decide +kernel)) ggL_law_X7_named
set_option maxRecDepth 20000 in
theorem ggL_law_X6_premium : GoodIn wsL_law wsX6_premium := goodIn_r _ [628, 101, 23, 435, 218, 391, 392, 393, 2, 394, 102, 103, 104, 629, 630, 631, 22, 632, 253, 58, 855, 856, 857, 858, 859, 860, 861, 862, 863, 864, 901, 902, 903, 904, 905, 906, 907, 908, 909, 910] (by decide +kernel) (by decide +kernel)
set_option maxRecDepth 20000 in
theorem gL_law_X6_premium : GoodIn wsL_law (wsV RL 102 RX6 yX6_premium wsX6_premium) := goodIn_app (goodIn_of _ (by decide +kernel)) ggL_law_X6_premium
set_option maxRecDepth 20000 in
theorem ggL_law_X7_premium : GoodIn wsL_law wsX7_premium := goodIn_r _ [636, 127, 85, 415, 416, 417, 5, 418, 131, 132, 133, 865, 866, 867, 868, 869, 870, 871, 872, 873, 874, 875, 876, 877, 878, 879, 880, 881, 882, 883, 884, 885, 886, 887, 888, 889, 890, 891, 892] (by decide +kernel) (by decide +kernel)
set_option maxRecDepth 20000 in
theorem gL_law_X7_premium : GoodIn wsL_law (wsV RL 105 RX7 yX7_premium wsX7_premium) := goodIn_app (goodIn_of _ (by decide +kernel)) ggL_law_X7_premium
set_option maxRecDepth 20000 in
theorem ggL_law_X6_fits : GoodIn wsL_law wsX6_fits := goodIn_r _ [640, 101, 15, 148, 391, 392, 393, 2, 394, 23, 218, 102, 103, 104, 105, 106, 107, 108, 109, 110, 150, 151, 152, 14, 153, 46, 641, 642, 643, 644, 24, 645, 646, 647, 648, 272, 273, 274, 22, 275, 56, 276, 175, 176, 177, 57, 58, 253, 254, 255, 256, 257, 258, 259, 649, 650, 651, 652, 445, 454, 653, 347, 654, 655, 656, 657, 435, 149, 358, 359, 360, 361, 362, 354, 355, 356, 363, 364, 365, 366, 119, 120, 121, 122, 658, 659, 660, 661, 662, 663, 664, 665, 666, 667, 516, 855, 856, 857, 858, 859, 860, 861, 862, 863, 864, 893, 894, 895, 896, 901, 902, 903, 904, 905, 906, 907, 908, 909, 910] (by decide +kernel) (by decide +kernel)
set_option maxRecDepth 20000 in
theorem gL_law_X6_fits : GoodIn wsL_law (wsV RL 106 RX6 yX6_fits wsX6_fits) := goodIn_app (goodIn_of _ (by decide +kernel)) ggL_law_X6_fits
set_option maxRecDepth 20000 in
theorem ggL_law_X7_fits : GoodIn wsL_law wsX7_fits := goodIn_r _ [671, 127, 85, 96, 415, 416, 417, 5, 418, 131, 132, 133, 128, 129, 130, 162, 163, 164, 165, 80, 134, 135, 136, 137, 138, 139, 182, 183, 184, 185, 81, 672, 673, 674, 675, 87, 82, 329, 330, 331, 380, 381, 382, 383, 384, 385, 386, 140, 141, 142, 143, 865, 866, 867, 868, 869, 870, 871, 872, 873, 874, 875, 876, 877, 878, 879, 880, 881, 882, 883, 884, 885, 886, 887, 888, 889, 890, 891, 892] (by decide +kernel) (by decide +kernel)
set_option maxRecDepth 20000 in
theorem gL_law_X7_fits : GoodIn wsL_law (wsV RL 109 RX7 yX7_fits wsX7_fits) := goodIn_app (goodIn_of _ (by decide +kernel)) ggL_law_X7_fits
set_option maxRecDepth 20000 in
theorem ggL_law_X6_dropped : GoodIn wsL_law wsX6_dropped := goodIn_r _ [679, 101, 23, 476, 477, 391, 392, 393, 2, 394, 218, 102, 103, 104, 479, 480, 481, 22, 482, 254, 403, 404, 405, 406, 364, 365, 355, 366, 362, 354, 356, 407, 408, 409, 410, 256, 855, 856, 857, 858, 859, 860, 861, 862, 863, 864, 901, 902, 903, 904, 905, 906, 907, 908, 909, 910] (by decide +kernel) (by decide +kernel)
set_option maxRecDepth 20000 in
theorem gL_law_X6_dropped : GoodIn wsL_law (wsV RL 110 RX6 yX6_dropped wsX6_dropped) := goodIn_app (goodIn_of _ (by decide +kernel)) ggL_law_X6_dropped
set_option maxRecDepth 20000 in
theorem ggL_law_X7_dropped : GoodIn wsL_law wsX7_dropped := goodIn_r _ [683, 127, 85, 415, 416, 417, 5, 418, 131, 132, 133, 425, 426, 427, 384, 385, 386, 428, 429, 430, 865, 866, 867, 868, 869, 870, 871, 872, 873, 874, 875, 876, 877, 878, 879, 880, 881, 882, 883, 884, 885, 886, 887, 888, 889, 890, 891, 892] (by decide +kernel) (by decide +kernel)
set_option maxRecDepth 20000 in
theorem gL_law_X7_dropped : GoodIn wsL_law (wsV RL 113 RX7 yX7_dropped wsX7_dropped) := goodIn_app (goodIn_of _ (by decide +kernel)) ggL_law_X7_dropped
set_option maxRecDepth 20000 in
theorem ggL_law_X6_owning : GoodIn wsL_law wsX6_owning := goodIn_r _ [687, 23, 218, 345, 101, 347, 102, 103, 2, 104, 688, 689, 690, 691, 400, 401, 22, 402, 56, 57, 403, 404, 405, 406, 364, 365, 355, 366, 362, 354, 356, 407, 408, 409, 410, 256, 692, 693, 694, 695, 855, 856, 857, 858, 859, 860, 861, 862, 863, 864, 901, 902, 903, 904, 905, 906, 907, 908, 909, 910] (by decide +kernel) (by decide +kernel)
set_option maxRecDepth 20000 in
theorem gL_law_X6_owning : GoodIn wsL_law (wsV RL 114 RX6 yX6_owning wsX6_owning) := goodIn_app (goodIn_of _ (by decide +kernel)) ggL_law_X6_owning
set_option maxRecDepth 20000 in
theorem ggL_law_X7_owning : GoodIn wsL_law wsX7_owning := goodIn_r _ [699, 371, 127, 85, 372, 373, 374, 5, 375, 131, 132, 133, 560, 561, 562, 556, 557, 558, 559, 422, 423, 424, 425, 426, 427, 384, 385, 386, 428, 429, 430, 865, 866, 867, 868, 869, 870, 871, 872, 873, 874, 875, 876, 877, 878, 879, 880, 881, 882, 883, 884, 885, 886, 887, 888, 889, 890, 891, 892] (by decide +kernel) (by decide +kernel)
set_option maxRecDepth 20000 in
theorem gL_law_X7_owning : GoodIn wsL_law (wsV RL 117 RX7 yX7_owning wsX7_owning) := goodIn_app (goodIn_of _ (by decide +kernel)) ggL_law_X7_owning
set_option maxRecDepth 20000 in
theorem ggL_law_X6_drawn : GoodIn wsL_law wsX6_drawn := goodIn_r _ [703, 23, 218, 345, 704, 101, 24, 507, 705, 706, 102, 103, 2, 104, 491, 492, 493, 494, 272, 273, 274, 22, 275, 56, 276, 175, 176, 177, 57, 58, 253, 254, 255, 256, 257, 258, 259, 358, 359, 360, 361, 362, 354, 355, 356, 363, 364, 365, 366, 707, 708, 709, 710, 711, 396, 397, 398, 399, 400, 401, 402, 403, 404, 405, 406, 407, 408, 409, 410, 712, 713, 714, 715, 855, 856, 857, 858, 859, 860, 861, 862, 863, 864, 901, 902, 903, 904, 905, 906, 907, 908, 909, 910] (by decide +kernel) (by decide +kernel)
set_option maxRecDepth 20000 in
theorem gL_law_X6_drawn : GoodIn wsL_law (wsV RL 118 RX6 yX6_drawn wsX6_drawn) := goodIn_app (goodIn_of _ (by decide +kernel)) ggL_law_X6_drawn
set_option maxRecDepth 20000 in
theorem ggL_law_X7_drawn : GoodIn wsL_law wsX7_drawn := goodIn_r _ [719, 371, 720, 127, 85, 87, 721, 722, 723, 724, 372, 373, 374, 5, 375, 131, 132, 133, 329, 330, 331, 419, 420, 421, 422, 423, 424, 425, 426, 427, 384, 385, 386, 428, 429, 430, 380, 381, 382, 383, 725, 726, 727, 553, 554, 555, 865, 866, 867, 868, 869, 870, 871, 872, 873, 874, 875, 876, 877, 878, 879, 880, 881, 882, 883, 884, 885, 886, 887, 888, 889, 890, 891, 892] (by decide +kernel) (by decide +kernel)
set_option maxRecDepth 20000 in
theorem gL_law_X7_drawn : GoodIn wsL_law (wsV RL 121 RX7 yX7_drawn wsX7_drawn) := goodIn_app (goodIn_of _ (by decide +kernel)) ggL_law_X7_drawn
set_option maxRecDepth 20000 in
theorem ggL_law_X6_image : GoodIn wsL_law wsX6_image := goodIn_r _ [731, 101, 23, 218, 345, 102, 103, 2, 104, 732, 733, 734, 735, 25, 26, 272, 273, 274, 22, 275, 56, 276, 175, 176, 177, 57, 58, 253, 254, 255, 256, 257, 258, 259, 855, 856, 857, 858, 859, 860, 861, 862, 863, 864, 901, 902, 903, 904, 905, 906, 907, 908, 909, 910] (by decide +kernel) (by decide +kernel)
set_option maxRecDepth 20000 in
theorem gL_law_X6_image : GoodIn wsL_law (wsV RL 122 RX6 yX6_image wsX6_image) := goodIn_app (goodIn_of _ (by decide +kernel)) ggL_law_X6_image
set_option maxRecDepth 20000 in
theorem ggL_law_X7_image : GoodIn wsL_law wsX7_image := goodIn_r _ [739, 127, 371, 85, 89, 90, 131, 132, 5, 133, 372, 373, 374, 375, 329, 330, 331, 865, 866, 867, 868, 869, 870, 871, 872, 873, 874, 875, 876, 877, 878, 879, 880, 881, 882, 883, 884, 885, 886, 887, 888, 889, 890, 891, 892] (by decide +kernel) (by decide +kernel)
set_option maxRecDepth 20000 in
theorem gL_law_X7_image : GoodIn wsL_law (wsV RL 125 RX7 yX7_image wsX7_image) := goodIn_app (goodIn_of _ (by decide +kernel)) ggL_law_X7_image
set_option maxRecDepth 20000 in
theorem ggL_law_X6_restore : GoodIn wsL_law wsX6_restore := goodIn_r _ [743, 101, 218, 345, 23, 30, 102, 103, 2, 104, 732, 733, 734, 735, 25, 26, 272, 273, 274, 22, 275, 56, 276, 175, 176, 177, 57, 58, 253, 254, 255, 256, 257, 258, 259, 277, 278, 279, 29, 280, 281, 901, 902, 903, 904, 905, 906, 907, 908, 909, 910, 855, 856, 857, 858, 859, 860, 861, 862, 863, 864, 911, 912, 913] (by decide +kernel) (by decide +kernel)
set_option maxRecDepth 20000 in
theorem gL_law_X6_restore : GoodIn wsL_law (wsV RL 126 RX6 yX6_restore wsX6_restore) := goodIn_app (goodIn_of _ (by decide +kernel)) ggL_law_X6_restore
set_option maxRecDepth 20000 in
theorem ggL_law_X7_restore : GoodIn wsL_law wsX7_restore := goodIn_r _ [747, 127, 90, 371, 89, 85, 291, 131, 132, 5, 133, 329, 330, 331, 865, 866, 867, 868, 869, 870, 871, 872, 873, 874, 875, 876, 877, 878, 879, 880, 881, 882, 883, 884, 885, 886, 887, 888, 889, 890, 891, 892] (by decide +kernel) (by decide +kernel)
set_option maxRecDepth 20000 in
theorem gL_law_X7_restore : GoodIn wsL_law (wsV RL 129 RX7 yX7_restore wsX7_restore) := goodIn_app (goodIn_of _ (by decide +kernel)) ggL_law_X7_restore
set_option maxRecDepth 20000 in
theorem ggL_law_X6_kind : GoodIn wsL_law wsX6_kind := goodIn_r _ [751, 101, 23, 477, 391, 392, 393, 2, 394, 218, 102, 103, 104, 855, 856, 857, 858, 859, 860, 861, 862, 863, 864, 901, 902, 903, 904, 905, 906, 907, 908, 909, 910] (by decide +kernel) (by decide +kernel)
set_option maxRecDepth 20000 in
theorem gL_law_X6_kind : GoodIn wsL_law (wsV RL 130 RX6 yX6_kind wsX6_kind) := goodIn_app (goodIn_of _ (by decide +kernel)) ggL_law_X6_kind
set_option maxRecDepth 20000 in
theorem ggL_law_X7_kind : GoodIn wsL_law wsX7_kind := goodIn_r _ [755, 127, 415, 416, 417, 5, 418, 85, 131, 132, 133, 756, 757, 758, 759, 865, 866, 867, 868, 869, 870, 871, 872, 873, 874, 875, 876, 877, 878, 879, 880, 881, 882, 883, 884, 885, 886, 887, 888, 889, 890, 891, 892] (by decide +kernel) (by decide +kernel)
set_option maxRecDepth 20000 in
theorem gL_law_X7_kind : GoodIn wsL_law (wsV RL 133 RX7 yX7_kind wsX7_kind) := goodIn_app (goodIn_of _ (by decide +kernel)) ggL_law_X7_kind
set_option maxRecDepth 20000 in
theorem ggL_law_X6_as : GoodIn wsL_law wsX6_as := goodIn_r _ [763, 101, 23, 477, 391, 392, 393, 2, 394, 218, 102, 103, 104, 764, 765, 766, 767, 768, 769, 119, 120, 121, 122, 109, 105, 106, 107, 108, 110, 855, 856, 857, 858, 859, 860, 861, 862, 863, 864, 901, 902, 903, 904, 905, 906, 907, 908, 909, 910] (by decide +kernel) (by decide +kernel)
set_option maxRecDepth 20000 in
theorem gL_law_X6_as : GoodIn wsL_law (wsV RL 134 RX6 yX6_as wsX6_as) := goodIn_app (goodIn_of _ (by decide +kernel)) ggL_law_X6_as
set_option maxRecDepth 20000 in
theorem ggL_law_X7_as : GoodIn wsL_law wsX7_as := goodIn_r _ [773, 127, 415, 416, 417, 5, 418, 85, 131, 132, 133, 756, 757, 758, 759, 140, 141, 142, 143, 138, 134, 135, 136, 137, 139, 865, 866, 867, 868, 869, 870, 871, 872, 873, 874, 875, 876, 877, 878, 879, 880, 881, 882, 883, 884, 885, 886, 887, 888, 889, 890, 891, 892] (by decide +kernel) (by decide +kernel)
set_option maxRecDepth 20000 in
theorem gL_law_X7_as : GoodIn wsL_law (wsV RL 137 RX7 yX7_as wsX7_as) := goodIn_app (goodIn_of _ (by decide +kernel)) ggL_law_X7_as
set_option maxRecDepth 20000 in
theorem ggL_law_X6_ask : GoodIn wsL_law wsX6_ask := goodIn_r _ [777, 101, 38, 23, 391, 392, 393, 2, 394, 218, 102, 103, 104, 778, 779, 780, 37, 781, 782, 783, 784, 785, 786, 787, 788, 789, 790, 791, 792, 793, 794, 795, 796, 797, 798, 799, 75, 855, 856, 857, 858, 859, 860, 861, 862, 863, 864, 901, 902, 903, 904, 905, 906, 907, 908, 909, 910, 919, 920] (by decide +kernel) (by decide +kernel)
set_option maxRecDepth 20000 in
theorem gL_law_X6_ask : GoodIn wsL_law (wsV RL 138 RX6 yX6_ask wsX6_ask) := goodIn_app (goodIn_of _ (by decide +kernel)) ggL_law_X6_ask
set_option maxRecDepth 20000 in
theorem ggL_law_X7_ask : GoodIn wsL_law wsX7_ask := goodIn_r _ [803, 127, 804, 415, 416, 417, 5, 418, 85, 131, 132, 133, 756, 757, 758, 759, 805, 806, 807, 808, 809, 810, 811, 812, 95, 813, 814, 815, 816, 817, 818, 819, 820, 821, 822, 823, 824, 865, 866, 867, 868, 869, 870, 871, 872, 873, 874, 875, 876, 877, 878, 879, 880, 881, 882, 883, 884, 885, 886, 887, 888, 889, 890, 891, 892] (by decide +kernel) (by decide +kernel)
set_option maxRecDepth 20000 in
theorem gL_law_X7_ask : GoodIn wsL_law (wsV RL 141 RX7 yX7_ask wsX7_ask) := goodIn_app (goodIn_of _ (by decide +kernel)) ggL_law_X7_ask
set_option maxRecDepth 20000 in
theorem ggL_law_X6_trace : GoodIn wsL_law wsX6_trace := goodIn_r _ [828, 38, 829, 516, 830, 102, 103, 2, 104, 855, 856, 857, 858, 859, 860, 861, 862, 863, 864, 919, 920] (by decide +kernel) (by decide +kernel)
set_option maxRecDepth 20000 in
theorem gL_law_X6_trace : GoodIn wsL_law (wsV RL 142 RX6 yX6_trace wsX6_trace) := goodIn_app (goodIn_of _ (by decide +kernel)) ggL_law_X6_trace
set_option maxRecDepth 20000 in
theorem ggL_law_X7_trace : GoodIn wsL_law wsX7_trace := goodIn_r _ [834, 804, 95, 96, 131, 132, 5, 133, 865, 866, 867, 868, 869, 870, 871, 872, 873, 874, 875, 876, 877, 878, 879, 880, 881, 882, 883, 884, 885, 886, 887, 888, 889, 890, 891, 892] (by decide +kernel) (by decide +kernel)
set_option maxRecDepth 20000 in
theorem gL_law_X7_trace : GoodIn wsL_law (wsV RL 145 RX7 yX7_trace wsX7_trace) := goodIn_app (goodIn_of _ (by decide +kernel)) ggL_law_X7_trace
set_option maxRecDepth 20000 in
theorem ggL_law_X6_count : GoodIn wsL_law wsX6_count := goodIn_r _ [838, 15, 23, 218, 346, 347, 445, 454, 653, 507, 30, 463, 19, 199, 101, 839, 840, 841, 14, 842, 43, 855, 856, 857, 858, 859, 860, 861, 862, 863, 864, 901, 902, 903, 904, 905, 906, 907, 908, 909, 910, 911, 912, 913, 897, 898, 899, 900, 893, 894, 895, 896] (by decide +kernel) (by decide +kernel)
set_option maxRecDepth 20000 in
theorem gL_law_X6_count : GoodIn wsL_law (wsV RL 146 RX6 yX6_count wsX6_count) := goodIn_app (goodIn_of _ (by decide +kernel)) ggL_law_X6_count
set_option maxRecDepth 20000 in
theorem ggL_law_X7_count : GoodIn wsL_law wsX7_count := goodIn_r _ [846, 85, 291, 210, 127, 162, 163, 164, 5, 165, 80, 96, 865, 866, 867, 868, 869, 870, 871, 872, 873, 874, 875, 876, 877, 878, 879, 880, 881, 882, 883, 884, 885, 886, 887, 888, 889, 890, 891, 892] (by decide +kernel) (by decide +kernel)
set_option maxRecDepth 20000 in
theorem gL_law_X7_count : GoodIn wsL_law (wsV RL 149 RX7 yX7_count wsX7_count) := goodIn_app (goodIn_of _ (by decide +kernel)) ggL_law_X7_count
set_option maxRecDepth 20000 in
theorem ggL_law_X6_status : GoodIn wsL_law wsX6_status := goodIn_r _ [850, 109, 855, 856, 857, 858, 859, 860, 861, 862, 863, 864] (by decide +kernel) (by decide +kernel)
set_option maxRecDepth 20000 in
theorem gL_law_X6_status : GoodIn wsL_law (wsV RL 150 RX6 yX6_status wsX6_status) := goodIn_app (goodIn_of _ (by decide +kernel)) ggL_law_X6_status
set_option maxRecDepth 20000 in
theorem ggL_law_X7_status : GoodIn wsL_law wsX7_status := goodIn_r _ [854, 138, 865, 866, 867, 868, 869, 870, 871, 872, 873, 874, 875, 876, 877, 878, 879, 880, 881, 882, 883, 884, 885, 886, 887, 888, 889, 890, 891, 892] (by decide +kernel) (by decide +kernel)
set_option maxRecDepth 20000 in
theorem gL_law_X7_status : GoodIn wsL_law (wsV RL 153 RX7 yX7_status wsX7_status) := goodIn_app (goodIn_of _ (by decide +kernel)) ggL_law_X7_status

theorem dX6_premium_72 : decode cX6_premium 72 = .ok (.aload_n 0, 1) := by decide +kernel
theorem dX6_premium_73 : decode cX6_premium 73 = .ok (.getfield 26, 3) := by decide +kernel
theorem dX6_premium_76 : decode cX6_premium 76 = .ok (.getfield 154, 3) := by decide +kernel
theorem dX6_premium_79 : decode cX6_premium 79 = .ok (.iload 6, 2) := by decide +kernel
theorem dX6_premium_81 : decode cX6_premium 81 = .ok (.iaload, 1) := by decide +kernel
theorem dX6_premium_82 : decode cX6_premium 82 = .ok (.imul, 1) := by decide +kernel
theorem dX6_premium_83 : decode cX6_premium 83 = .ok (.iload_n 3, 1) := by decide +kernel
theorem dX6_premium_84 : decode cX6_premium 84 = .ok (.idiv, 1) := by decide +kernel
theorem dX6_premium_85 : decode cX6_premium 85 = .ok (.isub, 1) := by decide +kernel
theorem dX6_premium_86 : decode cX6_premium 86 = .ok (.istore 4, 2) := by decide +kernel
theorem dX6_premium_88 : decode cX6_premium 88 = .ok (.iload 6, 2) := by decide +kernel
theorem dX6_premium_90 : decode cX6_premium 90 = .ok (.iload_n 1, 1) := by decide +kernel
theorem dX6_premium_91 : decode cX6_premium 91 = .ok (.if_icmp .ge 19, 3) := by decide +kernel
theorem dX6_premium_94 : decode cX6_premium 94 = .ok (.aload_n 0, 1) := by decide +kernel
theorem dX6_premium_95 : decode cX6_premium 95 = .ok (.getfield 26, 3) := by decide +kernel
theorem dX6_premium_98 : decode cX6_premium 98 = .ok (.getfield 154, 3) := by decide +kernel
theorem dX6_premium_101 : decode cX6_premium 101 = .ok (.iload 6, 2) := by decide +kernel
theorem dX6_premium_103 : decode cX6_premium 103 = .ok (.iaload, 1) := by decide +kernel
theorem dX6_premium_104 : decode cX6_premium 104 = .ok (.ifCond .le 6, 3) := by decide +kernel
theorem dX6_premium_107 : decode cX6_premium 107 = .ok (.iinc 5 1, 3) := by decide +kernel
theorem dX6_premium_110 : decode cX6_premium 110 = .ok (.iinc 6 1, 3) := by decide +kernel
theorem dX6_premium_113 : decode cX6_premium 113 = .ok (.goto (-56), 3) := by decide +kernel
theorem dX6_premium_116 : decode cX6_premium 116 = .ok (.iload_n 2, 1) := by decide +kernel
theorem dX6_premium_117 : decode cX6_premium 117 = .ok (.aload_n 0, 1) := by decide +kernel
theorem dX6_premium_118 : decode cX6_premium 118 = .ok (.getfield 26, 3) := by decide +kernel
theorem dX6_premium_121 : decode cX6_premium 121 = .ok (.getfield 154, 3) := by decide +kernel
theorem dX6_premium_124 : decode cX6_premium 124 = .ok (.iload_n 1, 1) := by decide +kernel
theorem dX6_premium_125 : decode cX6_premium 125 = .ok (.iaload, 1) := by decide +kernel
theorem dX6_premium_126 : decode cX6_premium 126 = .ok (.imul, 1) := by decide +kernel
theorem dX6_premium_127 : decode cX6_premium 127 = .ok (.iload_n 3, 1) := by decide +kernel
theorem dX6_premium_128 : decode cX6_premium 128 = .ok (.idiv, 1) := by decide +kernel
theorem dX6_premium_129 : decode cX6_premium 129 = .ok (.iload 5, 2) := by decide +kernel
theorem dX6_premium_131 : decode cX6_premium 131 = .ok (.iload 4, 2) := by decide +kernel
theorem dX6_premium_133 : decode cX6_premium 133 = .ok (.if_icmp .ge 7, 3) := by decide +kernel
theorem dX6_premium_136 : decode cX6_premium 136 = .ok (.iconst 1, 1) := by decide +kernel
theorem dX6_premium_137 : decode cX6_premium 137 = .ok (.goto 4, 3) := by decide +kernel
theorem dX6_premium_140 : decode cX6_premium 140 = .ok (.iconst 0, 1) := by decide +kernel
theorem dX6_premium_141 : decode cX6_premium 141 = .ok (.iadd, 1) := by decide +kernel
theorem dX6_premium_142 : decode cX6_premium 142 = .ok (.ireturn, 1) := by decide +kernel
set_option maxRecDepth 20000 in
theorem ggX6_fits_X6_noSoul : GoodIn wsX6_fits wsX6_noSoul := goodIn_r _ [8, 9, 10, 11, 12, 7, 13, 95, 96, 97, 98, 99, 100, 101, 102, 103, 104, 109, 110, 111, 112, 113, 114, 115, 116, 117, 118] (by decide +kernel) (by decide +kernel)
set_option maxRecDepth 20000 in
theorem gX6_fits_X6_noSoul : GoodIn wsX6_fits (wsV RX6 146 RX6 yX6_noSoul wsX6_noSoul) := goodIn_app (goodIn_of _ (by decide +kernel)) ggX6_fits_X6_noSoul
set_option maxRecDepth 20000 in
theorem ggX6_fits_X6_outside : GoodIn wsX6_fits wsX6_outside := goodIn_r _ [13] (by decide +kernel) (by decide +kernel)
set_option maxRecDepth 20000 in
theorem gX6_fits_X6_outside : GoodIn wsX6_fits (va_wsS RX6 60 yX6_outside wsX6_outside) := goodIn_app (goodIn_of _ (by decide +kernel)) ggX6_fits_X6_outside
set_option maxRecDepth 20000 in
theorem ggX6_fits_X6_found : GoodIn wsX6_fits wsX6_found := goodIn_r _ [17, 18, 19, 95, 96, 97, 98, 99, 100, 101, 102, 103, 104] (by decide +kernel) (by decide +kernel)
set_option maxRecDepth 20000 in
theorem gX6_fits_X6_found : GoodIn wsX6_fits (wsV RX6 65 RX6 yX6_found wsX6_found) := goodIn_app (goodIn_of _ (by decide +kernel)) ggX6_fits_X6_found
set_option maxRecDepth 20000 in
theorem ggX6_fits_X4_spans : GoodIn wsX6_fits wsX4_spans := goodIn_r _ [24, 25, 105, 106, 107, 108] (by decide +kernel) (by decide +kernel)
set_option maxRecDepth 20000 in
theorem gX6_fits_X4_spans : GoodIn wsX6_fits (wsV RX6 80 RX4 yX4_spans wsX4_spans) := goodIn_app (goodIn_of _ (by decide +kernel)) ggX6_fits_X4_spans
set_option maxRecDepth 20000 in
theorem ggX6_fits_X6_fitting : GoodIn wsX6_fits wsX6_fitting := goodIn_r _ [29, 30, 9, 31, 32, 33, 7, 34, 10, 35, 36, 37, 38, 39, 40, 41, 42, 43, 44, 45, 46, 47, 48, 49, 50, 51, 52, 53, 54, 55, 56, 57, 58, 59, 60, 61, 62, 63, 64, 65, 66, 2, 67, 68, 69, 70, 71, 72, 73, 74, 75, 76, 77, 78, 79, 95, 96, 97, 98, 99, 100, 101, 102, 103, 104, 109, 110, 111, 112, 113, 114, 115, 116, 117, 118, 105, 106, 107, 108] (by decide +kernel) (by decide +kernel)
set_option maxRecDepth 20000 in
theorem gX6_fits_X6_fitting : GoodIn wsX6_fits (wsV RX6 222 RX6 yX6_fitting wsX6_fitting) := goodIn_app (goodIn_of _ (by decide +kernel)) ggX6_fits_X6_fitting
set_option maxRecDepth 20000 in
theorem ggX6_fits_X6_fine : GoodIn wsX6_fits wsX6_fine := goodIn_r _ [83, 18, 95, 96, 97, 98, 99, 100, 101, 102, 103, 104] (by decide +kernel) (by decide +kernel)
set_option maxRecDepth 20000 in
theorem gX6_fits_X6_fine : GoodIn wsX6_fits (wsV RX6 73 RX6 yX6_fine wsX6_fine) := goodIn_app (goodIn_of _ (by decide +kernel)) ggX6_fits_X6_fine
set_option maxRecDepth 20000 in
theorem ggX6_fits_J13_bitCount_95d88 : GoodIn wsX6_fits wsJ13_bitCount_95d88 := goodIn_r _ [87, 88, 89, 90] (by decide +kernel) (by decide +kernel)
set_option maxRecDepth 20000 in
theorem gX6_fits_J13_bitCount_95d88 : GoodIn wsX6_fits (va_wsS RX6 226 yJ13_bitCount_95d88 wsJ13_bitCount_95d88) := goodIn_app (goodIn_of _ (by decide +kernel)) ggX6_fits_J13_bitCount_95d88
set_option maxRecDepth 20000 in
theorem ggX6_fits_X6_lowestBit : GoodIn wsX6_fits wsX6_lowestBit := goodIn_r _ [93, 94] (by decide +kernel) (by decide +kernel)
set_option maxRecDepth 20000 in
theorem gX6_fits_X6_lowestBit : GoodIn wsX6_fits (va_wsS RX6 231 yX6_lowestBit wsX6_lowestBit) := goodIn_app (goodIn_of _ (by decide +kernel)) ggX6_fits_X6_lowestBit
theorem dX6_fits_0 : decode cX6_fits 0 = .ok (.aload_n 0, 1) := by decide +kernel
theorem dX6_fits_1 : decode cX6_fits 1 = .ok (.iload_n 1, 1) := by decide +kernel
theorem dX6_fits_2 : decode cX6_fits 2 = .ok (.invokevirtual 146, 3) := by decide +kernel
theorem dX6_fits_5 : decode cX6_fits 5 = .ok (.ifCond .ne 34, 3) := by decide +kernel
theorem dX6_fits_8 : decode cX6_fits 8 = .ok (.iload_n 2, 1) := by decide +kernel
theorem dX6_fits_9 : decode cX6_fits 9 = .ok (.iconst 0, 1) := by decide +kernel
theorem dX6_fits_10 : decode cX6_fits 10 = .ok (.bipush 7, 2) := by decide +kernel
theorem dX6_fits_12 : decode cX6_fits 12 = .ok (.invokestatic 60, 3) := by decide +kernel
theorem dX6_fits_15 : decode cX6_fits 15 = .ok (.ifCond .ne 24, 3) := by decide +kernel
theorem dX6_fits_18 : decode cX6_fits 18 = .ok (.iload 4, 2) := by decide +kernel
theorem dX6_fits_20 : decode cX6_fits 20 = .ok (.iconst 1, 1) := by decide +kernel
theorem dX6_fits_21 : decode cX6_fits 21 = .ok (.bipush 12, 2) := by decide +kernel
theorem dX6_fits_23 : decode cX6_fits 23 = .ok (.invokestatic 60, 3) := by decide +kernel
theorem dX6_fits_26 : decode cX6_fits 26 = .ok (.ifCond .ne 13, 3) := by decide +kernel
theorem dX6_fits_29 : decode cX6_fits 29 = .ok (.iload 5, 2) := by decide +kernel
theorem dX6_fits_31 : decode cX6_fits 31 = .ok (.iconst 0, 1) := by decide +kernel
theorem dX6_fits_32 : decode cX6_fits 32 = .ok (.iconst 4, 1) := by decide +kernel
theorem dX6_fits_33 : decode cX6_fits 33 = .ok (.invokestatic 60, 3) := by decide +kernel
theorem dX6_fits_36 : decode cX6_fits 36 = .ok (.ifCond .eq 6, 3) := by decide +kernel
theorem dX6_fits_39 : decode cX6_fits 39 = .ok (.ldc 64, 2) := by decide +kernel
theorem dX6_fits_41 : decode cX6_fits 41 = .ok (.ireturn, 1) := by decide +kernel
theorem dX6_fits_42 : decode cX6_fits 42 = .ok (.aload_n 0, 1) := by decide +kernel
theorem dX6_fits_43 : decode cX6_fits 43 = .ok (.getfield 10, 3) := by decide +kernel
theorem dX6_fits_46 : decode cX6_fits 46 = .ok (.getfield 76, 3) := by decide +kernel
theorem dX6_fits_49 : decode cX6_fits 49 = .ok (.iload_n 2, 1) := by decide +kernel
theorem dX6_fits_50 : decode cX6_fits 50 = .ok (.baload, 1) := by decide +kernel
theorem dX6_fits_51 : decode cX6_fits 51 = .ok (.ifCond .ne 9, 3) := by decide +kernel
theorem dX6_fits_54 : decode cX6_fits 54 = .ok (.aload_n 0, 1) := by decide +kernel
theorem dX6_fits_55 : decode cX6_fits 55 = .ok (.iconst 1, 1) := by decide +kernel
theorem dX6_fits_56 : decode cX6_fits 56 = .ok (.invokevirtual 65, 3) := by decide +kernel
theorem dX6_fits_59 : decode cX6_fits 59 = .ok (.ireturn, 1) := by decide +kernel
theorem dX6_fits_60 : decode cX6_fits 60 = .ok (.aload_n 0, 1) := by decide +kernel
theorem dX6_fits_61 : decode cX6_fits 61 = .ok (.getfield 10, 3) := by decide +kernel
theorem dX6_fits_64 : decode cX6_fits 64 = .ok (.iload_n 2, 1) := by decide +kernel
theorem dX6_fits_65 : decode cX6_fits 65 = .ok (.iload_n 3, 1) := by decide +kernel
theorem dX6_fits_66 : decode cX6_fits 66 = .ok (.iload 4, 2) := by decide +kernel
theorem dX6_fits_68 : decode cX6_fits 68 = .ok (.invokevirtual 80, 3) := by decide +kernel
theorem dX6_fits_71 : decode cX6_fits 71 = .ok (.ifCond .ne 9, 3) := by decide +kernel
theorem dX6_fits_74 : decode cX6_fits 74 = .ok (.aload_n 0, 1) := by decide +kernel
theorem dX6_fits_75 : decode cX6_fits 75 = .ok (.iconst 2, 1) := by decide +kernel
theorem dX6_fits_76 : decode cX6_fits 76 = .ok (.invokevirtual 65, 3) := by decide +kernel
theorem dX6_fits_79 : decode cX6_fits 79 = .ok (.ireturn, 1) := by decide +kernel
theorem dX6_fits_80 : decode cX6_fits 80 = .ok (.aload_n 0, 1) := by decide +kernel
theorem dX6_fits_81 : decode cX6_fits 81 = .ok (.iload_n 1, 1) := by decide +kernel
theorem dX6_fits_82 : decode cX6_fits 82 = .ok (.iload_n 2, 1) := by decide +kernel
theorem dX6_fits_83 : decode cX6_fits 83 = .ok (.iload_n 3, 1) := by decide +kernel
theorem dX6_fits_84 : decode cX6_fits 84 = .ok (.iload 4, 2) := by decide +kernel
theorem dX6_fits_86 : decode cX6_fits 86 = .ok (.iload 5, 2) := by decide +kernel
theorem dX6_fits_88 : decode cX6_fits 88 = .ok (.invokevirtual 222, 3) := by decide +kernel
theorem dX6_fits_91 : decode cX6_fits 91 = .ok (.lstore 6, 2) := by decide +kernel
theorem dX6_fits_93 : decode cX6_fits 93 = .ok (.iload 5, 2) := by decide +kernel
theorem dX6_fits_95 : decode cX6_fits 95 = .ok (.iconst 1, 1) := by decide +kernel
theorem dX6_fits_96 : decode cX6_fits 96 = .ok (.if_icmp .le 11, 3) := by decide +kernel
theorem dX6_fits_99 : decode cX6_fits 99 = .ok (.aload_n 0, 1) := by decide +kernel
theorem dX6_fits_100 : decode cX6_fits 100 = .ok (.lload 6, 2) := by decide +kernel
theorem dX6_fits_102 : decode cX6_fits 102 = .ok (.l2i, 1) := by decide +kernel
theorem dX6_fits_103 : decode cX6_fits 103 = .ok (.invokevirtual 73, 3) := by decide +kernel
theorem dX6_fits_106 : decode cX6_fits 106 = .ok (.ireturn, 1) := by decide +kernel
theorem dX6_fits_107 : decode cX6_fits 107 = .ok (.aload_n 0, 1) := by decide +kernel
theorem dX6_fits_108 : decode cX6_fits 108 = .ok (.iload 5, 2) := by decide +kernel
theorem dX6_fits_110 : decode cX6_fits 110 = .ok (.ifCond .ne 11, 3) := by decide +kernel
theorem dX6_fits_113 : decode cX6_fits 113 = .ok (.lload 6, 2) := by decide +kernel
theorem dX6_fits_115 : decode cX6_fits 115 = .ok (.invokestatic 226, 3) := by decide +kernel
theorem dX6_fits_118 : decode cX6_fits 118 = .ok (.goto 8, 3) := by decide +kernel
theorem dX6_fits_121 : decode cX6_fits 121 = .ok (.lload 6, 2) := by decide +kernel
theorem dX6_fits_123 : decode cX6_fits 123 = .ok (.invokestatic 231, 3) := by decide +kernel
theorem dX6_fits_126 : decode cX6_fits 126 = .ok (.invokevirtual 73, 3) := by decide +kernel
theorem dX6_fits_129 : decode cX6_fits 129 = .ok (.ireturn, 1) := by decide +kernel
set_option maxRecDepth 20000 in
theorem ggX6_dropped_X6_noSoul : GoodIn wsX6_dropped wsX6_noSoul := goodIn_r _ [9, 2, 10, 11, 12, 8, 13, 36, 37, 38, 39, 40, 41, 42, 43, 44, 45, 46, 47, 48, 49, 50, 51, 52, 53, 54, 55] (by decide +kernel) (by decide +kernel)
set_option maxRecDepth 20000 in
theorem gX6_dropped_X6_noSoul : GoodIn wsX6_dropped (wsV RX6 146 RX6 yX6_noSoul wsX6_noSoul) := goodIn_app (goodIn_of _ (by decide +kernel)) ggX6_dropped_X6_noSoul
set_option maxRecDepth 20000 in
theorem ggX6_dropped_X6_outside : GoodIn wsX6_dropped wsX6_outside := goodIn_r _ [13] (by decide +kernel) (by decide +kernel)
set_option maxRecDepth 20000 in
theorem gX6_dropped_X6_outside : GoodIn wsX6_dropped (va_wsS RX6 60 yX6_outside wsX6_outside) := goodIn_app (goodIn_of _ (by decide +kernel)) ggX6_dropped_X6_outside
set_option maxRecDepth 20000 in
theorem ggX6_dropped_X2_fall : GoodIn wsX6_dropped wsX2_fall := goodIn_r _ [18, 19, 20, 21, 22, 17, 23, 24, 25, 26, 27, 28, 29, 30, 31, 32, 33, 34, 35, 46, 47, 48, 49, 50, 51, 52, 53, 54, 55] (by decide +kernel) (by decide +kernel)
set_option maxRecDepth 20000 in
theorem gX6_dropped_X2_fall : GoodIn wsX6_dropped (wsV RX6 184 RX2 yX2_fall wsX2_fall) := goodIn_app (goodIn_of _ (by decide +kernel)) ggX6_dropped_X2_fall
theorem dX6_dropped_0 : decode cX6_dropped 0 = .ok (.aload_n 0, 1) := by decide +kernel
theorem dX6_dropped_1 : decode cX6_dropped 1 = .ok (.iload_n 1, 1) := by decide +kernel
theorem dX6_dropped_2 : decode cX6_dropped 2 = .ok (.invokevirtual 146, 3) := by decide +kernel
theorem dX6_dropped_5 : decode cX6_dropped 5 = .ok (.ifCond .ne 23, 3) := by decide +kernel
theorem dX6_dropped_8 : decode cX6_dropped 8 = .ok (.iload_n 2, 1) := by decide +kernel
theorem dX6_dropped_9 : decode cX6_dropped 9 = .ok (.bipush (-2), 2) := by decide +kernel
theorem dX6_dropped_11 : decode cX6_dropped 11 = .ok (.bipush 60, 2) := by decide +kernel
theorem dX6_dropped_13 : decode cX6_dropped 13 = .ok (.invokestatic 60, 3) := by decide +kernel
theorem dX6_dropped_16 : decode cX6_dropped 16 = .ok (.ifCond .ne 12, 3) := by decide +kernel
theorem dX6_dropped_19 : decode cX6_dropped 19 = .ok (.iload_n 3, 1) := by decide +kernel
theorem dX6_dropped_20 : decode cX6_dropped 20 = .ok (.iconst 0, 1) := by decide +kernel
theorem dX6_dropped_21 : decode cX6_dropped 21 = .ok (.iconst 1, 1) := by decide +kernel
theorem dX6_dropped_22 : decode cX6_dropped 22 = .ok (.invokestatic 60, 3) := by decide +kernel
theorem dX6_dropped_25 : decode cX6_dropped 25 = .ok (.ifCond .eq 6, 3) := by decide +kernel
theorem dX6_dropped_28 : decode cX6_dropped 28 = .ok (.ldc 64, 2) := by decide +kernel
theorem dX6_dropped_30 : decode cX6_dropped 30 = .ok (.ireturn, 1) := by decide +kernel
theorem dX6_dropped_31 : decode cX6_dropped 31 = .ok (.iconst 0, 1) := by decide +kernel
theorem dX6_dropped_32 : decode cX6_dropped 32 = .ok (.istore 4, 2) := by decide +kernel
theorem dX6_dropped_34 : decode cX6_dropped 34 = .ok (.iload_n 3, 1) := by decide +kernel
theorem dX6_dropped_35 : decode cX6_dropped 35 = .ok (.ifCond .ne 57, 3) := by decide +kernel
theorem dX6_dropped_38 : decode cX6_dropped 38 = .ok (.iconst 1, 1) := by decide +kernel
theorem dX6_dropped_39 : decode cX6_dropped 39 = .ok (.istore 5, 2) := by decide +kernel
theorem dX6_dropped_41 : decode cX6_dropped 41 = .ok (.iload 5, 2) := by decide +kernel
theorem dX6_dropped_43 : decode cX6_dropped 43 = .ok (.bipush 6, 2) := by decide +kernel
theorem dX6_dropped_45 : decode cX6_dropped 45 = .ok (.if_icmp .ge 44, 3) := by decide +kernel
theorem dX6_dropped_48 : decode cX6_dropped 48 = .ok (.iload 4, 2) := by decide +kernel
theorem dX6_dropped_50 : decode cX6_dropped 50 = .ok (.aload_n 0, 1) := by decide +kernel
theorem dX6_dropped_51 : decode cX6_dropped 51 = .ok (.getfield 26, 3) := by decide +kernel
theorem dX6_dropped_54 : decode cX6_dropped 54 = .ok (.iload 5, 2) := by decide +kernel
theorem dX6_dropped_56 : decode cX6_dropped 56 = .ok (.aload_n 0, 1) := by decide +kernel
theorem dX6_dropped_57 : decode cX6_dropped 57 = .ok (.getfield 26, 3) := by decide +kernel
theorem dX6_dropped_60 : decode cX6_dropped 60 = .ok (.getfield 174, 3) := by decide +kernel
theorem dX6_dropped_63 : decode cX6_dropped 63 = .ok (.iload_n 1, 1) := by decide +kernel
theorem dX6_dropped_64 : decode cX6_dropped 64 = .ok (.iaload, 1) := by decide +kernel
theorem dX6_dropped_65 : decode cX6_dropped 65 = .ok (.invokevirtual 184, 3) := by decide +kernel
theorem dX6_dropped_68 : decode cX6_dropped 68 = .ok (.iload_n 2, 1) := by decide +kernel
theorem dX6_dropped_69 : decode cX6_dropped 69 = .ok (.if_icmp .ne 10, 3) := by decide +kernel
theorem dX6_dropped_72 : decode cX6_dropped 72 = .ok (.iconst 1, 1) := by decide +kernel
theorem dX6_dropped_73 : decode cX6_dropped 73 = .ok (.iload 5, 2) := by decide +kernel
theorem dX6_dropped_75 : decode cX6_dropped 75 = .ok (.ishl, 1) := by decide +kernel
theorem dX6_dropped_76 : decode cX6_dropped 76 = .ok (.goto 4, 3) := by decide +kernel
theorem dX6_dropped_79 : decode cX6_dropped 79 = .ok (.iconst 0, 1) := by decide +kernel
theorem dX6_dropped_80 : decode cX6_dropped 80 = .ok (.ior, 1) := by decide +kernel
theorem dX6_dropped_81 : decode cX6_dropped 81 = .ok (.istore 4, 2) := by decide +kernel
theorem dX6_dropped_83 : decode cX6_dropped 83 = .ok (.iinc 5 1, 3) := by decide +kernel
theorem dX6_dropped_86 : decode cX6_dropped 86 = .ok (.goto (-45), 3) := by decide +kernel
theorem dX6_dropped_89 : decode cX6_dropped 89 = .ok (.iload 4, 2) := by decide +kernel
theorem dX6_dropped_91 : decode cX6_dropped 91 = .ok (.ireturn, 1) := by decide +kernel
theorem dX6_dropped_92 : decode cX6_dropped 92 = .ok (.iconst 0, 1) := by decide +kernel
theorem dX6_dropped_93 : decode cX6_dropped 93 = .ok (.istore 5, 2) := by decide +kernel
theorem dX6_dropped_95 : decode cX6_dropped 95 = .ok (.iload 5, 2) := by decide +kernel
theorem dX6_dropped_97 : decode cX6_dropped 97 = .ok (.bipush 20, 2) := by decide +kernel
theorem dX6_dropped_99 : decode cX6_dropped 99 = .ok (.if_icmp .gt 44, 3) := by decide +kernel
theorem dX6_dropped_102 : decode cX6_dropped 102 = .ok (.iload 4, 2) := by decide +kernel
theorem dX6_dropped_104 : decode cX6_dropped 104 = .ok (.aload_n 0, 1) := by decide +kernel
theorem dX6_dropped_105 : decode cX6_dropped 105 = .ok (.getfield 26, 3) := by decide +kernel
theorem dX6_dropped_108 : decode cX6_dropped 108 = .ok (.aload_n 0, 1) := by decide +kernel
theorem dX6_dropped_109 : decode cX6_dropped 109 = .ok (.getfield 26, 3) := by decide +kernel
theorem dX6_dropped_112 : decode cX6_dropped 112 = .ok (.getfield 177, 3) := by decide +kernel
theorem dX6_dropped_115 : decode cX6_dropped 115 = .ok (.iload_n 1, 1) := by decide +kernel
theorem dX6_dropped_116 : decode cX6_dropped 116 = .ok (.iaload, 1) := by decide +kernel
theorem dX6_dropped_117 : decode cX6_dropped 117 = .ok (.iload 5, 2) := by decide +kernel
theorem dX6_dropped_119 : decode cX6_dropped 119 = .ok (.invokevirtual 184, 3) := by decide +kernel
theorem dX6_dropped_122 : decode cX6_dropped 122 = .ok (.iload_n 2, 1) := by decide +kernel
theorem dX6_dropped_123 : decode cX6_dropped 123 = .ok (.if_icmp .ne 10, 3) := by decide +kernel
theorem dX6_dropped_126 : decode cX6_dropped 126 = .ok (.iconst 1, 1) := by decide +kernel
theorem dX6_dropped_127 : decode cX6_dropped 127 = .ok (.iload 5, 2) := by decide +kernel
theorem dX6_dropped_129 : decode cX6_dropped 129 = .ok (.ishl, 1) := by decide +kernel
theorem dX6_dropped_130 : decode cX6_dropped 130 = .ok (.goto 4, 3) := by decide +kernel
theorem dX6_dropped_133 : decode cX6_dropped 133 = .ok (.iconst 0, 1) := by decide +kernel
theorem dX6_dropped_134 : decode cX6_dropped 134 = .ok (.ior, 1) := by decide +kernel
theorem dX6_dropped_135 : decode cX6_dropped 135 = .ok (.istore 4, 2) := by decide +kernel
theorem dX6_dropped_137 : decode cX6_dropped 137 = .ok (.iinc 5 1, 3) := by decide +kernel
theorem dX6_dropped_140 : decode cX6_dropped 140 = .ok (.goto (-45), 3) := by decide +kernel
theorem dX6_dropped_143 : decode cX6_dropped 143 = .ok (.iload 4, 2) := by decide +kernel
theorem dX6_dropped_145 : decode cX6_dropped 145 = .ok (.ireturn, 1) := by decide +kernel
set_option maxRecDepth 20000 in
theorem ggX6_owning_X6_outside : GoodIn wsX6_owning wsX6_outside := goodIn_r _ [9] (by decide +kernel) (by decide +kernel)
set_option maxRecDepth 20000 in
theorem gX6_owning_X6_outside : GoodIn wsX6_owning (va_wsS RX6 60 yX6_outside wsX6_outside) := goodIn_app (goodIn_of _ (by decide +kernel)) ggX6_owning_X6_outside
set_option maxRecDepth 20000 in
theorem ggX6_owning_X6_waysDown : GoodIn wsX6_owning wsX6_waysDown := goodIn_r _ [12, 2, 13, 14, 15, 16, 17, 18, 19, 20, 21, 22, 23, 24, 25, 26, 27, 28, 29, 30, 31, 32, 33, 34, 35, 10, 11, 8, 50, 51, 52, 53, 54, 55, 56, 57, 58, 59] (by decide +kernel) (by decide +kernel)
set_option maxRecDepth 20000 in
theorem gX6_owning_X6_waysDown : GoodIn wsX6_owning (va_wsS RX6 234 yX6_waysDown wsX6_waysDown) := goodIn_app (goodIn_of _ (by decide +kernel)) ggX6_owning_X6_waysDown
set_option maxRecDepth 20000 in
theorem ggX6_owning_X6_commonDivisor : GoodIn wsX6_owning wsX6_commonDivisor := goodIn_r _ [38, 39, 25, 26, 27] (by decide +kernel) (by decide +kernel)
set_option maxRecDepth 20000 in
theorem gX6_owning_X6_commonDivisor : GoodIn wsX6_owning (va_wsS RX6 238 yX6_commonDivisor wsX6_commonDivisor) := goodIn_app (goodIn_of _ (by decide +kernel)) ggX6_owning_X6_commonDivisor
theorem dX6_owning_0 : decode cX6_owning 0 = .ok (.aload_n 0, 1) := by decide +kernel
theorem dX6_owning_1 : decode cX6_owning 1 = .ok (.getfield 26, 3) := by decide +kernel
theorem dX6_owning_4 : decode cX6_owning 4 = .ok (.getfield 127, 3) := by decide +kernel
theorem dX6_owning_7 : decode cX6_owning 7 = .ok (.ifCond .ne 6, 3) := by decide +kernel
theorem dX6_owning_10 : decode cX6_owning 10 = .ok (.ldc 133, 2) := by decide +kernel
theorem dX6_owning_12 : decode cX6_owning 12 = .ok (.ireturn, 1) := by decide +kernel
theorem dX6_owning_13 : decode cX6_owning 13 = .ok (.iload_n 1, 1) := by decide +kernel
theorem dX6_owning_14 : decode cX6_owning 14 = .ok (.iconst 0, 1) := by decide +kernel
theorem dX6_owning_15 : decode cX6_owning 15 = .ok (.bipush 60, 2) := by decide +kernel
theorem dX6_owning_17 : decode cX6_owning 17 = .ok (.invokestatic 60, 3) := by decide +kernel
theorem dX6_owning_20 : decode cX6_owning 20 = .ok (.ifCond .ne 22, 3) := by decide +kernel
theorem dX6_owning_23 : decode cX6_owning 23 = .ok (.iload_n 2, 1) := by decide +kernel
theorem dX6_owning_24 : decode cX6_owning 24 = .ok (.iconst 0, 1) := by decide +kernel
theorem dX6_owning_25 : decode cX6_owning 25 = .ok (.bipush 10, 2) := by decide +kernel
theorem dX6_owning_27 : decode cX6_owning 27 = .ok (.invokestatic 60, 3) := by decide +kernel
theorem dX6_owning_30 : decode cX6_owning 30 = .ok (.ifCond .ne 12, 3) := by decide +kernel
theorem dX6_owning_33 : decode cX6_owning 33 = .ok (.iload_n 3, 1) := by decide +kernel
theorem dX6_owning_34 : decode cX6_owning 34 = .ok (.iconst 0, 1) := by decide +kernel
theorem dX6_owning_35 : decode cX6_owning 35 = .ok (.iconst 1, 1) := by decide +kernel
theorem dX6_owning_36 : decode cX6_owning 36 = .ok (.invokestatic 60, 3) := by decide +kernel
theorem dX6_owning_39 : decode cX6_owning 39 = .ok (.ifCond .eq 6, 3) := by decide +kernel
theorem dX6_owning_42 : decode cX6_owning 42 = .ok (.ldc 64, 2) := by decide +kernel
theorem dX6_owning_44 : decode cX6_owning 44 = .ok (.ireturn, 1) := by decide +kernel
theorem dX6_owning_45 : decode cX6_owning 45 = .ok (.iconst 1, 1) := by decide +kernel
theorem dX6_owning_46 : decode cX6_owning 46 = .ok (.istore 4, 2) := by decide +kernel
theorem dX6_owning_48 : decode cX6_owning 48 = .ok (.iconst 0, 1) := by decide +kernel
theorem dX6_owning_49 : decode cX6_owning 49 = .ok (.istore 5, 2) := by decide +kernel
theorem dX6_owning_51 : decode cX6_owning 51 = .ok (.iload 5, 2) := by decide +kernel
theorem dX6_owning_53 : decode cX6_owning 53 = .ok (.aload_n 0, 1) := by decide +kernel
theorem dX6_owning_54 : decode cX6_owning 54 = .ok (.getfield 26, 3) := by decide +kernel
theorem dX6_owning_57 : decode cX6_owning 57 = .ok (.getfield 127, 3) := by decide +kernel
theorem dX6_owning_60 : decode cX6_owning 60 = .ok (.if_icmp .ge 16, 3) := by decide +kernel
theorem dX6_owning_63 : decode cX6_owning 63 = .ok (.iload 4, 2) := by decide +kernel
theorem dX6_owning_65 : decode cX6_owning 65 = .ok (.bipush 10, 2) := by decide +kernel
theorem dX6_owning_67 : decode cX6_owning 67 = .ok (.imul, 1) := by decide +kernel
theorem dX6_owning_68 : decode cX6_owning 68 = .ok (.istore 4, 2) := by decide +kernel
theorem dX6_owning_70 : decode cX6_owning 70 = .ok (.iinc 5 1, 3) := by decide +kernel
theorem dX6_owning_73 : decode cX6_owning 73 = .ok (.goto (-22), 3) := by decide +kernel
theorem dX6_owning_76 : decode cX6_owning 76 = .ok (.aload_n 0, 1) := by decide +kernel
theorem dX6_owning_77 : decode cX6_owning 77 = .ok (.getfield 26, 3) := by decide +kernel
theorem dX6_owning_80 : decode cX6_owning 80 = .ok (.iconst 0, 1) := by decide +kernel
theorem dX6_owning_81 : decode cX6_owning 81 = .ok (.aload_n 0, 1) := by decide +kernel
theorem dX6_owning_82 : decode cX6_owning 82 = .ok (.getfield 26, 3) := by decide +kernel
theorem dX6_owning_85 : decode cX6_owning 85 = .ok (.getfield 143, 3) := by decide +kernel
theorem dX6_owning_88 : decode cX6_owning 88 = .ok (.iload_n 1, 1) := by decide +kernel
theorem dX6_owning_89 : decode cX6_owning 89 = .ok (.iload_n 2, 1) := by decide +kernel
theorem dX6_owning_90 : decode cX6_owning 90 = .ok (.invokestatic 234, 3) := by decide +kernel
theorem dX6_owning_93 : decode cX6_owning 93 = .ok (.istore 5, 2) := by decide +kernel
theorem dX6_owning_95 : decode cX6_owning 95 = .ok (.iload 5, 2) := by decide +kernel
theorem dX6_owning_97 : decode cX6_owning 97 = .ok (.iload 4, 2) := by decide +kernel
theorem dX6_owning_99 : decode cX6_owning 99 = .ok (.invokestatic 238, 3) := by decide +kernel
theorem dX6_owning_102 : decode cX6_owning 102 = .ok (.istore 6, 2) := by decide +kernel
theorem dX6_owning_104 : decode cX6_owning 104 = .ok (.iload_n 3, 1) := by decide +kernel
theorem dX6_owning_105 : decode cX6_owning 105 = .ok (.ifCond .ne 11, 3) := by decide +kernel
theorem dX6_owning_108 : decode cX6_owning 108 = .ok (.iload 5, 2) := by decide +kernel
theorem dX6_owning_110 : decode cX6_owning 110 = .ok (.iload 6, 2) := by decide +kernel
theorem dX6_owning_112 : decode cX6_owning 112 = .ok (.idiv, 1) := by decide +kernel
theorem dX6_owning_113 : decode cX6_owning 113 = .ok (.goto 8, 3) := by decide +kernel
theorem dX6_owning_116 : decode cX6_owning 116 = .ok (.iload 4, 2) := by decide +kernel
theorem dX6_owning_118 : decode cX6_owning 118 = .ok (.iload 6, 2) := by decide +kernel
theorem dX6_owning_120 : decode cX6_owning 120 = .ok (.idiv, 1) := by decide +kernel
theorem dX6_owning_121 : decode cX6_owning 121 = .ok (.ireturn, 1) := by decide +kernel
set_option maxRecDepth 20000 in
theorem ggX6_drawn_X6_outside : GoodIn wsX6_drawn wsX6_outside := goodIn_r _ [13] (by decide +kernel) (by decide +kernel)
set_option maxRecDepth 20000 in
theorem gX6_drawn_X6_outside : GoodIn wsX6_drawn (va_wsS RX6 60 yX6_outside wsX6_outside) := goodIn_app (goodIn_of _ (by decide +kernel)) ggX6_drawn_X6_outside
set_option maxRecDepth 20000 in
theorem ggX6_drawn_X6_foretell : GoodIn wsX6_drawn wsX6_foretell := goodIn_r _ [17, 6, 1, 18, 19, 20, 21, 22, 23, 24, 25, 26, 27, 28, 29, 30, 31, 32, 33, 34, 35, 36, 37, 38, 39, 40, 41, 42, 43, 44, 45, 46, 47, 48, 73, 74, 75, 76, 77, 78, 79, 80, 81, 82, 83, 84, 85, 86, 87, 88, 89, 90, 91, 92] (by decide +kernel) (by decide +kernel)
set_option maxRecDepth 20000 in
theorem gX6_drawn_X6_foretell : GoodIn wsX6_drawn (wsV RX6 187 RX6 yX6_foretell wsX6_foretell) := goodIn_app (goodIn_of _ (by decide +kernel)) ggX6_drawn_X6_foretell
set_option maxRecDepth 20000 in
theorem ggX6_drawn_X2_meet : GoodIn wsX6_drawn wsX2_meet := goodIn_r _ [52, 30, 31, 34, 53, 54, 55, 21, 56, 28, 57, 58, 59, 60, 23, 61, 62, 63, 64, 46, 47, 43, 48, 41, 42, 44, 65, 66, 67, 68, 33, 83, 84, 85, 86, 87, 88, 89, 90, 91, 92] (by decide +kernel) (by decide +kernel)
set_option maxRecDepth 20000 in
theorem gX6_drawn_X2_meet : GoodIn wsX6_drawn (wsV RX6 246 RX2 yX2_meet wsX2_meet) := goodIn_app (goodIn_of _ (by decide +kernel)) ggX6_drawn_X2_meet
set_option maxRecDepth 20000 in
theorem ggX6_drawn_X2_passHour : GoodIn wsX6_drawn wsX2_passHour := goodIn_r _ [40, 31, 29, 34, 41, 42, 43, 44, 45, 36, 35, 30, 32, 46, 47, 48, 33, 83, 84, 85, 86, 87, 88, 89, 90, 91, 92] (by decide +kernel) (by decide +kernel)
set_option maxRecDepth 20000 in
theorem gX6_drawn_X2_passHour : GoodIn wsX6_drawn (wsV RX6 140 RX2 yX2_passHour wsX2_passHour) := goodIn_app (goodIn_of _ (by decide +kernel)) ggX6_drawn_X2_passHour
set_option maxRecDepth 20000 in
theorem ggX6_drawn_X2_allBare : GoodIn wsX6_drawn wsX2_allBare := goodIn_r _ [72, 30, 29, 83, 84, 85, 86, 87, 88, 89, 90, 91, 92] (by decide +kernel) (by decide +kernel)
set_option maxRecDepth 20000 in
theorem gX6_drawn_X2_allBare : GoodIn wsX6_drawn (wsV RX6 249 RX2 yX2_allBare wsX2_allBare) := goodIn_app (goodIn_of _ (by decide +kernel)) ggX6_drawn_X2_allBare
theorem dX6_drawn_0 : decode cX6_drawn 0 = .ok (.aload_n 0, 1) := by decide +kernel
theorem dX6_drawn_1 : decode cX6_drawn 1 = .ok (.getfield 26, 3) := by decide +kernel
theorem dX6_drawn_4 : decode cX6_drawn 4 = .ok (.getfield 127, 3) := by decide +kernel
theorem dX6_drawn_7 : decode cX6_drawn 7 = .ok (.ifCond .ne 6, 3) := by decide +kernel
theorem dX6_drawn_10 : decode cX6_drawn 10 = .ok (.ldc 133, 2) := by decide +kernel
theorem dX6_drawn_12 : decode cX6_drawn 12 = .ok (.ireturn, 1) := by decide +kernel
theorem dX6_drawn_13 : decode cX6_drawn 13 = .ok (.iload_n 1, 1) := by decide +kernel
theorem dX6_drawn_14 : decode cX6_drawn 14 = .ok (.iconst 0, 1) := by decide +kernel
theorem dX6_drawn_15 : decode cX6_drawn 15 = .ok (.bipush 60, 2) := by decide +kernel
theorem dX6_drawn_17 : decode cX6_drawn 17 = .ok (.invokestatic 60, 3) := by decide +kernel
theorem dX6_drawn_20 : decode cX6_drawn 20 = .ok (.ifCond .ne 22, 3) := by decide +kernel
theorem dX6_drawn_23 : decode cX6_drawn 23 = .ok (.iload_n 2, 1) := by decide +kernel
theorem dX6_drawn_24 : decode cX6_drawn 24 = .ok (.iconst 1, 1) := by decide +kernel
theorem dX6_drawn_25 : decode cX6_drawn 25 = .ok (.ldc 241, 2) := by decide +kernel
theorem dX6_drawn_27 : decode cX6_drawn 27 = .ok (.invokestatic 60, 3) := by decide +kernel
theorem dX6_drawn_30 : decode cX6_drawn 30 = .ok (.ifCond .ne 12, 3) := by decide +kernel
theorem dX6_drawn_33 : decode cX6_drawn 33 = .ok (.iload_n 3, 1) := by decide +kernel
theorem dX6_drawn_34 : decode cX6_drawn 34 = .ok (.iconst 0, 1) := by decide +kernel
theorem dX6_drawn_35 : decode cX6_drawn 35 = .ok (.iconst 1, 1) := by decide +kernel
theorem dX6_drawn_36 : decode cX6_drawn 36 = .ok (.invokestatic 60, 3) := by decide +kernel
theorem dX6_drawn_39 : decode cX6_drawn 39 = .ok (.ifCond .eq 6, 3) := by decide +kernel
theorem dX6_drawn_42 : decode cX6_drawn 42 = .ok (.ldc 64, 2) := by decide +kernel
theorem dX6_drawn_44 : decode cX6_drawn 44 = .ok (.ireturn, 1) := by decide +kernel
theorem dX6_drawn_45 : decode cX6_drawn 45 = .ok (.aload_n 0, 1) := by decide +kernel
theorem dX6_drawn_46 : decode cX6_drawn 46 = .ok (.iconst 0, 1) := by decide +kernel
theorem dX6_drawn_47 : decode cX6_drawn 47 = .ok (.invokevirtual 187, 3) := by decide +kernel
theorem dX6_drawn_50 : decode cX6_drawn 50 = .ok (.aload_n 0, 1) := by decide +kernel
theorem dX6_drawn_51 : decode cX6_drawn 51 = .ok (.getfield 30, 3) := by decide +kernel
theorem dX6_drawn_54 : decode cX6_drawn 54 = .ok (.iconst 0, 1) := by decide +kernel
theorem dX6_drawn_55 : decode cX6_drawn 55 = .ok (.putfield 190, 3) := by decide +kernel
theorem dX6_drawn_58 : decode cX6_drawn 58 = .ok (.iload_n 2, 1) := by decide +kernel
theorem dX6_drawn_59 : decode cX6_drawn 59 = .ok (.i2l, 1) := by decide +kernel
theorem dX6_drawn_60 : decode cX6_drawn 60 = .ok (.lstore 4, 2) := by decide +kernel
theorem dX6_drawn_62 : decode cX6_drawn 62 = .ok (.iconst 0, 1) := by decide +kernel
theorem dX6_drawn_63 : decode cX6_drawn 63 = .ok (.istore 6, 2) := by decide +kernel
theorem dX6_drawn_65 : decode cX6_drawn 65 = .ok (.iload 6, 2) := by decide +kernel
theorem dX6_drawn_67 : decode cX6_drawn 67 = .ok (.iload_n 1, 1) := by decide +kernel
theorem dX6_drawn_68 : decode cX6_drawn 68 = .ok (.if_icmp .ge 38, 3) := by decide +kernel
theorem dX6_drawn_71 : decode cX6_drawn 71 = .ok (.lload 4, 2) := by decide +kernel
theorem dX6_drawn_73 : decode cX6_drawn 73 = .ok (.ldc2_w 242, 3) := by decide +kernel
theorem dX6_drawn_76 : decode cX6_drawn 76 = .ok (.lmul, 1) := by decide +kernel
theorem dX6_drawn_77 : decode cX6_drawn 77 = .ok (.ldc2_w 244, 3) := by decide +kernel
theorem dX6_drawn_80 : decode cX6_drawn 80 = .ok (.lrem, 1) := by decide +kernel
theorem dX6_drawn_81 : decode cX6_drawn 81 = .ok (.lstore 4, 2) := by decide +kernel
theorem dX6_drawn_83 : decode cX6_drawn 83 = .ok (.aload_n 0, 1) := by decide +kernel
theorem dX6_drawn_84 : decode cX6_drawn 84 = .ok (.getfield 30, 3) := by decide +kernel
theorem dX6_drawn_87 : decode cX6_drawn 87 = .ok (.lload 4, 2) := by decide +kernel
theorem dX6_drawn_89 : decode cX6_drawn 89 = .ok (.l2i, 1) := by decide +kernel
theorem dX6_drawn_90 : decode cX6_drawn 90 = .ok (.invokevirtual 246, 3) := by decide +kernel
theorem dX6_drawn_93 : decode cX6_drawn 93 = .ok (.aload_n 0, 1) := by decide +kernel
theorem dX6_drawn_94 : decode cX6_drawn 94 = .ok (.getfield 30, 3) := by decide +kernel
theorem dX6_drawn_97 : decode cX6_drawn 97 = .ok (.invokevirtual 140, 3) := by decide +kernel
theorem dX6_drawn_100 : decode cX6_drawn 100 = .ok (.iinc 6 1, 3) := by decide +kernel
theorem dX6_drawn_103 : decode cX6_drawn 103 = .ok (.goto (-38), 3) := by decide +kernel
theorem dX6_drawn_106 : decode cX6_drawn 106 = .ok (.iload_n 3, 1) := by decide +kernel
theorem dX6_drawn_107 : decode cX6_drawn 107 = .ok (.ifCond .ne 13, 3) := by decide +kernel
theorem dX6_drawn_110 : decode cX6_drawn 110 = .ok (.aload_n 0, 1) := by decide +kernel
theorem dX6_drawn_111 : decode cX6_drawn 111 = .ok (.getfield 30, 3) := by decide +kernel
theorem dX6_drawn_114 : decode cX6_drawn 114 = .ok (.getfield 190, 3) := by decide +kernel
theorem dX6_drawn_117 : decode cX6_drawn 117 = .ok (.goto 10, 3) := by decide +kernel
theorem dX6_drawn_120 : decode cX6_drawn 120 = .ok (.aload_n 0, 1) := by decide +kernel
theorem dX6_drawn_121 : decode cX6_drawn 121 = .ok (.getfield 30, 3) := by decide +kernel
theorem dX6_drawn_124 : decode cX6_drawn 124 = .ok (.invokevirtual 249, 3) := by decide +kernel
theorem dX6_drawn_127 : decode cX6_drawn 127 = .ok (.ireturn, 1) := by decide +kernel
set_option maxRecDepth 20000 in
theorem ggX6_image_X6_outside : GoodIn wsX6_image wsX6_outside := goodIn_r _ [8] (by decide +kernel) (by decide +kernel)
set_option maxRecDepth 20000 in
theorem gX6_image_X6_outside : GoodIn wsX6_image (va_wsS RX6 60 yX6_outside wsX6_outside) := goodIn_app (goodIn_of _ (by decide +kernel)) ggX6_image_X6_outside
set_option maxRecDepth 20000 in
theorem ggX6_image_X6_imageOf : GoodIn wsX6_image wsX6_imageOf := goodIn_r _ [12, 13, 14, 34, 35, 36, 37, 38, 39, 40, 41, 42, 43] (by decide +kernel) (by decide +kernel)
set_option maxRecDepth 20000 in
theorem gX6_image_X6_imageOf : GoodIn wsX6_image (wsV RX6 252 RX6 yX6_imageOf wsX6_imageOf) := goodIn_app (goodIn_of _ (by decide +kernel)) ggX6_image_X6_imageOf
set_option maxRecDepth 20000 in
theorem ggX6_image_X2_take : GoodIn wsX6_image wsX2_take := goodIn_r _ [19, 20, 21, 22, 23, 24, 25, 26, 27, 28, 29, 30, 31, 32, 33, 44, 45, 46, 47, 48, 49, 50, 51, 52, 53] (by decide +kernel) (by decide +kernel)
set_option maxRecDepth 20000 in
theorem gX6_image_X2_take : GoodIn wsX6_image (wsV RX6 120 RX2 yX2_take wsX2_take) := goodIn_app (goodIn_of _ (by decide +kernel)) ggX6_image_X2_take
theorem dX6_image_0 : decode cX6_image 0 = .ok (.iload_n 1, 1) := by decide +kernel
theorem dX6_image_1 : decode cX6_image 1 = .ok (.iconst 0, 1) := by decide +kernel
theorem dX6_image_2 : decode cX6_image 2 = .ok (.iconst 1, 1) := by decide +kernel
theorem dX6_image_3 : decode cX6_image 3 = .ok (.invokestatic 60, 3) := by decide +kernel
theorem dX6_image_6 : decode cX6_image 6 = .ok (.ifCond .eq 6, 3) := by decide +kernel
theorem dX6_image_9 : decode cX6_image 9 = .ok (.ldc 64, 2) := by decide +kernel
theorem dX6_image_11 : decode cX6_image 11 = .ok (.ireturn, 1) := by decide +kernel
theorem dX6_image_12 : decode cX6_image 12 = .ok (.aload_n 0, 1) := by decide +kernel
theorem dX6_image_13 : decode cX6_image 13 = .ok (.getfield 26, 3) := by decide +kernel
theorem dX6_image_16 : decode cX6_image 16 = .ok (.getfield 127, 3) := by decide +kernel
theorem dX6_image_19 : decode cX6_image 19 = .ok (.ifCond .ne 6, 3) := by decide +kernel
theorem dX6_image_22 : decode cX6_image 22 = .ok (.ldc 133, 2) := by decide +kernel
theorem dX6_image_24 : decode cX6_image 24 = .ok (.ireturn, 1) := by decide +kernel
theorem dX6_image_25 : decode cX6_image 25 = .ok (.aload_n 0, 1) := by decide +kernel
theorem dX6_image_26 : decode cX6_image 26 = .ok (.iload_n 1, 1) := by decide +kernel
theorem dX6_image_27 : decode cX6_image 27 = .ok (.invokevirtual 252, 3) := by decide +kernel
theorem dX6_image_30 : decode cX6_image 30 = .ok (.aload_n 0, 1) := by decide +kernel
theorem dX6_image_31 : decode cX6_image 31 = .ok (.getfield 26, 3) := by decide +kernel
theorem dX6_image_34 : decode cX6_image 34 = .ok (.invokevirtual 120, 3) := by decide +kernel
theorem dX6_image_37 : decode cX6_image 37 = .ok (.iconst 1, 1) := by decide +kernel
theorem dX6_image_38 : decode cX6_image 38 = .ok (.ireturn, 1) := by decide +kernel
set_option maxRecDepth 20000 in
theorem ggX6_restore_X6_outside : GoodIn wsX6_restore wsX6_outside := goodIn_r _ [9] (by decide +kernel) (by decide +kernel)
set_option maxRecDepth 20000 in
theorem gX6_restore_X6_outside : GoodIn wsX6_restore (va_wsS RX6 60 yX6_outside wsX6_outside) := goodIn_app (goodIn_of _ (by decide +kernel)) ggX6_restore_X6_outside
set_option maxRecDepth 20000 in
theorem ggX6_restore_X6_imageOf : GoodIn wsX6_restore wsX6_imageOf := goodIn_r _ [13, 14, 15, 51, 52, 53, 54, 55, 56, 57, 58, 59, 60] (by decide +kernel) (by decide +kernel)
set_option maxRecDepth 20000 in
theorem gX6_restore_X6_imageOf : GoodIn wsX6_restore (wsV RX6 252 RX6 yX6_imageOf wsX6_imageOf) := goodIn_app (goodIn_of _ (by decide +kernel)) ggX6_restore_X6_imageOf
set_option maxRecDepth 20000 in
theorem ggX6_restore_X2_take : GoodIn wsX6_restore wsX2_take := goodIn_r _ [20, 21, 22, 23, 24, 25, 26, 27, 28, 29, 30, 31, 32, 33, 34, 41, 42, 43, 44, 45, 46, 47, 48, 49, 50] (by decide +kernel) (by decide +kernel)
set_option maxRecDepth 20000 in
theorem gX6_restore_X2_take : GoodIn wsX6_restore (wsV RX6 120 RX2 yX2_take wsX2_take) := goodIn_app (goodIn_of _ (by decide +kernel)) ggX6_restore_X2_take
set_option maxRecDepth 20000 in
theorem ggX6_restore_X0_forget : GoodIn wsX6_restore wsX0_forget := goodIn_r _ [39, 40, 61, 62, 63] (by decide +kernel) (by decide +kernel)
set_option maxRecDepth 20000 in
theorem gX6_restore_X0_forget : GoodIn wsX6_restore (wsV RX6 124 RX0 yX0_forget wsX0_forget) := goodIn_app (goodIn_of _ (by decide +kernel)) ggX6_restore_X0_forget
theorem dX6_restore_0 : decode cX6_restore 0 = .ok (.iload_n 1, 1) := by decide +kernel
theorem dX6_restore_1 : decode cX6_restore 1 = .ok (.iconst 0, 1) := by decide +kernel
theorem dX6_restore_2 : decode cX6_restore 2 = .ok (.iconst 1, 1) := by decide +kernel
theorem dX6_restore_3 : decode cX6_restore 3 = .ok (.invokestatic 60, 3) := by decide +kernel
theorem dX6_restore_6 : decode cX6_restore 6 = .ok (.ifCond .eq 6, 3) := by decide +kernel
theorem dX6_restore_9 : decode cX6_restore 9 = .ok (.ldc 64, 2) := by decide +kernel
theorem dX6_restore_11 : decode cX6_restore 11 = .ok (.ireturn, 1) := by decide +kernel
theorem dX6_restore_12 : decode cX6_restore 12 = .ok (.aload_n 0, 1) := by decide +kernel
theorem dX6_restore_13 : decode cX6_restore 13 = .ok (.iload_n 1, 1) := by decide +kernel
theorem dX6_restore_14 : decode cX6_restore 14 = .ok (.invokevirtual 252, 3) := by decide +kernel
theorem dX6_restore_17 : decode cX6_restore 17 = .ok (.getfield 127, 3) := by decide +kernel
theorem dX6_restore_20 : decode cX6_restore 20 = .ok (.ifCond .ne 6, 3) := by decide +kernel
theorem dX6_restore_23 : decode cX6_restore 23 = .ok (.ldc 133, 2) := by decide +kernel
theorem dX6_restore_25 : decode cX6_restore 25 = .ok (.ireturn, 1) := by decide +kernel
theorem dX6_restore_26 : decode cX6_restore 26 = .ok (.aload_n 0, 1) := by decide +kernel
theorem dX6_restore_27 : decode cX6_restore 27 = .ok (.getfield 26, 3) := by decide +kernel
theorem dX6_restore_30 : decode cX6_restore 30 = .ok (.aload_n 0, 1) := by decide +kernel
theorem dX6_restore_31 : decode cX6_restore 31 = .ok (.iload_n 1, 1) := by decide +kernel
theorem dX6_restore_32 : decode cX6_restore 32 = .ok (.invokevirtual 252, 3) := by decide +kernel
theorem dX6_restore_35 : decode cX6_restore 35 = .ok (.invokevirtual 120, 3) := by decide +kernel
theorem dX6_restore_38 : decode cX6_restore 38 = .ok (.aload_n 0, 1) := by decide +kernel
theorem dX6_restore_39 : decode cX6_restore 39 = .ok (.getfield 42, 3) := by decide +kernel
theorem dX6_restore_42 : decode cX6_restore 42 = .ok (.invokevirtual 124, 3) := by decide +kernel
theorem dX6_restore_45 : decode cX6_restore 45 = .ok (.iconst 1, 1) := by decide +kernel
theorem dX6_restore_46 : decode cX6_restore 46 = .ok (.ireturn, 1) := by decide +kernel
set_option maxRecDepth 20000 in
theorem ggX6_kind_X6_noSoul : GoodIn wsX6_kind wsX6_noSoul := goodIn_r _ [8, 2, 9, 10, 11, 7, 12, 13, 14, 15, 16, 17, 18, 19, 20, 21, 22, 23, 24, 25, 26, 27, 28, 29, 30, 31, 32] (by decide +kernel) (by decide +kernel)
set_option maxRecDepth 20000 in
theorem gX6_kind_X6_noSoul : GoodIn wsX6_kind (wsV RX6 146 RX6 yX6_noSoul wsX6_noSoul) := goodIn_app (goodIn_of _ (by decide +kernel)) ggX6_kind_X6_noSoul
theorem dX6_kind_0 : decode cX6_kind 0 = .ok (.aload_n 0, 1) := by decide +kernel
theorem dX6_kind_1 : decode cX6_kind 1 = .ok (.iload_n 1, 1) := by decide +kernel
theorem dX6_kind_2 : decode cX6_kind 2 = .ok (.invokevirtual 146, 3) := by decide +kernel
theorem dX6_kind_5 : decode cX6_kind 5 = .ok (.ifCond .eq 8, 3) := by decide +kernel
theorem dX6_kind_8 : decode cX6_kind 8 = .ok (.ldc 64, 2) := by decide +kernel
theorem dX6_kind_10 : decode cX6_kind 10 = .ok (.goto 12, 3) := by decide +kernel
theorem dX6_kind_13 : decode cX6_kind 13 = .ok (.aload_n 0, 1) := by decide +kernel
theorem dX6_kind_14 : decode cX6_kind 14 = .ok (.getfield 26, 3) := by decide +kernel
theorem dX6_kind_17 : decode cX6_kind 17 = .ok (.getfield 177, 3) := by decide +kernel
theorem dX6_kind_20 : decode cX6_kind 20 = .ok (.iload_n 1, 1) := by decide +kernel
theorem dX6_kind_21 : decode cX6_kind 21 = .ok (.iaload, 1) := by decide +kernel
theorem dX6_kind_22 : decode cX6_kind 22 = .ok (.ireturn, 1) := by decide +kernel
set_option maxRecDepth 20000 in
theorem ggX6_as_X6_noSoul : GoodIn wsX6_as wsX6_noSoul := goodIn_r _ [8, 2, 9, 10, 11, 7, 12, 29, 30, 31, 32, 33, 34, 35, 36, 37, 38, 39, 40, 41, 42, 43, 44, 45, 46, 47, 48] (by decide +kernel) (by decide +kernel)
set_option maxRecDepth 20000 in
theorem gX6_as_X6_noSoul : GoodIn wsX6_as (wsV RX6 146 RX6 yX6_noSoul wsX6_noSoul) := goodIn_app (goodIn_of _ (by decide +kernel)) ggX6_as_X6_noSoul
set_option maxRecDepth 20000 in
theorem ggX6_as_X6_outside : GoodIn wsX6_as wsX6_outside := goodIn_r _ [12] (by decide +kernel) (by decide +kernel)
set_option maxRecDepth 20000 in
theorem gX6_as_X6_outside : GoodIn wsX6_as (va_wsS RX6 60 yX6_outside wsX6_outside) := goodIn_app (goodIn_of _ (by decide +kernel)) ggX6_as_X6_outside
set_option maxRecDepth 20000 in
theorem ggX6_as_X6_isOne : GoodIn wsX6_as wsX6_isOne := goodIn_r _ [15, 16, 17, 7, 18] (by decide +kernel) (by decide +kernel)
set_option maxRecDepth 20000 in
theorem gX6_as_X6_isOne : GoodIn wsX6_as (va_wsS RX6 256 yX6_isOne wsX6_isOne) := goodIn_app (goodIn_of _ (by decide +kernel)) ggX6_as_X6_isOne
set_option maxRecDepth 20000 in
theorem ggX6_as_X6_fine : GoodIn wsX6_as wsX6_fine := goodIn_r _ [22, 23, 29, 30, 31, 32, 33, 34, 35, 36, 37, 38] (by decide +kernel) (by decide +kernel)
set_option maxRecDepth 20000 in
theorem gX6_as_X6_fine : GoodIn wsX6_as (wsV RX6 73 RX6 yX6_fine wsX6_fine) := goodIn_app (goodIn_of _ (by decide +kernel)) ggX6_as_X6_fine
set_option maxRecDepth 20000 in
theorem ggX6_as_X6_found : GoodIn wsX6_as wsX6_found := goodIn_r _ [27, 23, 28, 29, 30, 31, 32, 33, 34, 35, 36, 37, 38] (by decide +kernel) (by decide +kernel)
set_option maxRecDepth 20000 in
theorem gX6_as_X6_found : GoodIn wsX6_as (wsV RX6 65 RX6 yX6_found wsX6_found) := goodIn_app (goodIn_of _ (by decide +kernel)) ggX6_as_X6_found
theorem dX6_as_0 : decode cX6_as 0 = .ok (.aload_n 0, 1) := by decide +kernel
theorem dX6_as_1 : decode cX6_as 1 = .ok (.iload_n 1, 1) := by decide +kernel
theorem dX6_as_2 : decode cX6_as 2 = .ok (.invokevirtual 146, 3) := by decide +kernel
theorem dX6_as_5 : decode cX6_as 5 = .ok (.ifCond .ne 12, 3) := by decide +kernel
theorem dX6_as_8 : decode cX6_as 8 = .ok (.iload_n 2, 1) := by decide +kernel
theorem dX6_as_9 : decode cX6_as 9 = .ok (.iconst 0, 1) := by decide +kernel
theorem dX6_as_10 : decode cX6_as 10 = .ok (.iconst 5, 1) := by decide +kernel
theorem dX6_as_11 : decode cX6_as 11 = .ok (.invokestatic 60, 3) := by decide +kernel
theorem dX6_as_14 : decode cX6_as 14 = .ok (.ifCond .eq 6, 3) := by decide +kernel
theorem dX6_as_17 : decode cX6_as 17 = .ok (.ldc 64, 2) := by decide +kernel
theorem dX6_as_19 : decode cX6_as 19 = .ok (.ireturn, 1) := by decide +kernel
theorem dX6_as_20 : decode cX6_as 20 = .ok (.aload_n 0, 1) := by decide +kernel
theorem dX6_as_21 : decode cX6_as 21 = .ok (.getfield 26, 3) := by decide +kernel
theorem dX6_as_24 : decode cX6_as 24 = .ok (.getfield 177, 3) := by decide +kernel
theorem dX6_as_27 : decode cX6_as 27 = .ok (.iload_n 1, 1) := by decide +kernel
theorem dX6_as_28 : decode cX6_as 28 = .ok (.iaload, 1) := by decide +kernel
theorem dX6_as_29 : decode cX6_as 29 = .ok (.iload_n 2, 1) := by decide +kernel
theorem dX6_as_30 : decode cX6_as 30 = .ok (.invokestatic 256, 3) := by decide +kernel
theorem dX6_as_33 : decode cX6_as 33 = .ok (.ifCond .eq 11, 3) := by decide +kernel
theorem dX6_as_36 : decode cX6_as 36 = .ok (.aload_n 0, 1) := by decide +kernel
theorem dX6_as_37 : decode cX6_as 37 = .ok (.iload_n 1, 1) := by decide +kernel
theorem dX6_as_38 : decode cX6_as 38 = .ok (.invokevirtual 73, 3) := by decide +kernel
theorem dX6_as_41 : decode cX6_as 41 = .ok (.goto 8, 3) := by decide +kernel
theorem dX6_as_44 : decode cX6_as 44 = .ok (.aload_n 0, 1) := by decide +kernel
theorem dX6_as_45 : decode cX6_as 45 = .ok (.iconst 3, 1) := by decide +kernel
theorem dX6_as_46 : decode cX6_as 46 = .ok (.invokevirtual 65, 3) := by decide +kernel
theorem dX6_as_49 : decode cX6_as 49 = .ok (.ireturn, 1) := by decide +kernel
set_option maxRecDepth 20000 in
theorem ggX6_ask_X6_noSoul : GoodIn wsX6_ask wsX6_noSoul := goodIn_r _ [8, 3, 9, 10, 11, 7, 12, 37, 38, 39, 40, 41, 42, 43, 44, 45, 46, 47, 48, 49, 50, 51, 52, 53, 54, 55, 56] (by decide +kernel) (by decide +kernel)
set_option maxRecDepth 20000 in
theorem gX6_ask_X6_noSoul : GoodIn wsX6_ask (wsV RX6 146 RX6 yX6_noSoul wsX6_noSoul) := goodIn_app (goodIn_of _ (by decide +kernel)) ggX6_ask_X6_noSoul
set_option maxRecDepth 20000 in
theorem ggX6_ask_X6_outside : GoodIn wsX6_ask wsX6_outside := goodIn_r _ [12] (by decide +kernel) (by decide +kernel)
set_option maxRecDepth 20000 in
theorem gX6_ask_X6_outside : GoodIn wsX6_ask (va_wsS RX6 60 yX6_outside wsX6_outside) := goodIn_app (goodIn_of _ (by decide +kernel)) ggX6_ask_X6_outside
set_option maxRecDepth 20000 in
theorem ggX6_ask_X1_answer : GoodIn wsX6_ask wsX1_answer := goodIn_r _ [17, 18, 19, 20, 21, 16, 22, 23, 24, 25, 26, 27, 28, 29, 30, 31, 32, 33, 34, 35, 36, 57, 58, 47, 48, 49, 50, 51, 52, 53, 54, 55, 56] (by decide +kernel) (by decide +kernel)
set_option maxRecDepth 20000 in
theorem gX6_ask_X1_answer : GoodIn wsX6_ask (wsV RX6 260 RX1 yX1_answer wsX1_answer) := goodIn_app (goodIn_of _ (by decide +kernel)) ggX6_ask_X1_answer
theorem dX6_ask_0 : decode cX6_ask 0 = .ok (.aload_n 0, 1) := by decide +kernel
theorem dX6_ask_1 : decode cX6_ask 1 = .ok (.iload_n 1, 1) := by decide +kernel
theorem dX6_ask_2 : decode cX6_ask 2 = .ok (.invokevirtual 146, 3) := by decide +kernel
theorem dX6_ask_5 : decode cX6_ask 5 = .ok (.ifCond .ne 12, 3) := by decide +kernel
theorem dX6_ask_8 : decode cX6_ask 8 = .ok (.iload_n 2, 1) := by decide +kernel
theorem dX6_ask_9 : decode cX6_ask 9 = .ok (.iconst 0, 1) := by decide +kernel
theorem dX6_ask_10 : decode cX6_ask 10 = .ok (.iconst 1, 1) := by decide +kernel
theorem dX6_ask_11 : decode cX6_ask 11 = .ok (.invokestatic 60, 3) := by decide +kernel
theorem dX6_ask_14 : decode cX6_ask 14 = .ok (.ifCond .eq 6, 3) := by decide +kernel
theorem dX6_ask_17 : decode cX6_ask 17 = .ok (.ldc 64, 2) := by decide +kernel
theorem dX6_ask_19 : decode cX6_ask 19 = .ok (.ireturn, 1) := by decide +kernel
theorem dX6_ask_20 : decode cX6_ask 20 = .ok (.aload_n 0, 1) := by decide +kernel
theorem dX6_ask_21 : decode cX6_ask 21 = .ok (.getfield 56, 3) := by decide +kernel
theorem dX6_ask_24 : decode cX6_ask 24 = .ok (.aload_n 0, 1) := by decide +kernel
theorem dX6_ask_25 : decode cX6_ask 25 = .ok (.getfield 26, 3) := by decide +kernel
theorem dX6_ask_28 : decode cX6_ask 28 = .ok (.iload_n 1, 1) := by decide +kernel
theorem dX6_ask_29 : decode cX6_ask 29 = .ok (.iload_n 2, 1) := by decide +kernel
theorem dX6_ask_30 : decode cX6_ask 30 = .ok (.invokevirtual 260, 3) := by decide +kernel
theorem dX6_ask_33 : decode cX6_ask 33 = .ok (.ireturn, 1) := by decide +kernel
set_option maxRecDepth 20000 in
theorem ggX6_trace_X6_outside : GoodIn wsX6_trace wsX6_outside := goodIn_r _ [8] (by decide +kernel) (by decide +kernel)
set_option maxRecDepth 20000 in
theorem gX6_trace_X6_outside : GoodIn wsX6_trace (va_wsS RX6 60 yX6_outside wsX6_outside) := goodIn_app (goodIn_of _ (by decide +kernel)) ggX6_trace_X6_outside
theorem dX6_trace_0 : decode cX6_trace 0 = .ok (.iload_n 1, 1) := by decide +kernel
theorem dX6_trace_1 : decode cX6_trace 1 = .ok (.iconst 0, 1) := by decide +kernel
theorem dX6_trace_2 : decode cX6_trace 2 = .ok (.aload_n 0, 1) := by decide +kernel
theorem dX6_trace_3 : decode cX6_trace 3 = .ok (.getfield 56, 3) := by decide +kernel
theorem dX6_trace_6 : decode cX6_trace 6 = .ok (.getfield 264, 3) := by decide +kernel
theorem dX6_trace_9 : decode cX6_trace 9 = .ok (.iconst 1, 1) := by decide +kernel
theorem dX6_trace_10 : decode cX6_trace 10 = .ok (.isub, 1) := by decide +kernel
theorem dX6_trace_11 : decode cX6_trace 11 = .ok (.invokestatic 60, 3) := by decide +kernel
theorem dX6_trace_14 : decode cX6_trace 14 = .ok (.ifCond .eq 8, 3) := by decide +kernel
theorem dX6_trace_17 : decode cX6_trace 17 = .ok (.ldc 193, 2) := by decide +kernel
theorem dX6_trace_19 : decode cX6_trace 19 = .ok (.goto 12, 3) := by decide +kernel
theorem dX6_trace_22 : decode cX6_trace 22 = .ok (.aload_n 0, 1) := by decide +kernel
theorem dX6_trace_23 : decode cX6_trace 23 = .ok (.getfield 56, 3) := by decide +kernel
theorem dX6_trace_26 : decode cX6_trace 26 = .ok (.getfield 267, 3) := by decide +kernel
theorem dX6_trace_29 : decode cX6_trace 29 = .ok (.iload_n 1, 1) := by decide +kernel
theorem dX6_trace_30 : decode cX6_trace 30 = .ok (.iaload, 1) := by decide +kernel
theorem dX6_trace_31 : decode cX6_trace 31 = .ok (.ireturn, 1) := by decide +kernel
set_option maxRecDepth 20000 in
theorem ggX6_count_X4_many : GoodIn wsX6_count wsX4_many := goodIn_r _ [19, 20, 48, 49, 50, 51] (by decide +kernel) (by decide +kernel)
set_option maxRecDepth 20000 in
theorem gX6_count_X4_many : GoodIn wsX6_count (wsV RX6 270 RX4 yX4_many wsX4_many) := goodIn_app (goodIn_of _ (by decide +kernel)) ggX6_count_X4_many
theorem dX6_count_0 : decode cX6_count 0 = .ok (.iload_n 1, 1) := by decide +kernel
theorem dX6_count_1 : decode cX6_count 1 = .ok (.tableswitch 135 0 9 #[55, 63, 71, 79, 87, 95, 103, 111, 119, 127], 55) := by decide +kernel
theorem dX6_count_56 : decode cX6_count 56 = .ok (.aload_n 0, 1) := by decide +kernel
theorem dX6_count_57 : decode cX6_count 57 = .ok (.getfield 10, 3) := by decide +kernel
theorem dX6_count_60 : decode cX6_count 60 = .ok (.invokevirtual 270, 3) := by decide +kernel
theorem dX6_count_63 : decode cX6_count 63 = .ok (.ireturn, 1) := by decide +kernel
theorem dX6_count_64 : decode cX6_count 64 = .ok (.aload_n 0, 1) := by decide +kernel
theorem dX6_count_65 : decode cX6_count 65 = .ok (.getfield 26, 3) := by decide +kernel
theorem dX6_count_68 : decode cX6_count 68 = .ok (.getfield 127, 3) := by decide +kernel
theorem dX6_count_71 : decode cX6_count 71 = .ok (.ireturn, 1) := by decide +kernel
theorem dX6_count_72 : decode cX6_count 72 = .ok (.aload_n 0, 1) := by decide +kernel
theorem dX6_count_73 : decode cX6_count 73 = .ok (.getfield 26, 3) := by decide +kernel
theorem dX6_count_76 : decode cX6_count 76 = .ok (.getfield 134, 3) := by decide +kernel
theorem dX6_count_79 : decode cX6_count 79 = .ok (.ireturn, 1) := by decide +kernel
theorem dX6_count_80 : decode cX6_count 80 = .ok (.aload_n 0, 1) := by decide +kernel
theorem dX6_count_81 : decode cX6_count 81 = .ok (.getfield 26, 3) := by decide +kernel
theorem dX6_count_84 : decode cX6_count 84 = .ok (.getfield 143, 3) := by decide +kernel
theorem dX6_count_87 : decode cX6_count 87 = .ok (.ireturn, 1) := by decide +kernel
theorem dX6_count_88 : decode cX6_count 88 = .ok (.aload_n 0, 1) := by decide +kernel
theorem dX6_count_89 : decode cX6_count 89 = .ok (.getfield 26, 3) := by decide +kernel
theorem dX6_count_92 : decode cX6_count 92 = .ok (.getfield 162, 3) := by decide +kernel
theorem dX6_count_95 : decode cX6_count 95 = .ok (.ireturn, 1) := by decide +kernel
theorem dX6_count_96 : decode cX6_count 96 = .ok (.aload_n 0, 1) := by decide +kernel
theorem dX6_count_97 : decode cX6_count 97 = .ok (.getfield 26, 3) := by decide +kernel
theorem dX6_count_100 : decode cX6_count 100 = .ok (.getfield 165, 3) := by decide +kernel
theorem dX6_count_103 : decode cX6_count 103 = .ok (.ireturn, 1) := by decide +kernel
theorem dX6_count_104 : decode cX6_count 104 = .ok (.aload_n 0, 1) := by decide +kernel
theorem dX6_count_105 : decode cX6_count 105 = .ok (.getfield 26, 3) := by decide +kernel
theorem dX6_count_108 : decode cX6_count 108 = .ok (.getfield 272, 3) := by decide +kernel
theorem dX6_count_111 : decode cX6_count 111 = .ok (.ireturn, 1) := by decide +kernel
theorem dX6_count_112 : decode cX6_count 112 = .ok (.aload_n 0, 1) := by decide +kernel
theorem dX6_count_113 : decode cX6_count 113 = .ok (.getfield 26, 3) := by decide +kernel
theorem dX6_count_116 : decode cX6_count 116 = .ok (.getfield 190, 3) := by decide +kernel
theorem dX6_count_119 : decode cX6_count 119 = .ok (.ireturn, 1) := by decide +kernel
theorem dX6_count_120 : decode cX6_count 120 = .ok (.aload_n 0, 1) := by decide +kernel
theorem dX6_count_121 : decode cX6_count 121 = .ok (.getfield 42, 3) := by decide +kernel
theorem dX6_count_124 : decode cX6_count 124 = .ok (.getfield 168, 3) := by decide +kernel
theorem dX6_count_127 : decode cX6_count 127 = .ok (.ireturn, 1) := by decide +kernel
theorem dX6_count_128 : decode cX6_count 128 = .ok (.aload_n 0, 1) := by decide +kernel
theorem dX6_count_129 : decode cX6_count 129 = .ok (.getfield 19, 3) := by decide +kernel
theorem dX6_count_132 : decode cX6_count 132 = .ok (.getfield 104, 3) := by decide +kernel
theorem dX6_count_135 : decode cX6_count 135 = .ok (.ireturn, 1) := by decide +kernel
theorem dX6_count_136 : decode cX6_count 136 = .ok (.ldc 64, 2) := by decide +kernel
theorem dX6_count_138 : decode cX6_count 138 = .ok (.ireturn, 1) := by decide +kernel
theorem dX6_status_0 : decode cX6_status 0 = .ok (.aload_n 0, 1) := by decide +kernel
theorem dX6_status_1 : decode cX6_status 1 = .ok (.getfield 275, 3) := by decide +kernel
theorem dX6_status_4 : decode cX6_status 4 = .ok (.ireturn, 1) := by decide +kernel
theorem dX6_outside_0 : decode cX6_outside 0 = .ok (.iload_n 0, 1) := by decide +kernel
theorem dX6_outside_1 : decode cX6_outside 1 = .ok (.iload_n 1, 1) := by decide +kernel
theorem dX6_outside_2 : decode cX6_outside 2 = .ok (.if_icmp .lt 8, 3) := by decide +kernel
theorem dX6_outside_5 : decode cX6_outside 5 = .ok (.iload_n 0, 1) := by decide +kernel
theorem dX6_outside_6 : decode cX6_outside 6 = .ok (.iload_n 2, 1) := by decide +kernel
theorem dX6_outside_7 : decode cX6_outside 7 = .ok (.if_icmp .le 7, 3) := by decide +kernel
theorem dX6_outside_10 : decode cX6_outside 10 = .ok (.iconst 1, 1) := by decide +kernel
theorem dX6_outside_11 : decode cX6_outside 11 = .ok (.goto 4, 3) := by decide +kernel
theorem dX6_outside_14 : decode cX6_outside 14 = .ok (.iconst 0, 1) := by decide +kernel
theorem dX6_outside_15 : decode cX6_outside 15 = .ok (.ireturn, 1) := by decide +kernel
set_option maxRecDepth 20000 in
theorem ggX6_noSoul_X6_outside : GoodIn wsX6_noSoul wsX6_outside := goodIn_r _ [6] (by decide +kernel) (by decide +kernel)
set_option maxRecDepth 20000 in
theorem gX6_noSoul_X6_outside : GoodIn wsX6_noSoul (va_wsS RX6 60 yX6_outside wsX6_outside) := goodIn_app (goodIn_of _ (by decide +kernel)) ggX6_noSoul_X6_outside
theorem dX6_noSoul_0 : decode cX6_noSoul 0 = .ok (.iload_n 1, 1) := by decide +kernel
theorem dX6_noSoul_1 : decode cX6_noSoul 1 = .ok (.iconst 0, 1) := by decide +kernel
theorem dX6_noSoul_2 : decode cX6_noSoul 2 = .ok (.aload_n 0, 1) := by decide +kernel
theorem dX6_noSoul_3 : decode cX6_noSoul 3 = .ok (.getfield 26, 3) := by decide +kernel
theorem dX6_noSoul_6 : decode cX6_noSoul 6 = .ok (.getfield 127, 3) := by decide +kernel
theorem dX6_noSoul_9 : decode cX6_noSoul 9 = .ok (.iconst 1, 1) := by decide +kernel
theorem dX6_noSoul_10 : decode cX6_noSoul 10 = .ok (.isub, 1) := by decide +kernel
theorem dX6_noSoul_11 : decode cX6_noSoul 11 = .ok (.invokestatic 60, 3) := by decide +kernel
theorem dX6_noSoul_14 : decode cX6_noSoul 14 = .ok (.ireturn, 1) := by decide +kernel
theorem dX6_found_0 : decode cX6_found 0 = .ok (.aload_n 0, 1) := by decide +kernel
theorem dX6_found_1 : decode cX6_found 1 = .ok (.iload_n 1, 1) := by decide +kernel
theorem dX6_found_2 : decode cX6_found 2 = .ok (.putfield 275, 3) := by decide +kernel
theorem dX6_found_5 : decode cX6_found 5 = .ok (.ldc_w 278, 3) := by decide +kernel
theorem dX6_found_8 : decode cX6_found 8 = .ok (.iload_n 1, 1) := by decide +kernel
theorem dX6_found_9 : decode cX6_found 9 = .ok (.isub, 1) := by decide +kernel
theorem dX6_found_10 : decode cX6_found 10 = .ok (.ireturn, 1) := by decide +kernel
theorem dX6_fine_0 : decode cX6_fine 0 = .ok (.aload_n 0, 1) := by decide +kernel
theorem dX6_fine_1 : decode cX6_fine 1 = .ok (.iconst 0, 1) := by decide +kernel
theorem dX6_fine_2 : decode cX6_fine 2 = .ok (.putfield 275, 3) := by decide +kernel
theorem dX6_fine_5 : decode cX6_fine 5 = .ok (.iload_n 1, 1) := by decide +kernel
theorem dX6_fine_6 : decode cX6_fine 6 = .ok (.ireturn, 1) := by decide +kernel
theorem dX6_imageOf_0 : decode cX6_imageOf 0 = .ok (.iload_n 1, 1) := by decide +kernel
theorem dX6_imageOf_1 : decode cX6_imageOf 1 = .ok (.ifCond .ne 10, 3) := by decide +kernel
theorem dX6_imageOf_4 : decode cX6_imageOf 4 = .ok (.aload_n 0, 1) := by decide +kernel
theorem dX6_imageOf_5 : decode cX6_imageOf 5 = .ok (.getfield 33, 3) := by decide +kernel
theorem dX6_imageOf_8 : decode cX6_imageOf 8 = .ok (.goto 7, 3) := by decide +kernel
theorem dX6_imageOf_11 : decode cX6_imageOf 11 = .ok (.aload_n 0, 1) := by decide +kernel
theorem dX6_imageOf_12 : decode cX6_imageOf 12 = .ok (.getfield 36, 3) := by decide +kernel
theorem dX6_imageOf_15 : decode cX6_imageOf 15 = .ok (.areturn, 1) := by decide +kernel
set_option maxRecDepth 20000 in
theorem ggX6_foretell_X2_take : GoodIn wsX6_foretell wsX2_take := goodIn_r _ [7, 8, 9, 10, 11, 12, 13, 14, 15, 16, 17, 18, 19, 20, 21, 44, 45, 46, 47, 48, 49, 50, 51, 52, 53] (by decide +kernel) (by decide +kernel)
set_option maxRecDepth 20000 in
theorem gX6_foretell_X2_take : GoodIn wsX6_foretell (wsV RX6 120 RX2 yX2_take wsX2_take) := goodIn_app (goodIn_of _ (by decide +kernel)) ggX6_foretell_X2_take
set_option maxRecDepth 20000 in
theorem ggX6_foretell_X2_passHour : GoodIn wsX6_foretell wsX2_passHour := goodIn_r _ [25, 16, 14, 19, 26, 27, 28, 29, 30, 21, 20, 15, 17, 31, 32, 33, 18, 44, 45, 46, 47, 48, 49, 50, 51, 52, 53] (by decide +kernel) (by decide +kernel)
set_option maxRecDepth 20000 in
theorem gX6_foretell_X2_passHour : GoodIn wsX6_foretell (wsV RX6 140 RX2 yX2_passHour wsX2_passHour) := goodIn_app (goodIn_of _ (by decide +kernel)) ggX6_foretell_X2_passHour
theorem dX6_foretell_0 : decode cX6_foretell 0 = .ok (.aload_n 0, 1) := by decide +kernel
theorem dX6_foretell_1 : decode cX6_foretell 1 = .ok (.getfield 30, 3) := by decide +kernel
theorem dX6_foretell_4 : decode cX6_foretell 4 = .ok (.aload_n 0, 1) := by decide +kernel
theorem dX6_foretell_5 : decode cX6_foretell 5 = .ok (.getfield 26, 3) := by decide +kernel
theorem dX6_foretell_8 : decode cX6_foretell 8 = .ok (.invokevirtual 120, 3) := by decide +kernel
theorem dX6_foretell_11 : decode cX6_foretell 11 = .ok (.iconst 0, 1) := by decide +kernel
theorem dX6_foretell_12 : decode cX6_foretell 12 = .ok (.istore_n 2, 1) := by decide +kernel
theorem dX6_foretell_13 : decode cX6_foretell 13 = .ok (.iload_n 2, 1) := by decide +kernel
theorem dX6_foretell_14 : decode cX6_foretell 14 = .ok (.iload_n 1, 1) := by decide +kernel
theorem dX6_foretell_15 : decode cX6_foretell 15 = .ok (.if_icmp .ge 16, 3) := by decide +kernel
theorem dX6_foretell_18 : decode cX6_foretell 18 = .ok (.aload_n 0, 1) := by decide +kernel
theorem dX6_foretell_19 : decode cX6_foretell 19 = .ok (.getfield 30, 3) := by decide +kernel
theorem dX6_foretell_22 : decode cX6_foretell 22 = .ok (.invokevirtual 140, 3) := by decide +kernel
theorem dX6_foretell_25 : decode cX6_foretell 25 = .ok (.iinc 2 1, 3) := by decide +kernel
theorem dX6_foretell_28 : decode cX6_foretell 28 = .ok (.goto (-15), 3) := by decide +kernel
theorem dX6_foretell_31 : decode cX6_foretell 31 = .ok (.return_, 1) := by decide +kernel
set_option maxRecDepth 20000 in
theorem ggX6_lostIn_X2_take : GoodIn wsX6_lostIn wsX2_take := goodIn_r _ [9, 10, 11, 12, 13, 14, 15, 16, 17, 18, 19, 20, 21, 22, 23, 62, 63, 64, 65, 66, 67, 68, 69, 70, 71] (by decide +kernel) (by decide +kernel)
set_option maxRecDepth 20000 in
theorem gX6_lostIn_X2_take : GoodIn wsX6_lostIn (wsV RX6 120 RX2 yX2_take wsX2_take) := goodIn_app (goodIn_of _ (by decide +kernel)) ggX6_lostIn_X2_take
set_option maxRecDepth 20000 in
theorem ggX6_lostIn_X2_ownUp : GoodIn wsX6_lostIn wsX2_ownUp := goodIn_r _ [27, 18, 15, 28, 29, 30, 8, 31, 10, 32, 33, 34, 35, 36, 37, 38, 39, 40, 41, 42, 43, 44, 45, 46, 20, 62, 63, 64, 65, 66, 67, 68, 69, 70, 71] (by decide +kernel) (by decide +kernel)
set_option maxRecDepth 20000 in
theorem gX6_lostIn_X2_ownUp : GoodIn wsX6_lostIn (wsV RX6 150 RX2 yX2_ownUp wsX2_ownUp) := goodIn_app (goodIn_of _ (by decide +kernel)) ggX6_lostIn_X2_ownUp
set_option maxRecDepth 20000 in
theorem ggX6_lostIn_X2_passHour : GoodIn wsX6_lostIn wsX2_passHour := goodIn_r _ [50, 18, 16, 21, 40, 41, 38, 42, 51, 23, 22, 17, 19, 36, 37, 39, 20, 62, 63, 64, 65, 66, 67, 68, 69, 70, 71] (by decide +kernel) (by decide +kernel)
set_option maxRecDepth 20000 in
theorem gX6_lostIn_X2_passHour : GoodIn wsX6_lostIn (wsV RX6 140 RX2 yX2_passHour wsX2_passHour) := goodIn_app (goodIn_of _ (by decide +kernel)) ggX6_lostIn_X2_passHour
theorem dX6_lostIn_0 : decode cX6_lostIn 0 = .ok (.aload_n 0, 1) := by decide +kernel
theorem dX6_lostIn_1 : decode cX6_lostIn 1 = .ok (.getfield 30, 3) := by decide +kernel
theorem dX6_lostIn_4 : decode cX6_lostIn 4 = .ok (.aload_n 0, 1) := by decide +kernel
theorem dX6_lostIn_5 : decode cX6_lostIn 5 = .ok (.getfield 26, 3) := by decide +kernel
theorem dX6_lostIn_8 : decode cX6_lostIn 8 = .ok (.invokevirtual 120, 3) := by decide +kernel
theorem dX6_lostIn_11 : decode cX6_lostIn 11 = .ok (.aload_n 0, 1) := by decide +kernel
theorem dX6_lostIn_12 : decode cX6_lostIn 12 = .ok (.getfield 30, 3) := by decide +kernel
theorem dX6_lostIn_15 : decode cX6_lostIn 15 = .ok (.iconst 0, 1) := by decide +kernel
theorem dX6_lostIn_16 : decode cX6_lostIn 16 = .ok (.putfield 190, 3) := by decide +kernel
theorem dX6_lostIn_19 : decode cX6_lostIn 19 = .ok (.iload_n 2, 1) := by decide +kernel
theorem dX6_lostIn_20 : decode cX6_lostIn 20 = .ok (.ldc 193, 2) := by decide +kernel
theorem dX6_lostIn_22 : decode cX6_lostIn 22 = .ok (.if_icmp .eq 11, 3) := by decide +kernel
theorem dX6_lostIn_25 : decode cX6_lostIn 25 = .ok (.aload_n 0, 1) := by decide +kernel
theorem dX6_lostIn_26 : decode cX6_lostIn 26 = .ok (.getfield 30, 3) := by decide +kernel
theorem dX6_lostIn_29 : decode cX6_lostIn 29 = .ok (.iload_n 2, 1) := by decide +kernel
theorem dX6_lostIn_30 : decode cX6_lostIn 30 = .ok (.invokevirtual 150, 3) := by decide +kernel
theorem dX6_lostIn_33 : decode cX6_lostIn 33 = .ok (.iconst 0, 1) := by decide +kernel
theorem dX6_lostIn_34 : decode cX6_lostIn 34 = .ok (.istore_n 3, 1) := by decide +kernel
theorem dX6_lostIn_35 : decode cX6_lostIn 35 = .ok (.iload_n 3, 1) := by decide +kernel
theorem dX6_lostIn_36 : decode cX6_lostIn 36 = .ok (.iload_n 1, 1) := by decide +kernel
theorem dX6_lostIn_37 : decode cX6_lostIn 37 = .ok (.if_icmp .ge 16, 3) := by decide +kernel
theorem dX6_lostIn_40 : decode cX6_lostIn 40 = .ok (.aload_n 0, 1) := by decide +kernel
theorem dX6_lostIn_41 : decode cX6_lostIn 41 = .ok (.getfield 30, 3) := by decide +kernel
theorem dX6_lostIn_44 : decode cX6_lostIn 44 = .ok (.invokevirtual 140, 3) := by decide +kernel
theorem dX6_lostIn_47 : decode cX6_lostIn 47 = .ok (.iinc 3 1, 3) := by decide +kernel
theorem dX6_lostIn_50 : decode cX6_lostIn 50 = .ok (.goto (-15), 3) := by decide +kernel
theorem dX6_lostIn_53 : decode cX6_lostIn 53 = .ok (.aload_n 0, 1) := by decide +kernel
theorem dX6_lostIn_54 : decode cX6_lostIn 54 = .ok (.getfield 30, 3) := by decide +kernel
theorem dX6_lostIn_57 : decode cX6_lostIn 57 = .ok (.getfield 190, 3) := by decide +kernel
theorem dX6_lostIn_60 : decode cX6_lostIn 60 = .ok (.ireturn, 1) := by decide +kernel
set_option maxRecDepth 20000 in
theorem ggX6_fitting_X6_valuesOf : GoodIn wsX6_fitting wsX6_valuesOf := goodIn_r _ [7, 2, 8, 55, 56, 57, 58, 59, 60, 61, 62, 63, 64, 65, 66, 67, 68, 69, 70, 71, 72, 73, 74] (by decide +kernel) (by decide +kernel)
set_option maxRecDepth 20000 in
theorem gX6_fitting_X6_valuesOf : GoodIn wsX6_fitting (wsV RX6 279 RX6 yX6_valuesOf wsX6_valuesOf) := goodIn_app (goodIn_of _ (by decide +kernel)) ggX6_fitting_X6_valuesOf
set_option maxRecDepth 20000 in
theorem ggX6_fitting_X2_take : GoodIn wsX6_fitting wsX2_take := goodIn_r _ [13, 14, 15, 16, 17, 18, 19, 20, 21, 22, 23, 24, 25, 26, 27, 65, 66, 67, 68, 69, 70, 71, 72, 73, 74] (by decide +kernel) (by decide +kernel)
set_option maxRecDepth 20000 in
theorem gX6_fitting_X2_take : GoodIn wsX6_fitting (wsV RX6 120 RX2 yX2_take wsX2_take) := goodIn_app (goodIn_of _ (by decide +kernel)) ggX6_fitting_X2_take
set_option maxRecDepth 20000 in
theorem ggX6_fitting_X6_changeTrial : GoodIn wsX6_fitting wsX6_changeTrial := goodIn_r _ [31, 1, 32, 33, 34, 35, 55, 56, 57, 58, 59, 60, 61, 62, 63, 64, 65, 66, 67, 68, 69, 70, 71, 72, 73, 74] (by decide +kernel) (by decide +kernel)
set_option maxRecDepth 20000 in
theorem gX6_fitting_X6_changeTrial : GoodIn wsX6_fitting (wsV RX6 282 RX6 yX6_changeTrial wsX6_changeTrial) := goodIn_app (goodIn_of _ (by decide +kernel)) ggX6_fitting_X6_changeTrial
set_option maxRecDepth 20000 in
theorem ggX6_fitting_X6_trialTells : GoodIn wsX6_fitting wsX6_trialTells := goodIn_r _ [39, 1, 40, 41, 42, 43, 44, 45, 12, 46, 22, 20, 25, 47, 48, 49, 50, 51, 27, 26, 21, 23, 52, 53, 54, 24, 55, 56, 57, 58, 59, 60, 61, 62, 63, 64, 65, 66, 67, 68, 69, 70, 71, 72, 73, 74, 75, 76, 77, 78] (by decide +kernel) (by decide +kernel)
set_option maxRecDepth 20000 in
theorem gX6_fitting_X6_trialTells : GoodIn wsX6_fitting (wsV RX6 286 RX6 yX6_trialTells wsX6_trialTells) := goodIn_app (goodIn_of _ (by decide +kernel)) ggX6_fitting_X6_trialTells
theorem dX6_fitting_0 : decode cX6_fitting 0 = .ok (.lconst 0, 1) := by decide +kernel
theorem dX6_fitting_1 : decode cX6_fitting 1 = .ok (.lstore 6, 2) := by decide +kernel
theorem dX6_fitting_3 : decode cX6_fitting 3 = .ok (.aload_n 0, 1) := by decide +kernel
theorem dX6_fitting_4 : decode cX6_fitting 4 = .ok (.iload 5, 2) := by decide +kernel
theorem dX6_fitting_6 : decode cX6_fitting 6 = .ok (.invokevirtual 279, 3) := by decide +kernel
theorem dX6_fitting_9 : decode cX6_fitting 9 = .ok (.istore 8, 2) := by decide +kernel
theorem dX6_fitting_11 : decode cX6_fitting 11 = .ok (.iconst 0, 1) := by decide +kernel
theorem dX6_fitting_12 : decode cX6_fitting 12 = .ok (.istore 9, 2) := by decide +kernel
theorem dX6_fitting_14 : decode cX6_fitting 14 = .ok (.iload 9, 2) := by decide +kernel
theorem dX6_fitting_16 : decode cX6_fitting 16 = .ok (.iload 8, 2) := by decide +kernel
theorem dX6_fitting_18 : decode cX6_fitting 18 = .ok (.if_icmp .ge 49, 3) := by decide +kernel
theorem dX6_fitting_21 : decode cX6_fitting 21 = .ok (.aload_n 0, 1) := by decide +kernel
theorem dX6_fitting_22 : decode cX6_fitting 22 = .ok (.getfield 30, 3) := by decide +kernel
theorem dX6_fitting_25 : decode cX6_fitting 25 = .ok (.aload_n 0, 1) := by decide +kernel
theorem dX6_fitting_26 : decode cX6_fitting 26 = .ok (.getfield 26, 3) := by decide +kernel
theorem dX6_fitting_29 : decode cX6_fitting 29 = .ok (.invokevirtual 120, 3) := by decide +kernel
theorem dX6_fitting_32 : decode cX6_fitting 32 = .ok (.aload_n 0, 1) := by decide +kernel
theorem dX6_fitting_33 : decode cX6_fitting 33 = .ok (.iload 5, 2) := by decide +kernel
theorem dX6_fitting_35 : decode cX6_fitting 35 = .ok (.iload 9, 2) := by decide +kernel
theorem dX6_fitting_37 : decode cX6_fitting 37 = .ok (.invokevirtual 282, 3) := by decide +kernel
theorem dX6_fitting_40 : decode cX6_fitting 40 = .ok (.aload_n 0, 1) := by decide +kernel
theorem dX6_fitting_41 : decode cX6_fitting 41 = .ok (.iload_n 1, 1) := by decide +kernel
theorem dX6_fitting_42 : decode cX6_fitting 42 = .ok (.iload_n 2, 1) := by decide +kernel
theorem dX6_fitting_43 : decode cX6_fitting 43 = .ok (.iload_n 3, 1) := by decide +kernel
theorem dX6_fitting_44 : decode cX6_fitting 44 = .ok (.iload 4, 2) := by decide +kernel
theorem dX6_fitting_46 : decode cX6_fitting 46 = .ok (.invokevirtual 286, 3) := by decide +kernel
theorem dX6_fitting_49 : decode cX6_fitting 49 = .ok (.ifCond .eq 12, 3) := by decide +kernel
theorem dX6_fitting_52 : decode cX6_fitting 52 = .ok (.lload 6, 2) := by decide +kernel
theorem dX6_fitting_54 : decode cX6_fitting 54 = .ok (.lconst 1, 1) := by decide +kernel
theorem dX6_fitting_55 : decode cX6_fitting 55 = .ok (.iload 9, 2) := by decide +kernel
theorem dX6_fitting_57 : decode cX6_fitting 57 = .ok (.lshl, 1) := by decide +kernel
theorem dX6_fitting_58 : decode cX6_fitting 58 = .ok (.lor, 1) := by decide +kernel
theorem dX6_fitting_59 : decode cX6_fitting 59 = .ok (.lstore 6, 2) := by decide +kernel
theorem dX6_fitting_61 : decode cX6_fitting 61 = .ok (.iinc 9 1, 3) := by decide +kernel
theorem dX6_fitting_64 : decode cX6_fitting 64 = .ok (.goto (-50), 3) := by decide +kernel
theorem dX6_fitting_67 : decode cX6_fitting 67 = .ok (.lload 6, 2) := by decide +kernel
theorem dX6_fitting_69 : decode cX6_fitting 69 = .ok (.lreturn, 1) := by decide +kernel
theorem dX6_valuesOf_0 : decode cX6_valuesOf 0 = .ok (.iload_n 1, 1) := by decide +kernel
theorem dX6_valuesOf_1 : decode cX6_valuesOf 1 = .ok (.tableswitch 40 2 4 #[27, 35, 37], 27) := by decide +kernel
theorem dX6_valuesOf_28 : decode cX6_valuesOf 28 = .ok (.aload_n 0, 1) := by decide +kernel
theorem dX6_valuesOf_29 : decode cX6_valuesOf 29 = .ok (.getfield 26, 3) := by decide +kernel
theorem dX6_valuesOf_32 : decode cX6_valuesOf 32 = .ok (.getfield 127, 3) := by decide +kernel
theorem dX6_valuesOf_35 : decode cX6_valuesOf 35 = .ok (.ireturn, 1) := by decide +kernel
theorem dX6_valuesOf_36 : decode cX6_valuesOf 36 = .ok (.iconst 2, 1) := by decide +kernel
theorem dX6_valuesOf_37 : decode cX6_valuesOf 37 = .ok (.ireturn, 1) := by decide +kernel
theorem dX6_valuesOf_38 : decode cX6_valuesOf 38 = .ok (.bipush 6, 2) := by decide +kernel
theorem dX6_valuesOf_40 : decode cX6_valuesOf 40 = .ok (.ireturn, 1) := by decide +kernel
theorem dX6_valuesOf_41 : decode cX6_valuesOf 41 = .ok (.bipush 61, 2) := by decide +kernel
theorem dX6_valuesOf_43 : decode cX6_valuesOf 43 = .ok (.ireturn, 1) := by decide +kernel
theorem dX6_changeTrial_0 : decode cX6_changeTrial 0 = .ok (.iload_n 1, 1) := by decide +kernel
theorem dX6_changeTrial_1 : decode cX6_changeTrial 1 = .ok (.tableswitch 60 2 4 #[27, 38, 49], 27) := by decide +kernel
theorem dX6_changeTrial_28 : decode cX6_changeTrial 28 = .ok (.aload_n 0, 1) := by decide +kernel
theorem dX6_changeTrial_29 : decode cX6_changeTrial 29 = .ok (.getfield 30, 3) := by decide +kernel
theorem dX6_changeTrial_32 : decode cX6_changeTrial 32 = .ok (.iload_n 2, 1) := by decide +kernel
theorem dX6_changeTrial_33 : decode cX6_changeTrial 33 = .ok (.putfield 162, 3) := by decide +kernel
theorem dX6_changeTrial_36 : decode cX6_changeTrial 36 = .ok (.goto 33, 3) := by decide +kernel
theorem dX6_changeTrial_39 : decode cX6_changeTrial 39 = .ok (.aload_n 0, 1) := by decide +kernel
theorem dX6_changeTrial_40 : decode cX6_changeTrial 40 = .ok (.getfield 30, 3) := by decide +kernel
theorem dX6_changeTrial_43 : decode cX6_changeTrial 43 = .ok (.iload_n 2, 1) := by decide +kernel
theorem dX6_changeTrial_44 : decode cX6_changeTrial 44 = .ok (.putfield 165, 3) := by decide +kernel
theorem dX6_changeTrial_47 : decode cX6_changeTrial 47 = .ok (.goto 22, 3) := by decide +kernel
theorem dX6_changeTrial_50 : decode cX6_changeTrial 50 = .ok (.aload_n 0, 1) := by decide +kernel
theorem dX6_changeTrial_51 : decode cX6_changeTrial 51 = .ok (.getfield 30, 3) := by decide +kernel
theorem dX6_changeTrial_54 : decode cX6_changeTrial 54 = .ok (.iload_n 2, 1) := by decide +kernel
theorem dX6_changeTrial_55 : decode cX6_changeTrial 55 = .ok (.putfield 272, 3) := by decide +kernel
theorem dX6_changeTrial_58 : decode cX6_changeTrial 58 = .ok (.goto 11, 3) := by decide +kernel
theorem dX6_changeTrial_61 : decode cX6_changeTrial 61 = .ok (.aload_n 0, 1) := by decide +kernel
theorem dX6_changeTrial_62 : decode cX6_changeTrial 62 = .ok (.getfield 30, 3) := by decide +kernel
theorem dX6_changeTrial_65 : decode cX6_changeTrial 65 = .ok (.iload_n 2, 1) := by decide +kernel
theorem dX6_changeTrial_66 : decode cX6_changeTrial 66 = .ok (.putfield 143, 3) := by decide +kernel
theorem dX6_changeTrial_69 : decode cX6_changeTrial 69 = .ok (.return_, 1) := by decide +kernel
set_option maxRecDepth 20000 in
theorem ggX6_trialTells_X2_passHour : GoodIn wsX6_trialTells wsX2_passHour := goodIn_r _ [9, 10, 11, 12, 13, 14, 15, 16, 17, 18, 19, 20, 21, 22, 23, 24, 25, 36, 37, 38, 39, 40, 41, 42, 43, 44, 45] (by decide +kernel) (by decide +kernel)
set_option maxRecDepth 20000 in
theorem gX6_trialTells_X2_passHour : GoodIn wsX6_trialTells (wsV RX6 140 RX2 yX2_passHour wsX2_passHour) := goodIn_app (goodIn_of _ (by decide +kernel)) ggX6_trialTells_X2_passHour
theorem dX6_trialTells_0 : decode cX6_trialTells 0 = .ok (.iconst 0, 1) := by decide +kernel
theorem dX6_trialTells_1 : decode cX6_trialTells 1 = .ok (.istore 5, 2) := by decide +kernel
theorem dX6_trialTells_3 : decode cX6_trialTells 3 = .ok (.iload 5, 2) := by decide +kernel
theorem dX6_trialTells_5 : decode cX6_trialTells 5 = .ok (.iload 4, 2) := by decide +kernel
theorem dX6_trialTells_7 : decode cX6_trialTells 7 = .ok (.if_icmp .ge 44, 3) := by decide +kernel
theorem dX6_trialTells_10 : decode cX6_trialTells 10 = .ok (.aload_n 0, 1) := by decide +kernel
theorem dX6_trialTells_11 : decode cX6_trialTells 11 = .ok (.getfield 30, 3) := by decide +kernel
theorem dX6_trialTells_14 : decode cX6_trialTells 14 = .ok (.invokevirtual 140, 3) := by decide +kernel
theorem dX6_trialTells_17 : decode cX6_trialTells 17 = .ok (.aload_n 0, 1) := by decide +kernel
theorem dX6_trialTells_18 : decode cX6_trialTells 18 = .ok (.getfield 30, 3) := by decide +kernel
theorem dX6_trialTells_21 : decode cX6_trialTells 21 = .ok (.getfield 154, 3) := by decide +kernel
theorem dX6_trialTells_24 : decode cX6_trialTells 24 = .ok (.iload_n 1, 1) := by decide +kernel
theorem dX6_trialTells_25 : decode cX6_trialTells 25 = .ok (.iaload, 1) := by decide +kernel
theorem dX6_trialTells_26 : decode cX6_trialTells 26 = .ok (.aload_n 0, 1) := by decide +kernel
theorem dX6_trialTells_27 : decode cX6_trialTells 27 = .ok (.getfield 10, 3) := by decide +kernel
theorem dX6_trialTells_30 : decode cX6_trialTells 30 = .ok (.getfield 83, 3) := by decide +kernel
theorem dX6_trialTells_33 : decode cX6_trialTells 33 = .ok (.iload_n 2, 1) := by decide +kernel
theorem dX6_trialTells_34 : decode cX6_trialTells 34 = .ok (.aaload, 1) := by decide +kernel
theorem dX6_trialTells_35 : decode cX6_trialTells 35 = .ok (.iload_n 3, 1) := by decide +kernel
theorem dX6_trialTells_36 : decode cX6_trialTells 36 = .ok (.iload 5, 2) := by decide +kernel
theorem dX6_trialTells_38 : decode cX6_trialTells 38 = .ok (.iadd, 1) := by decide +kernel
theorem dX6_trialTells_39 : decode cX6_trialTells 39 = .ok (.iaload, 1) := by decide +kernel
theorem dX6_trialTells_40 : decode cX6_trialTells 40 = .ok (.if_icmp .eq 5, 3) := by decide +kernel
theorem dX6_trialTells_43 : decode cX6_trialTells 43 = .ok (.iconst 0, 1) := by decide +kernel
theorem dX6_trialTells_44 : decode cX6_trialTells 44 = .ok (.ireturn, 1) := by decide +kernel
theorem dX6_trialTells_45 : decode cX6_trialTells 45 = .ok (.iinc 5 1, 3) := by decide +kernel
theorem dX6_trialTells_48 : decode cX6_trialTells 48 = .ok (.goto (-45), 3) := by decide +kernel
theorem dX6_trialTells_51 : decode cX6_trialTells 51 = .ok (.iconst 1, 1) := by decide +kernel
theorem dX6_trialTells_52 : decode cX6_trialTells 52 = .ok (.ireturn, 1) := by decide +kernel
theorem dX6_lowestBit_0 : decode cX6_lowestBit 0 = .ok (.iconst 0, 1) := by decide +kernel
theorem dX6_lowestBit_1 : decode cX6_lowestBit 1 = .ok (.istore_n 2, 1) := by decide +kernel
theorem dX6_lowestBit_2 : decode cX6_lowestBit 2 = .ok (.iload_n 2, 1) := by decide +kernel
theorem dX6_lowestBit_3 : decode cX6_lowestBit 3 = .ok (.bipush 64, 2) := by decide +kernel
theorem dX6_lowestBit_5 : decode cX6_lowestBit 5 = .ok (.if_icmp .ge 21, 3) := by decide +kernel
theorem dX6_lowestBit_8 : decode cX6_lowestBit 8 = .ok (.lload_n 0, 1) := by decide +kernel
theorem dX6_lowestBit_9 : decode cX6_lowestBit 9 = .ok (.iload_n 2, 1) := by decide +kernel
theorem dX6_lowestBit_10 : decode cX6_lowestBit 10 = .ok (.lshr, 1) := by decide +kernel
theorem dX6_lowestBit_11 : decode cX6_lowestBit 11 = .ok (.lconst 1, 1) := by decide +kernel
theorem dX6_lowestBit_12 : decode cX6_lowestBit 12 = .ok (.land, 1) := by decide +kernel
theorem dX6_lowestBit_13 : decode cX6_lowestBit 13 = .ok (.lconst 0, 1) := by decide +kernel
theorem dX6_lowestBit_14 : decode cX6_lowestBit 14 = .ok (.lcmp, 1) := by decide +kernel
theorem dX6_lowestBit_15 : decode cX6_lowestBit 15 = .ok (.ifCond .eq 5, 3) := by decide +kernel
theorem dX6_lowestBit_18 : decode cX6_lowestBit 18 = .ok (.iload_n 2, 1) := by decide +kernel
theorem dX6_lowestBit_19 : decode cX6_lowestBit 19 = .ok (.ireturn, 1) := by decide +kernel
theorem dX6_lowestBit_20 : decode cX6_lowestBit 20 = .ok (.iinc 2 1, 3) := by decide +kernel
theorem dX6_lowestBit_23 : decode cX6_lowestBit 23 = .ok (.goto (-21), 3) := by decide +kernel
theorem dX6_lowestBit_26 : decode cX6_lowestBit 26 = .ok (.ldc 193, 2) := by decide +kernel
theorem dX6_lowestBit_28 : decode cX6_lowestBit 28 = .ok (.ireturn, 1) := by decide +kernel
set_option maxRecDepth 20000 in
theorem ggX6_waysDown_X2_forceBehind : GoodIn wsX6_waysDown wsX2_forceBehind := goodIn_r _ [6, 7, 8, 9, 10, 11, 5, 12, 13, 14, 15, 16, 17, 18, 19, 20, 21, 22, 23, 24, 28, 29, 30, 31, 32, 33, 34, 35, 36, 37] (by decide +kernel) (by decide +kernel)
set_option maxRecDepth 20000 in
theorem gX6_waysDown_X2_forceBehind : GoodIn wsX6_waysDown (wsV RX6 290 RX2 yX2_forceBehind wsX2_forceBehind) := goodIn_app (goodIn_of _ (by decide +kernel)) ggX6_waysDown_X2_forceBehind
set_option maxRecDepth 20000 in
theorem ggX6_waysDown_X6_waysDown : GoodIn wsX6_waysDown wsX6_waysDown := goodIn_r _ [0, 1, 2, 3, 4, 5, 6, 7, 8, 9, 10, 11, 12, 13, 14, 15, 16, 17, 18, 19, 20, 21, 22, 23, 24, 25, 26, 27, 28, 29, 30, 31, 32, 33, 34, 35, 36, 37] (by decide +kernel) (by decide +kernel)
set_option maxRecDepth 20000 in
theorem gX6_waysDown_X6_waysDown : GoodIn wsX6_waysDown (va_wsS RX6 234 yX6_waysDown wsX6_waysDown) := goodIn_app (goodIn_of _ (by decide +kernel)) ggX6_waysDown_X6_waysDown
theorem dX6_waysDown_0 : decode cX6_waysDown 0 = .ok (.iload_n 1, 1) := by decide +kernel
theorem dX6_waysDown_1 : decode cX6_waysDown 1 = .ok (.aload_n 0, 1) := by decide +kernel
theorem dX6_waysDown_2 : decode cX6_waysDown 2 = .ok (.getfield 127, 3) := by decide +kernel
theorem dX6_waysDown_5 : decode cX6_waysDown 5 = .ok (.if_icmp .lt 14, 3) := by decide +kernel
theorem dX6_waysDown_8 : decode cX6_waysDown 8 = .ok (.iload_n 2, 1) := by decide +kernel
theorem dX6_waysDown_9 : decode cX6_waysDown 9 = .ok (.iload_n 3, 1) := by decide +kernel
theorem dX6_waysDown_10 : decode cX6_waysDown 10 = .ok (.if_icmp .gt 7, 3) := by decide +kernel
theorem dX6_waysDown_13 : decode cX6_waysDown 13 = .ok (.iconst 1, 1) := by decide +kernel
theorem dX6_waysDown_14 : decode cX6_waysDown 14 = .ok (.goto 4, 3) := by decide +kernel
theorem dX6_waysDown_17 : decode cX6_waysDown 17 = .ok (.iconst 0, 1) := by decide +kernel
theorem dX6_waysDown_18 : decode cX6_waysDown 18 = .ok (.ireturn, 1) := by decide +kernel
theorem dX6_waysDown_19 : decode cX6_waysDown 19 = .ok (.iload 4, 2) := by decide +kernel
theorem dX6_waysDown_21 : decode cX6_waysDown 21 = .ok (.aload_n 0, 1) := by decide +kernel
theorem dX6_waysDown_22 : decode cX6_waysDown 22 = .ok (.iload_n 1, 1) := by decide +kernel
theorem dX6_waysDown_23 : decode cX6_waysDown 23 = .ok (.iconst 1, 1) := by decide +kernel
theorem dX6_waysDown_24 : decode cX6_waysDown 24 = .ok (.iadd, 1) := by decide +kernel
theorem dX6_waysDown_25 : decode cX6_waysDown 25 = .ok (.aload_n 0, 1) := by decide +kernel
theorem dX6_waysDown_26 : decode cX6_waysDown 26 = .ok (.iload_n 1, 1) := by decide +kernel
theorem dX6_waysDown_27 : decode cX6_waysDown 27 = .ok (.iload_n 2, 1) := by decide +kernel
theorem dX6_waysDown_28 : decode cX6_waysDown 28 = .ok (.invokevirtual 290, 3) := by decide +kernel
theorem dX6_waysDown_31 : decode cX6_waysDown 31 = .ok (.iload_n 3, 1) := by decide +kernel
theorem dX6_waysDown_32 : decode cX6_waysDown 32 = .ok (.iload 4, 2) := by decide +kernel
theorem dX6_waysDown_34 : decode cX6_waysDown 34 = .ok (.invokestatic 234, 3) := by decide +kernel
theorem dX6_waysDown_37 : decode cX6_waysDown 37 = .ok (.imul, 1) := by decide +kernel
theorem dX6_waysDown_38 : decode cX6_waysDown 38 = .ok (.bipush 10, 2) := by decide +kernel
theorem dX6_waysDown_40 : decode cX6_waysDown 40 = .ok (.iload 4, 2) := by decide +kernel
theorem dX6_waysDown_42 : decode cX6_waysDown 42 = .ok (.isub, 1) := by decide +kernel
theorem dX6_waysDown_43 : decode cX6_waysDown 43 = .ok (.aload_n 0, 1) := by decide +kernel
theorem dX6_waysDown_44 : decode cX6_waysDown 44 = .ok (.iload_n 1, 1) := by decide +kernel
theorem dX6_waysDown_45 : decode cX6_waysDown 45 = .ok (.iconst 1, 1) := by decide +kernel
theorem dX6_waysDown_46 : decode cX6_waysDown 46 = .ok (.iadd, 1) := by decide +kernel
theorem dX6_waysDown_47 : decode cX6_waysDown 47 = .ok (.iload_n 2, 1) := by decide +kernel
theorem dX6_waysDown_48 : decode cX6_waysDown 48 = .ok (.iload_n 3, 1) := by decide +kernel
theorem dX6_waysDown_49 : decode cX6_waysDown 49 = .ok (.iload 4, 2) := by decide +kernel
theorem dX6_waysDown_51 : decode cX6_waysDown 51 = .ok (.invokestatic 234, 3) := by decide +kernel
theorem dX6_waysDown_54 : decode cX6_waysDown 54 = .ok (.imul, 1) := by decide +kernel
theorem dX6_waysDown_55 : decode cX6_waysDown 55 = .ok (.iadd, 1) := by decide +kernel
theorem dX6_waysDown_56 : decode cX6_waysDown 56 = .ok (.ireturn, 1) := by decide +kernel
theorem dX6_commonDivisor_0 : decode cX6_commonDivisor 0 = .ok (.iload_n 0, 1) := by decide +kernel
theorem dX6_commonDivisor_1 : decode cX6_commonDivisor 1 = .ok (.istore_n 2, 1) := by decide +kernel
theorem dX6_commonDivisor_2 : decode cX6_commonDivisor 2 = .ok (.iload_n 1, 1) := by decide +kernel
theorem dX6_commonDivisor_3 : decode cX6_commonDivisor 3 = .ok (.istore_n 3, 1) := by decide +kernel
theorem dX6_commonDivisor_4 : decode cX6_commonDivisor 4 = .ok (.iconst 0, 1) := by decide +kernel
theorem dX6_commonDivisor_5 : decode cX6_commonDivisor 5 = .ok (.istore 4, 2) := by decide +kernel
theorem dX6_commonDivisor_7 : decode cX6_commonDivisor 7 = .ok (.iload 4, 2) := by decide +kernel
theorem dX6_commonDivisor_9 : decode cX6_commonDivisor 9 = .ok (.bipush 64, 2) := by decide +kernel
theorem dX6_commonDivisor_11 : decode cX6_commonDivisor 11 = .ok (.if_icmp .ge 23, 3) := by decide +kernel
theorem dX6_commonDivisor_14 : decode cX6_commonDivisor 14 = .ok (.iload_n 3, 1) := by decide +kernel
theorem dX6_commonDivisor_15 : decode cX6_commonDivisor 15 = .ok (.ifCond .eq 19, 3) := by decide +kernel
theorem dX6_commonDivisor_18 : decode cX6_commonDivisor 18 = .ok (.iload_n 2, 1) := by decide +kernel
theorem dX6_commonDivisor_19 : decode cX6_commonDivisor 19 = .ok (.iload_n 3, 1) := by decide +kernel
theorem dX6_commonDivisor_20 : decode cX6_commonDivisor 20 = .ok (.irem, 1) := by decide +kernel
theorem dX6_commonDivisor_21 : decode cX6_commonDivisor 21 = .ok (.istore 5, 2) := by decide +kernel
theorem dX6_commonDivisor_23 : decode cX6_commonDivisor 23 = .ok (.iload_n 3, 1) := by decide +kernel
theorem dX6_commonDivisor_24 : decode cX6_commonDivisor 24 = .ok (.istore_n 2, 1) := by decide +kernel
theorem dX6_commonDivisor_25 : decode cX6_commonDivisor 25 = .ok (.iload 5, 2) := by decide +kernel
theorem dX6_commonDivisor_27 : decode cX6_commonDivisor 27 = .ok (.istore_n 3, 1) := by decide +kernel
theorem dX6_commonDivisor_28 : decode cX6_commonDivisor 28 = .ok (.iinc 4 1, 3) := by decide +kernel
theorem dX6_commonDivisor_31 : decode cX6_commonDivisor 31 = .ok (.goto (-24), 3) := by decide +kernel
theorem dX6_commonDivisor_34 : decode cX6_commonDivisor 34 = .ok (.iconst 1, 1) := by decide +kernel
theorem dX6_commonDivisor_35 : decode cX6_commonDivisor 35 = .ok (.iload_n 2, 1) := by decide +kernel
theorem dX6_commonDivisor_36 : decode cX6_commonDivisor 36 = .ok (.invokestatic 293, 3) := by decide +kernel
theorem dX6_commonDivisor_39 : decode cX6_commonDivisor 39 = .ok (.ireturn, 1) := by decide +kernel
set_option maxRecDepth 20000 in
theorem ggX6_isOne_X6_kindAbove : GoodIn wsX6_isOne wsX6_kindAbove := goodIn_r _ [4] (by decide +kernel) (by decide +kernel)
set_option maxRecDepth 20000 in
theorem gX6_isOne_X6_kindAbove : GoodIn wsX6_isOne (va_wsS RX6 296 yX6_kindAbove wsX6_kindAbove) := goodIn_app (goodIn_of _ (by decide +kernel)) ggX6_isOne_X6_kindAbove
theorem dX6_isOne_0 : decode cX6_isOne 0 = .ok (.iload_n 0, 1) := by decide +kernel
theorem dX6_isOne_1 : decode cX6_isOne 1 = .ok (.istore_n 2, 1) := by decide +kernel
theorem dX6_isOne_2 : decode cX6_isOne 2 = .ok (.iconst 0, 1) := by decide +kernel
theorem dX6_isOne_3 : decode cX6_isOne 3 = .ok (.istore_n 3, 1) := by decide +kernel
theorem dX6_isOne_4 : decode cX6_isOne 4 = .ok (.iload_n 3, 1) := by decide +kernel
theorem dX6_isOne_5 : decode cX6_isOne 5 = .ok (.bipush 6, 2) := by decide +kernel
theorem dX6_isOne_7 : decode cX6_isOne 7 = .ok (.if_icmp .ge 23, 3) := by decide +kernel
theorem dX6_isOne_10 : decode cX6_isOne 10 = .ok (.iload_n 2, 1) := by decide +kernel
theorem dX6_isOne_11 : decode cX6_isOne 11 = .ok (.ifCond .le 19, 3) := by decide +kernel
theorem dX6_isOne_14 : decode cX6_isOne 14 = .ok (.iload_n 2, 1) := by decide +kernel
theorem dX6_isOne_15 : decode cX6_isOne 15 = .ok (.iload_n 1, 1) := by decide +kernel
theorem dX6_isOne_16 : decode cX6_isOne 16 = .ok (.if_icmp .eq 14, 3) := by decide +kernel
theorem dX6_isOne_19 : decode cX6_isOne 19 = .ok (.iload_n 2, 1) := by decide +kernel
theorem dX6_isOne_20 : decode cX6_isOne 20 = .ok (.invokestatic 296, 3) := by decide +kernel
theorem dX6_isOne_23 : decode cX6_isOne 23 = .ok (.istore_n 2, 1) := by decide +kernel
theorem dX6_isOne_24 : decode cX6_isOne 24 = .ok (.iinc 3 1, 3) := by decide +kernel
theorem dX6_isOne_27 : decode cX6_isOne 27 = .ok (.goto (-23), 3) := by decide +kernel
theorem dX6_isOne_30 : decode cX6_isOne 30 = .ok (.iload_n 2, 1) := by decide +kernel
theorem dX6_isOne_31 : decode cX6_isOne 31 = .ok (.iload_n 1, 1) := by decide +kernel
theorem dX6_isOne_32 : decode cX6_isOne 32 = .ok (.if_icmp .ne 7, 3) := by decide +kernel
theorem dX6_isOne_35 : decode cX6_isOne 35 = .ok (.iconst 1, 1) := by decide +kernel
theorem dX6_isOne_36 : decode cX6_isOne 36 = .ok (.goto 4, 3) := by decide +kernel
theorem dX6_isOne_39 : decode cX6_isOne 39 = .ok (.iconst 0, 1) := by decide +kernel
theorem dX6_isOne_40 : decode cX6_isOne 40 = .ok (.ireturn, 1) := by decide +kernel
theorem dX6_kindAbove_0 : decode cX6_kindAbove 0 = .ok (.iload_n 0, 1) := by decide +kernel
theorem dX6_kindAbove_1 : decode cX6_kindAbove 1 = .ok (.tableswitch 35 2 5 #[31, 31, 35, 33], 31) := by decide +kernel
theorem dX6_kindAbove_32 : decode cX6_kindAbove 32 = .ok (.iconst 1, 1) := by decide +kernel
theorem dX6_kindAbove_33 : decode cX6_kindAbove 33 = .ok (.ireturn, 1) := by decide +kernel
theorem dX6_kindAbove_34 : decode cX6_kindAbove 34 = .ok (.iconst 4, 1) := by decide +kernel
theorem dX6_kindAbove_35 : decode cX6_kindAbove 35 = .ok (.ireturn, 1) := by decide +kernel
theorem dX6_kindAbove_36 : decode cX6_kindAbove 36 = .ok (.iconst 0, 1) := by decide +kernel
theorem dX6_kindAbove_37 : decode cX6_kindAbove 37 = .ok (.ireturn, 1) := by decide +kernel
theorem dX7_init_0 : decode cX7_init 0 = .ok (.aload_n 0, 1) := by decide +kernel
theorem dX7_init_1 : decode cX7_init 1 = .ok (.invokespecial 1, 3) := by decide +kernel
theorem dX7_init_4 : decode cX7_init 4 = .ok (.aload_n 0, 1) := by decide +kernel
theorem dX7_init_5 : decode cX7_init 5 = .ok (.bipush 8, 2) := by decide +kernel
theorem dX7_init_7 : decode cX7_init 7 = .ok (.newarray .int, 2) := by decide +kernel
theorem dX7_init_9 : decode cX7_init 9 = .ok (.putfield 7, 3) := by decide +kernel
theorem dX7_init_12 : decode cX7_init 12 = .ok (.aload_n 0, 1) := by decide +kernel
theorem dX7_init_13 : decode cX7_init 13 = .ok (.bipush 8, 2) := by decide +kernel
theorem dX7_init_15 : decode cX7_init 15 = .ok (.newarray .int, 2) := by decide +kernel
theorem dX7_init_17 : decode cX7_init 17 = .ok (.putfield 13, 3) := by decide +kernel
theorem dX7_init_20 : decode cX7_init 20 = .ok (.aload_n 0, 1) := by decide +kernel
theorem dX7_init_21 : decode cX7_init 21 = .ok (.sipush 320, 3) := by decide +kernel
theorem dX7_init_24 : decode cX7_init 24 = .ok (.newarray .int, 2) := by decide +kernel
theorem dX7_init_26 : decode cX7_init 26 = .ok (.putfield 16, 3) := by decide +kernel
theorem dX7_init_29 : decode cX7_init 29 = .ok (.aload_n 0, 1) := by decide +kernel
theorem dX7_init_30 : decode cX7_init 30 = .ok (.bipush 40, 2) := by decide +kernel
theorem dX7_init_32 : decode cX7_init 32 = .ok (.newarray .int, 2) := by decide +kernel
theorem dX7_init_34 : decode cX7_init 34 = .ok (.putfield 19, 3) := by decide +kernel
theorem dX7_init_37 : decode cX7_init 37 = .ok (.aload_n 0, 1) := by decide +kernel
theorem dX7_init_38 : decode cX7_init 38 = .ok (.bipush 100, 2) := by decide +kernel
theorem dX7_init_40 : decode cX7_init 40 = .ok (.newarray .int, 2) := by decide +kernel
theorem dX7_init_42 : decode cX7_init 42 = .ok (.putfield 22, 3) := by decide +kernel
theorem dX7_init_45 : decode cX7_init 45 = .ok (.aload_n 0, 1) := by decide +kernel
theorem dX7_init_46 : decode cX7_init 46 = .ok (.bipush 28, 2) := by decide +kernel
theorem dX7_init_48 : decode cX7_init 48 = .ok (.newarray .int, 2) := by decide +kernel
theorem dX7_init_50 : decode cX7_init 50 = .ok (.putfield 25, 3) := by decide +kernel
theorem dX7_init_53 : decode cX7_init 53 = .ok (.aload_n 0, 1) := by decide +kernel
theorem dX7_init_54 : decode cX7_init 54 = .ok (.bipush 28, 2) := by decide +kernel
theorem dX7_init_56 : decode cX7_init 56 = .ok (.newarray .int, 2) := by decide +kernel
theorem dX7_init_58 : decode cX7_init 58 = .ok (.putfield 28, 3) := by decide +kernel
theorem dX7_init_61 : decode cX7_init 61 = .ok (.aload_n 0, 1) := by decide +kernel
theorem dX7_init_62 : decode cX7_init 62 = .ok (.bipush 28, 2) := by decide +kernel
theorem dX7_init_64 : decode cX7_init 64 = .ok (.newarray .int, 2) := by decide +kernel
theorem dX7_init_66 : decode cX7_init 66 = .ok (.putfield 31, 3) := by decide +kernel
theorem dX7_init_69 : decode cX7_init 69 = .ok (.aload_n 0, 1) := by decide +kernel
theorem dX7_init_70 : decode cX7_init 70 = .ok (.sipush 672, 3) := by decide +kernel
theorem dX7_init_73 : decode cX7_init 73 = .ok (.newarray .int, 2) := by decide +kernel
theorem dX7_init_75 : decode cX7_init 75 = .ok (.putfield 34, 3) := by decide +kernel
theorem dX7_init_78 : decode cX7_init 78 = .ok (.aload_n 0, 1) := by decide +kernel
theorem dX7_init_79 : decode cX7_init 79 = .ok (.bipush 56, 2) := by decide +kernel
theorem dX7_init_81 : decode cX7_init 81 = .ok (.newarray .int, 2) := by decide +kernel
theorem dX7_init_83 : decode cX7_init 83 = .ok (.putfield 37, 3) := by decide +kernel
theorem dX7_init_86 : decode cX7_init 86 = .ok (.aload_n 0, 1) := by decide +kernel
theorem dX7_init_87 : decode cX7_init 87 = .ok (.iconst 2, 1) := by decide +kernel
theorem dX7_init_88 : decode cX7_init 88 = .ok (.newarray .boolean, 2) := by decide +kernel
theorem dX7_init_90 : decode cX7_init 90 = .ok (.putfield 40, 3) := by decide +kernel
theorem dX7_init_93 : decode cX7_init 93 = .ok (.aload_n 0, 1) := by decide +kernel
theorem dX7_init_94 : decode cX7_init 94 = .ok (.bipush 8, 2) := by decide +kernel
theorem dX7_init_96 : decode cX7_init 96 = .ok (.newarray .int, 2) := by decide +kernel
theorem dX7_init_98 : decode cX7_init 98 = .ok (.putfield 44, 3) := by decide +kernel
theorem dX7_init_101 : decode cX7_init 101 = .ok (.aload_n 0, 1) := by decide +kernel
theorem dX7_init_102 : decode cX7_init 102 = .ok (.bipush 8, 2) := by decide +kernel
theorem dX7_init_104 : decode cX7_init 104 = .ok (.newarray .int, 2) := by decide +kernel
theorem dX7_init_106 : decode cX7_init 106 = .ok (.putfield 47, 3) := by decide +kernel
theorem dX7_init_109 : decode cX7_init 109 = .ok (.aload_n 0, 1) := by decide +kernel
theorem dX7_init_110 : decode cX7_init 110 = .ok (.bipush 8, 2) := by decide +kernel
theorem dX7_init_112 : decode cX7_init 112 = .ok (.newarray .int, 2) := by decide +kernel
theorem dX7_init_114 : decode cX7_init 114 = .ok (.putfield 50, 3) := by decide +kernel
theorem dX7_init_117 : decode cX7_init 117 = .ok (.aload_n 0, 1) := by decide +kernel
theorem dX7_init_118 : decode cX7_init 118 = .ok (.bipush 8, 2) := by decide +kernel
theorem dX7_init_120 : decode cX7_init 120 = .ok (.newarray .int, 2) := by decide +kernel
theorem dX7_init_122 : decode cX7_init 122 = .ok (.putfield 53, 3) := by decide +kernel
theorem dX7_init_125 : decode cX7_init 125 = .ok (.aload_n 0, 1) := by decide +kernel
theorem dX7_init_126 : decode cX7_init 126 = .ok (.bipush 16, 2) := by decide +kernel
theorem dX7_init_128 : decode cX7_init 128 = .ok (.newarray .int, 2) := by decide +kernel
theorem dX7_init_130 : decode cX7_init 130 = .ok (.putfield 56, 3) := by decide +kernel
theorem dX7_init_133 : decode cX7_init 133 = .ok (.iconst 0, 1) := by decide +kernel
theorem dX7_init_134 : decode cX7_init 134 = .ok (.istore_n 1, 1) := by decide +kernel
theorem dX7_init_135 : decode cX7_init 135 = .ok (.iload_n 1, 1) := by decide +kernel
theorem dX7_init_136 : decode cX7_init 136 = .ok (.bipush 8, 2) := by decide +kernel
theorem dX7_init_138 : decode cX7_init 138 = .ok (.if_icmp .ge 17, 3) := by decide +kernel
theorem dX7_init_141 : decode cX7_init 141 = .ok (.aload_n 0, 1) := by decide +kernel
theorem dX7_init_142 : decode cX7_init 142 = .ok (.getfield 7, 3) := by decide +kernel
theorem dX7_init_145 : decode cX7_init 145 = .ok (.iload_n 1, 1) := by decide +kernel
theorem dX7_init_146 : decode cX7_init 146 = .ok (.ldc 59, 2) := by decide +kernel
theorem dX7_init_148 : decode cX7_init 148 = .ok (.iastore, 1) := by decide +kernel
theorem dX7_init_149 : decode cX7_init 149 = .ok (.iinc 1 1, 3) := by decide +kernel
theorem dX7_init_152 : decode cX7_init 152 = .ok (.goto (-17), 3) := by decide +kernel
theorem dX7_init_155 : decode cX7_init 155 = .ok (.return_, 1) := by decide +kernel
theorem dX7_in_0 : decode cX7_in 0 = .ok (.iload_n 0, 1) := by decide +kernel
theorem dX7_in_1 : decode cX7_in 1 = .ok (.iload_n 1, 1) := by decide +kernel
theorem dX7_in_2 : decode cX7_in 2 = .ok (.if_icmp .lt 12, 3) := by decide +kernel
theorem dX7_in_5 : decode cX7_in 5 = .ok (.iload_n 0, 1) := by decide +kernel
theorem dX7_in_6 : decode cX7_in 6 = .ok (.iload_n 2, 1) := by decide +kernel
theorem dX7_in_7 : decode cX7_in 7 = .ok (.if_icmp .gt 7, 3) := by decide +kernel
theorem dX7_in_10 : decode cX7_in 10 = .ok (.iconst 1, 1) := by decide +kernel
theorem dX7_in_11 : decode cX7_in 11 = .ok (.goto 4, 3) := by decide +kernel
theorem dX7_in_14 : decode cX7_in 14 = .ok (.iconst 0, 1) := by decide +kernel
theorem dX7_in_15 : decode cX7_in 15 = .ok (.ireturn, 1) := by decide +kernel
theorem dX7_has_0 : decode cX7_has 0 = .ok (.iload_n 0, 1) := by decide +kernel
theorem dX7_has_1 : decode cX7_has 1 = .ok (.iload_n 1, 1) := by decide +kernel
theorem dX7_has_2 : decode cX7_has 2 = .ok (.ishr, 1) := by decide +kernel
theorem dX7_has_3 : decode cX7_has 3 = .ok (.iconst 1, 1) := by decide +kernel
theorem dX7_has_4 : decode cX7_has 4 = .ok (.iand, 1) := by decide +kernel
theorem dX7_has_5 : decode cX7_has 5 = .ok (.iconst 1, 1) := by decide +kernel
theorem dX7_has_6 : decode cX7_has 6 = .ok (.if_icmp .ne 7, 3) := by decide +kernel
theorem dX7_has_9 : decode cX7_has 9 = .ok (.iconst 1, 1) := by decide +kernel
theorem dX7_has_10 : decode cX7_has 10 = .ok (.goto 4, 3) := by decide +kernel
theorem dX7_has_13 : decode cX7_has 13 = .ok (.iconst 0, 1) := by decide +kernel
theorem dX7_has_14 : decode cX7_has 14 = .ok (.ireturn, 1) := by decide +kernel
theorem dX7_ones_0 : decode cX7_ones 0 = .ok (.iconst 0, 1) := by decide +kernel
theorem dX7_ones_1 : decode cX7_ones 1 = .ok (.istore_n 1, 1) := by decide +kernel
theorem dX7_ones_2 : decode cX7_ones 2 = .ok (.iconst 0, 1) := by decide +kernel
theorem dX7_ones_3 : decode cX7_ones 3 = .ok (.istore_n 2, 1) := by decide +kernel
theorem dX7_ones_4 : decode cX7_ones 4 = .ok (.iload_n 2, 1) := by decide +kernel
theorem dX7_ones_5 : decode cX7_ones 5 = .ok (.bipush 7, 2) := by decide +kernel
theorem dX7_ones_7 : decode cX7_ones 7 = .ok (.if_icmp .ge 17, 3) := by decide +kernel
theorem dX7_ones_10 : decode cX7_ones 10 = .ok (.iload_n 1, 1) := by decide +kernel
theorem dX7_ones_11 : decode cX7_ones 11 = .ok (.iload_n 0, 1) := by decide +kernel
theorem dX7_ones_12 : decode cX7_ones 12 = .ok (.iload_n 2, 1) := by decide +kernel
theorem dX7_ones_13 : decode cX7_ones 13 = .ok (.ishr, 1) := by decide +kernel
theorem dX7_ones_14 : decode cX7_ones 14 = .ok (.iconst 1, 1) := by decide +kernel
theorem dX7_ones_15 : decode cX7_ones 15 = .ok (.iand, 1) := by decide +kernel
theorem dX7_ones_16 : decode cX7_ones 16 = .ok (.iadd, 1) := by decide +kernel
theorem dX7_ones_17 : decode cX7_ones 17 = .ok (.istore_n 1, 1) := by decide +kernel
theorem dX7_ones_18 : decode cX7_ones 18 = .ok (.iinc 2 1, 3) := by decide +kernel
theorem dX7_ones_21 : decode cX7_ones 21 = .ok (.goto (-17), 3) := by decide +kernel
theorem dX7_ones_24 : decode cX7_ones 24 = .ok (.iload_n 1, 1) := by decide +kernel
theorem dX7_ones_25 : decode cX7_ones 25 = .ok (.ireturn, 1) := by decide +kernel
theorem dX7_lesser_0 : decode cX7_lesser 0 = .ok (.iload_n 0, 1) := by decide +kernel
theorem dX7_lesser_1 : decode cX7_lesser 1 = .ok (.iload_n 1, 1) := by decide +kernel
theorem dX7_lesser_2 : decode cX7_lesser 2 = .ok (.if_icmp .ge 7, 3) := by decide +kernel
theorem dX7_lesser_5 : decode cX7_lesser 5 = .ok (.iload_n 0, 1) := by decide +kernel
theorem dX7_lesser_6 : decode cX7_lesser 6 = .ok (.goto 4, 3) := by decide +kernel
theorem dX7_lesser_9 : decode cX7_lesser 9 = .ok (.iload_n 1, 1) := by decide +kernel
theorem dX7_lesser_10 : decode cX7_lesser 10 = .ok (.ireturn, 1) := by decide +kernel
theorem dX7_found_0 : decode cX7_found 0 = .ok (.aload_n 0, 1) := by decide +kernel
theorem dX7_found_1 : decode cX7_found 1 = .ok (.iload_n 1, 1) := by decide +kernel
theorem dX7_found_2 : decode cX7_found 2 = .ok (.putfield 60, 3) := by decide +kernel
theorem dX7_found_5 : decode cX7_found 5 = .ok (.ldc 64, 2) := by decide +kernel
theorem dX7_found_7 : decode cX7_found 7 = .ok (.iload_n 1, 1) := by decide +kernel
theorem dX7_found_8 : decode cX7_found 8 = .ok (.isub, 1) := by decide +kernel
theorem dX7_found_9 : decode cX7_found 9 = .ok (.ireturn, 1) := by decide +kernel
theorem dX7_well_0 : decode cX7_well 0 = .ok (.aload_n 0, 1) := by decide +kernel
theorem dX7_well_1 : decode cX7_well 1 = .ok (.iconst 0, 1) := by decide +kernel
theorem dX7_well_2 : decode cX7_well 2 = .ok (.putfield 60, 3) := by decide +kernel
theorem dX7_well_5 : decode cX7_well 5 = .ok (.iload_n 1, 1) := by decide +kernel
theorem dX7_well_6 : decode cX7_well 6 = .ok (.ireturn, 1) := by decide +kernel
theorem dX7_copies_0 : decode cX7_copies 0 = .ok (.iconst 0, 1) := by decide +kernel
theorem dX7_copies_1 : decode cX7_copies 1 = .ok (.istore 4, 2) := by decide +kernel
theorem dX7_copies_3 : decode cX7_copies 3 = .ok (.iload 4, 2) := by decide +kernel
theorem dX7_copies_5 : decode cX7_copies 5 = .ok (.bipush 28, 2) := by decide +kernel
theorem dX7_copies_7 : decode cX7_copies 7 = .ok (.if_icmp .ge 21, 3) := by decide +kernel
theorem dX7_copies_10 : decode cX7_copies 10 = .ok (.aload_n 2, 1) := by decide +kernel
theorem dX7_copies_11 : decode cX7_copies 11 = .ok (.iload_n 3, 1) := by decide +kernel
theorem dX7_copies_12 : decode cX7_copies 12 = .ok (.iload 4, 2) := by decide +kernel
theorem dX7_copies_14 : decode cX7_copies 14 = .ok (.iadd, 1) := by decide +kernel
theorem dX7_copies_15 : decode cX7_copies 15 = .ok (.aload_n 0, 1) := by decide +kernel
theorem dX7_copies_16 : decode cX7_copies 16 = .ok (.iload_n 1, 1) := by decide +kernel
theorem dX7_copies_17 : decode cX7_copies 17 = .ok (.iload 4, 2) := by decide +kernel
theorem dX7_copies_19 : decode cX7_copies 19 = .ok (.iadd, 1) := by decide +kernel
theorem dX7_copies_20 : decode cX7_copies 20 = .ok (.iaload, 1) := by decide +kernel
theorem dX7_copies_21 : decode cX7_copies 21 = .ok (.iastore, 1) := by decide +kernel
theorem dX7_copies_22 : decode cX7_copies 22 = .ok (.iinc 4 1, 3) := by decide +kernel
theorem dX7_copies_25 : decode cX7_copies 25 = .ok (.goto (-22), 3) := by decide +kernel
theorem dX7_copies_28 : decode cX7_copies 28 = .ok (.return_, 1) := by decide +kernel
set_option maxRecDepth 20000 in
theorem ggX7_isRow_X7_in : GoodIn wsX7_isRow wsX7_in := goodIn_r _ [4] (by decide +kernel) (by decide +kernel)
set_option maxRecDepth 20000 in
theorem gX7_isRow_X7_in : GoodIn wsX7_isRow (va_wsS RX7 65 yX7_in wsX7_in) := goodIn_app (goodIn_of _ (by decide +kernel)) ggX7_isRow_X7_in
theorem dX7_isRow_0 : decode cX7_isRow 0 = .ok (.iload_n 0, 1) := by decide +kernel
theorem dX7_isRow_1 : decode cX7_isRow 1 = .ok (.iconst 0, 1) := by decide +kernel
theorem dX7_isRow_2 : decode cX7_isRow 2 = .ok (.bipush 7, 2) := by decide +kernel
theorem dX7_isRow_4 : decode cX7_isRow 4 = .ok (.invokestatic 65, 3) := by decide +kernel
theorem dX7_isRow_7 : decode cX7_isRow 7 = .ok (.ireturn, 1) := by decide +kernel
theorem dX7_isMissing_0 : decode cX7_isMissing 0 = .ok (.aload_n 0, 1) := by decide +kernel
theorem dX7_isMissing_1 : decode cX7_isMissing 1 = .ok (.getfield 7, 3) := by decide +kernel
theorem dX7_isMissing_4 : decode cX7_isMissing 4 = .ok (.iload_n 1, 1) := by decide +kernel
theorem dX7_isMissing_5 : decode cX7_isMissing 5 = .ok (.iaload, 1) := by decide +kernel
theorem dX7_isMissing_6 : decode cX7_isMissing 6 = .ok (.ldc 59, 2) := by decide +kernel
theorem dX7_isMissing_8 : decode cX7_isMissing 8 = .ok (.if_icmp .ne 7, 3) := by decide +kernel
theorem dX7_isMissing_11 : decode cX7_isMissing 11 = .ok (.iconst 1, 1) := by decide +kernel
theorem dX7_isMissing_12 : decode cX7_isMissing 12 = .ok (.goto 4, 3) := by decide +kernel
theorem dX7_isMissing_15 : decode cX7_isMissing 15 = .ok (.iconst 0, 1) := by decide +kernel
theorem dX7_isMissing_16 : decode cX7_isMissing 16 = .ok (.ireturn, 1) := by decide +kernel
theorem dX7_cut_0 : decode cX7_cut 0 = .ok (.iload_n 0, 1) := by decide +kernel
theorem dX7_cut_1 : decode cX7_cut 1 = .ok (.ifCond .ne 13, 3) := by decide +kernel
theorem dX7_cut_4 : decode cX7_cut 4 = .ok (.iload_n 1, 1) := by decide +kernel
theorem dX7_cut_5 : decode cX7_cut 5 = .ok (.bipush 24, 2) := by decide +kernel
theorem dX7_cut_7 : decode cX7_cut 7 = .ok (.ishl, 1) := by decide +kernel
theorem dX7_cut_8 : decode cX7_cut 8 = .ok (.bipush 24, 2) := by decide +kernel
theorem dX7_cut_10 : decode cX7_cut 10 = .ok (.ishr, 1) := by decide +kernel
theorem dX7_cut_11 : decode cX7_cut 11 = .ok (.goto 19, 3) := by decide +kernel
theorem dX7_cut_14 : decode cX7_cut 14 = .ok (.iload_n 0, 1) := by decide +kernel
theorem dX7_cut_15 : decode cX7_cut 15 = .ok (.iconst 1, 1) := by decide +kernel
theorem dX7_cut_16 : decode cX7_cut 16 = .ok (.if_icmp .ne 13, 3) := by decide +kernel
theorem dX7_cut_19 : decode cX7_cut 19 = .ok (.iload_n 1, 1) := by decide +kernel
theorem dX7_cut_20 : decode cX7_cut 20 = .ok (.bipush 16, 2) := by decide +kernel
theorem dX7_cut_22 : decode cX7_cut 22 = .ok (.ishl, 1) := by decide +kernel
theorem dX7_cut_23 : decode cX7_cut 23 = .ok (.bipush 16, 2) := by decide +kernel
theorem dX7_cut_25 : decode cX7_cut 25 = .ok (.ishr, 1) := by decide +kernel
theorem dX7_cut_26 : decode cX7_cut 26 = .ok (.goto 4, 3) := by decide +kernel
theorem dX7_cut_29 : decode cX7_cut 29 = .ok (.iload_n 1, 1) := by decide +kernel
theorem dX7_cut_30 : decode cX7_cut 30 = .ok (.ireturn, 1) := by decide +kernel
set_option maxRecDepth 20000 in
theorem ggX7_row_X7_isRow : GoodIn wsX7_row wsX7_isRow := goodIn_r _ [8, 9, 10, 7, 11] (by decide +kernel) (by decide +kernel)
set_option maxRecDepth 20000 in
theorem gX7_row_X7_isRow : GoodIn wsX7_row (va_wsS RX7 69 yX7_isRow wsX7_isRow) := goodIn_app (goodIn_of _ (by decide +kernel)) ggX7_row_X7_isRow
set_option maxRecDepth 20000 in
theorem ggX7_row_X7_in : GoodIn wsX7_row wsX7_in := goodIn_r _ [11] (by decide +kernel) (by decide +kernel)
set_option maxRecDepth 20000 in
theorem gX7_row_X7_in : GoodIn wsX7_row (va_wsS RX7 65 yX7_in wsX7_in) := goodIn_app (goodIn_of _ (by decide +kernel)) ggX7_row_X7_in
set_option maxRecDepth 20000 in
theorem ggX7_row_X7_found : GoodIn wsX7_row wsX7_found := goodIn_r _ [15, 16, 17, 22, 23, 24, 25, 26, 27, 28, 29, 30, 31, 32, 33, 34, 35, 36, 37, 38, 39, 40, 41, 42, 43, 44, 45, 46, 47, 48, 49] (by decide +kernel) (by decide +kernel)
set_option maxRecDepth 20000 in
theorem gX7_row_X7_found : GoodIn wsX7_row (wsV RX7 74 RX7 yX7_found wsX7_found) := goodIn_app (goodIn_of _ (by decide +kernel)) ggX7_row_X7_found
set_option maxRecDepth 20000 in
theorem ggX7_row_X7_well : GoodIn wsX7_row wsX7_well := goodIn_r _ [21, 16, 22, 23, 24, 25, 26, 27, 28, 29, 30, 31, 32, 33, 34, 35, 36, 37, 38, 39, 40, 41, 42, 43, 44, 45, 46, 47, 48, 49] (by decide +kernel) (by decide +kernel)
set_option maxRecDepth 20000 in
theorem gX7_row_X7_well : GoodIn wsX7_row (wsV RX7 78 RX7 yX7_well wsX7_well) := goodIn_app (goodIn_of _ (by decide +kernel)) ggX7_row_X7_well
theorem dX7_row_0 : decode cX7_row 0 = .ok (.iload_n 1, 1) := by decide +kernel
theorem dX7_row_1 : decode cX7_row 1 = .ok (.invokestatic 69, 3) := by decide +kernel
theorem dX7_row_4 : decode cX7_row 4 = .ok (.ifCond .eq 18, 3) := by decide +kernel
theorem dX7_row_7 : decode cX7_row 7 = .ok (.iload_n 2, 1) := by decide +kernel
theorem dX7_row_8 : decode cX7_row 8 = .ok (.iconst 0, 1) := by decide +kernel
theorem dX7_row_9 : decode cX7_row 9 = .ok (.iconst 2, 1) := by decide +kernel
theorem dX7_row_10 : decode cX7_row 10 = .ok (.invokestatic 65, 3) := by decide +kernel
theorem dX7_row_13 : decode cX7_row 13 = .ok (.ifCond .eq 9, 3) := by decide +kernel
theorem dX7_row_16 : decode cX7_row 16 = .ok (.iload_n 3, 1) := by decide +kernel
theorem dX7_row_17 : decode cX7_row 17 = .ok (.bipush 40, 2) := by decide +kernel
theorem dX7_row_19 : decode cX7_row 19 = .ok (.if_icmp .le 6, 3) := by decide +kernel
theorem dX7_row_22 : decode cX7_row 22 = .ok (.ldc 73, 2) := by decide +kernel
theorem dX7_row_24 : decode cX7_row 24 = .ok (.ireturn, 1) := by decide +kernel
theorem dX7_row_25 : decode cX7_row 25 = .ok (.iload_n 3, 1) := by decide +kernel
theorem dX7_row_26 : decode cX7_row 26 = .ok (.ifCond .ge 9, 3) := by decide +kernel
theorem dX7_row_29 : decode cX7_row 29 = .ok (.aload_n 0, 1) := by decide +kernel
theorem dX7_row_30 : decode cX7_row 30 = .ok (.iconst 4, 1) := by decide +kernel
theorem dX7_row_31 : decode cX7_row 31 = .ok (.invokevirtual 74, 3) := by decide +kernel
theorem dX7_row_34 : decode cX7_row 34 = .ok (.ireturn, 1) := by decide +kernel
theorem dX7_row_35 : decode cX7_row 35 = .ok (.aload_n 0, 1) := by decide +kernel
theorem dX7_row_36 : decode cX7_row 36 = .ok (.getfield 7, 3) := by decide +kernel
theorem dX7_row_39 : decode cX7_row 39 = .ok (.iload_n 1, 1) := by decide +kernel
theorem dX7_row_40 : decode cX7_row 40 = .ok (.iload_n 2, 1) := by decide +kernel
theorem dX7_row_41 : decode cX7_row 41 = .ok (.iastore, 1) := by decide +kernel
theorem dX7_row_42 : decode cX7_row 42 = .ok (.aload_n 0, 1) := by decide +kernel
theorem dX7_row_43 : decode cX7_row 43 = .ok (.getfield 13, 3) := by decide +kernel
theorem dX7_row_46 : decode cX7_row 46 = .ok (.iload_n 1, 1) := by decide +kernel
theorem dX7_row_47 : decode cX7_row 47 = .ok (.iload_n 3, 1) := by decide +kernel
theorem dX7_row_48 : decode cX7_row 48 = .ok (.iastore, 1) := by decide +kernel
theorem dX7_row_49 : decode cX7_row 49 = .ok (.iconst 0, 1) := by decide +kernel
theorem dX7_row_50 : decode cX7_row 50 = .ok (.istore 4, 2) := by decide +kernel
theorem dX7_row_52 : decode cX7_row 52 = .ok (.iload 4, 2) := by decide +kernel
theorem dX7_row_54 : decode cX7_row 54 = .ok (.bipush 40, 2) := by decide +kernel
theorem dX7_row_56 : decode cX7_row 56 = .ok (.if_icmp .ge 22, 3) := by decide +kernel
theorem dX7_row_59 : decode cX7_row 59 = .ok (.aload_n 0, 1) := by decide +kernel
theorem dX7_row_60 : decode cX7_row 60 = .ok (.getfield 16, 3) := by decide +kernel
theorem dX7_row_63 : decode cX7_row 63 = .ok (.bipush 40, 2) := by decide +kernel

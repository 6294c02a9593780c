theorem dX7_row_65 : decode cX7_row 65 = .ok (.iload_n 1, 1) := by decide +kernel
theorem dX7_row_66 : decode cX7_row 66 = .ok (.imul, 1) := by decide +kernel
theorem dX7_row_67 : decode cX7_row 67 = .ok (.iload 4, 2) := by decide +kernel
theorem dX7_row_69 : decode cX7_row 69 = .ok (.iadd, 1) := by decide +kernel
theorem dX7_row_70 : decode cX7_row 70 = .ok (.iconst 0, 1) := by decide +kernel
theorem dX7_row_71 : decode cX7_row 71 = .ok (.iastore, 1) := by decide +kernel
theorem dX7_row_72 : decode cX7_row 72 = .ok (.iinc 4 1, 3) := by decide +kernel
theorem dX7_row_75 : decode cX7_row 75 = .ok (.goto (-23), 3) := by decide +kernel
theorem dX7_row_78 : decode cX7_row 78 = .ok (.aload_n 0, 1) := by decide +kernel
theorem dX7_row_79 : decode cX7_row 79 = .ok (.iload_n 3, 1) := by decide +kernel
theorem dX7_row_80 : decode cX7_row 80 = .ok (.invokevirtual 78, 3) := by decide +kernel
theorem dX7_row_83 : decode cX7_row 83 = .ok (.ireturn, 1) := by decide +kernel
set_option maxRecDepth 20000 in
theorem ggX7_set_X7_isRow : GoodIn wsX7_set wsX7_isRow := goodIn_r _ [8, 9, 10, 7, 11] (by decide +kernel) (by decide +kernel)
set_option maxRecDepth 20000 in
theorem gX7_set_X7_isRow : GoodIn wsX7_set (va_wsS RX7 69 yX7_isRow wsX7_isRow) := goodIn_app (goodIn_of _ (by decide +kernel)) ggX7_set_X7_isRow
set_option maxRecDepth 20000 in
theorem ggX7_set_X7_isMissing : GoodIn wsX7_set wsX7_isMissing := goodIn_r _ [15, 4, 16, 30, 31, 32, 33, 34, 35, 36, 37, 38, 39, 40, 41, 42, 43, 44, 45, 46, 47, 48, 49, 50, 51, 52, 53, 54, 55, 56, 57] (by decide +kernel) (by decide +kernel)
set_option maxRecDepth 20000 in
theorem gX7_set_X7_isMissing : GoodIn wsX7_set (wsV RX7 81 RX7 yX7_isMissing wsX7_isMissing) := goodIn_app (goodIn_of _ (by decide +kernel)) ggX7_set_X7_isMissing
set_option maxRecDepth 20000 in
theorem ggX7_set_X7_found : GoodIn wsX7_set wsX7_found := goodIn_r _ [20, 21, 22, 30, 31, 32, 33, 34, 35, 36, 37, 38, 39, 40, 41, 42, 43, 44, 45, 46, 47, 48, 49, 50, 51, 52, 53, 54, 55, 56, 57] (by decide +kernel) (by decide +kernel)
set_option maxRecDepth 20000 in
theorem gX7_set_X7_found : GoodIn wsX7_set (wsV RX7 74 RX7 yX7_found wsX7_found) := goodIn_app (goodIn_of _ (by decide +kernel)) ggX7_set_X7_found
set_option maxRecDepth 20000 in
theorem ggX7_set_X7_in : GoodIn wsX7_set wsX7_in := goodIn_r _ [11] (by decide +kernel) (by decide +kernel)
set_option maxRecDepth 20000 in
theorem gX7_set_X7_in : GoodIn wsX7_set (va_wsS RX7 65 yX7_in wsX7_in) := goodIn_app (goodIn_of _ (by decide +kernel)) ggX7_set_X7_in
set_option maxRecDepth 20000 in
theorem ggX7_set_X7_cut : GoodIn wsX7_set wsX7_cut := goodIn_r _ [25] (by decide +kernel) (by decide +kernel)
set_option maxRecDepth 20000 in
theorem gX7_set_X7_cut : GoodIn wsX7_set (va_wsS RX7 84 yX7_cut wsX7_cut) := goodIn_app (goodIn_of _ (by decide +kernel)) ggX7_set_X7_cut
set_option maxRecDepth 20000 in
theorem ggX7_set_X7_well : GoodIn wsX7_set wsX7_well := goodIn_r _ [29, 21, 30, 31, 32, 33, 34, 35, 36, 37, 38, 39, 40, 41, 42, 43, 44, 45, 46, 47, 48, 49, 50, 51, 52, 53, 54, 55, 56, 57] (by decide +kernel) (by decide +kernel)
set_option maxRecDepth 20000 in
theorem gX7_set_X7_well : GoodIn wsX7_set (wsV RX7 78 RX7 yX7_well wsX7_well) := goodIn_app (goodIn_of _ (by decide +kernel)) ggX7_set_X7_well
theorem dX7_set_0 : decode cX7_set 0 = .ok (.iload_n 1, 1) := by decide +kernel
theorem dX7_set_1 : decode cX7_set 1 = .ok (.invokestatic 69, 3) := by decide +kernel
theorem dX7_set_4 : decode cX7_set 4 = .ok (.ifCond .ne 6, 3) := by decide +kernel
theorem dX7_set_7 : decode cX7_set 7 = .ok (.ldc 73, 2) := by decide +kernel
theorem dX7_set_9 : decode cX7_set 9 = .ok (.ireturn, 1) := by decide +kernel
theorem dX7_set_10 : decode cX7_set 10 = .ok (.aload_n 0, 1) := by decide +kernel
theorem dX7_set_11 : decode cX7_set 11 = .ok (.iload_n 1, 1) := by decide +kernel
theorem dX7_set_12 : decode cX7_set 12 = .ok (.invokevirtual 81, 3) := by decide +kernel
theorem dX7_set_15 : decode cX7_set 15 = .ok (.ifCond .eq 9, 3) := by decide +kernel
theorem dX7_set_18 : decode cX7_set 18 = .ok (.aload_n 0, 1) := by decide +kernel
theorem dX7_set_19 : decode cX7_set 19 = .ok (.iconst 1, 1) := by decide +kernel
theorem dX7_set_20 : decode cX7_set 20 = .ok (.invokevirtual 74, 3) := by decide +kernel
theorem dX7_set_23 : decode cX7_set 23 = .ok (.ireturn, 1) := by decide +kernel
theorem dX7_set_24 : decode cX7_set 24 = .ok (.iload_n 2, 1) := by decide +kernel
theorem dX7_set_25 : decode cX7_set 25 = .ok (.iconst 0, 1) := by decide +kernel
theorem dX7_set_26 : decode cX7_set 26 = .ok (.aload_n 0, 1) := by decide +kernel
theorem dX7_set_27 : decode cX7_set 27 = .ok (.getfield 13, 3) := by decide +kernel
theorem dX7_set_30 : decode cX7_set 30 = .ok (.iload_n 1, 1) := by decide +kernel
theorem dX7_set_31 : decode cX7_set 31 = .ok (.iaload, 1) := by decide +kernel
theorem dX7_set_32 : decode cX7_set 32 = .ok (.iconst 1, 1) := by decide +kernel
theorem dX7_set_33 : decode cX7_set 33 = .ok (.isub, 1) := by decide +kernel
theorem dX7_set_34 : decode cX7_set 34 = .ok (.invokestatic 65, 3) := by decide +kernel
theorem dX7_set_37 : decode cX7_set 37 = .ok (.ifCond .ne 9, 3) := by decide +kernel
theorem dX7_set_40 : decode cX7_set 40 = .ok (.aload_n 0, 1) := by decide +kernel
theorem dX7_set_41 : decode cX7_set 41 = .ok (.iconst 2, 1) := by decide +kernel
theorem dX7_set_42 : decode cX7_set 42 = .ok (.invokevirtual 74, 3) := by decide +kernel
theorem dX7_set_45 : decode cX7_set 45 = .ok (.ireturn, 1) := by decide +kernel
theorem dX7_set_46 : decode cX7_set 46 = .ok (.aload_n 0, 1) := by decide +kernel
theorem dX7_set_47 : decode cX7_set 47 = .ok (.getfield 16, 3) := by decide +kernel
theorem dX7_set_50 : decode cX7_set 50 = .ok (.bipush 40, 2) := by decide +kernel
theorem dX7_set_52 : decode cX7_set 52 = .ok (.iload_n 1, 1) := by decide +kernel
theorem dX7_set_53 : decode cX7_set 53 = .ok (.imul, 1) := by decide +kernel
theorem dX7_set_54 : decode cX7_set 54 = .ok (.iload_n 2, 1) := by decide +kernel
theorem dX7_set_55 : decode cX7_set 55 = .ok (.iadd, 1) := by decide +kernel
theorem dX7_set_56 : decode cX7_set 56 = .ok (.aload_n 0, 1) := by decide +kernel
theorem dX7_set_57 : decode cX7_set 57 = .ok (.getfield 7, 3) := by decide +kernel
theorem dX7_set_60 : decode cX7_set 60 = .ok (.iload_n 1, 1) := by decide +kernel
theorem dX7_set_61 : decode cX7_set 61 = .ok (.iaload, 1) := by decide +kernel
theorem dX7_set_62 : decode cX7_set 62 = .ok (.iload_n 3, 1) := by decide +kernel
theorem dX7_set_63 : decode cX7_set 63 = .ok (.invokestatic 84, 3) := by decide +kernel
theorem dX7_set_66 : decode cX7_set 66 = .ok (.iastore, 1) := by decide +kernel
theorem dX7_set_67 : decode cX7_set 67 = .ok (.aload_n 0, 1) := by decide +kernel
theorem dX7_set_68 : decode cX7_set 68 = .ok (.aload_n 0, 1) := by decide +kernel
theorem dX7_set_69 : decode cX7_set 69 = .ok (.getfield 16, 3) := by decide +kernel
theorem dX7_set_72 : decode cX7_set 72 = .ok (.bipush 40, 2) := by decide +kernel
theorem dX7_set_74 : decode cX7_set 74 = .ok (.iload_n 1, 1) := by decide +kernel
theorem dX7_set_75 : decode cX7_set 75 = .ok (.imul, 1) := by decide +kernel
theorem dX7_set_76 : decode cX7_set 76 = .ok (.iload_n 2, 1) := by decide +kernel
theorem dX7_set_77 : decode cX7_set 77 = .ok (.iadd, 1) := by decide +kernel
theorem dX7_set_78 : decode cX7_set 78 = .ok (.iaload, 1) := by decide +kernel
theorem dX7_set_79 : decode cX7_set 79 = .ok (.invokevirtual 78, 3) := by decide +kernel
theorem dX7_set_82 : decode cX7_set 82 = .ok (.ireturn, 1) := by decide +kernel
theorem dX7_isPart_0 : decode cX7_isPart 0 = .ok (.iload_n 2, 1) := by decide +kernel
theorem dX7_isPart_1 : decode cX7_isPart 1 = .ok (.ifCond .lt 33, 3) := by decide +kernel
theorem dX7_isPart_4 : decode cX7_isPart 4 = .ok (.iload_n 3, 1) := by decide +kernel
theorem dX7_isPart_5 : decode cX7_isPart 5 = .ok (.ifCond .lt 29, 3) := by decide +kernel
theorem dX7_isPart_8 : decode cX7_isPart 8 = .ok (.iload_n 2, 1) := by decide +kernel
theorem dX7_isPart_9 : decode cX7_isPart 9 = .ok (.aload_n 0, 1) := by decide +kernel
theorem dX7_isPart_10 : decode cX7_isPart 10 = .ok (.getfield 13, 3) := by decide +kernel
theorem dX7_isPart_13 : decode cX7_isPart 13 = .ok (.iload_n 1, 1) := by decide +kernel
theorem dX7_isPart_14 : decode cX7_isPart 14 = .ok (.iaload, 1) := by decide +kernel
theorem dX7_isPart_15 : decode cX7_isPart 15 = .ok (.if_icmp .gt 19, 3) := by decide +kernel
theorem dX7_isPart_18 : decode cX7_isPart 18 = .ok (.iload_n 3, 1) := by decide +kernel
theorem dX7_isPart_19 : decode cX7_isPart 19 = .ok (.aload_n 0, 1) := by decide +kernel
theorem dX7_isPart_20 : decode cX7_isPart 20 = .ok (.getfield 13, 3) := by decide +kernel
theorem dX7_isPart_23 : decode cX7_isPart 23 = .ok (.iload_n 1, 1) := by decide +kernel
theorem dX7_isPart_24 : decode cX7_isPart 24 = .ok (.iaload, 1) := by decide +kernel
theorem dX7_isPart_25 : decode cX7_isPart 25 = .ok (.iload_n 2, 1) := by decide +kernel
theorem dX7_isPart_26 : decode cX7_isPart 26 = .ok (.isub, 1) := by decide +kernel
theorem dX7_isPart_27 : decode cX7_isPart 27 = .ok (.if_icmp .gt 7, 3) := by decide +kernel
theorem dX7_isPart_30 : decode cX7_isPart 30 = .ok (.iconst 1, 1) := by decide +kernel
theorem dX7_isPart_31 : decode cX7_isPart 31 = .ok (.goto 4, 3) := by decide +kernel
theorem dX7_isPart_34 : decode cX7_isPart 34 = .ok (.iconst 0, 1) := by decide +kernel
theorem dX7_isPart_35 : decode cX7_isPart 35 = .ok (.ireturn, 1) := by decide +kernel
set_option maxRecDepth 20000 in
theorem ggX7_copy_X7_isRow : GoodIn wsX7_copy wsX7_isRow := goodIn_r _ [8, 9, 10, 7, 11] (by decide +kernel) (by decide +kernel)
set_option maxRecDepth 20000 in
theorem gX7_copy_X7_isRow : GoodIn wsX7_copy (va_wsS RX7 69 yX7_isRow wsX7_isRow) := goodIn_app (goodIn_of _ (by decide +kernel)) ggX7_copy_X7_isRow
set_option maxRecDepth 20000 in
theorem ggX7_copy_X7_isMissing : GoodIn wsX7_copy wsX7_isMissing := goodIn_r _ [15, 2, 16, 32, 33, 34, 35, 36, 37, 38, 39, 40, 41, 42, 43, 44, 45, 46, 47, 48, 49, 50, 51, 52, 53, 54, 55, 56, 57, 58, 59] (by decide +kernel) (by decide +kernel)
set_option maxRecDepth 20000 in
theorem gX7_copy_X7_isMissing : GoodIn wsX7_copy (wsV RX7 81 RX7 yX7_isMissing wsX7_isMissing) := goodIn_app (goodIn_of _ (by decide +kernel)) ggX7_copy_X7_isMissing
set_option maxRecDepth 20000 in
theorem ggX7_copy_X7_found : GoodIn wsX7_copy wsX7_found := goodIn_r _ [20, 21, 22, 32, 33, 34, 35, 36, 37, 38, 39, 40, 41, 42, 43, 44, 45, 46, 47, 48, 49, 50, 51, 52, 53, 54, 55, 56, 57, 58, 59] (by decide +kernel) (by decide +kernel)
set_option maxRecDepth 20000 in
theorem gX7_copy_X7_found : GoodIn wsX7_copy (wsV RX7 74 RX7 yX7_found wsX7_found) := goodIn_app (goodIn_of _ (by decide +kernel)) ggX7_copy_X7_found
set_option maxRecDepth 20000 in
theorem ggX7_copy_X7_isPart : GoodIn wsX7_copy wsX7_isPart := goodIn_r _ [26, 27, 32, 33, 34, 35, 36, 37, 38, 39, 40, 41, 42, 43, 44, 45, 46, 47, 48, 49, 50, 51, 52, 53, 54, 55, 56, 57, 58, 59] (by decide +kernel) (by decide +kernel)
set_option maxRecDepth 20000 in
theorem gX7_copy_X7_isPart : GoodIn wsX7_copy (wsV RX7 88 RX7 yX7_isPart wsX7_isPart) := goodIn_app (goodIn_of _ (by decide +kernel)) ggX7_copy_X7_isPart
set_option maxRecDepth 20000 in
theorem ggX7_copy_X7_well : GoodIn wsX7_copy wsX7_well := goodIn_r _ [31, 21, 32, 33, 34, 35, 36, 37, 38, 39, 40, 41, 42, 43, 44, 45, 46, 47, 48, 49, 50, 51, 52, 53, 54, 55, 56, 57, 58, 59] (by decide +kernel) (by decide +kernel)
set_option maxRecDepth 20000 in
theorem gX7_copy_X7_well : GoodIn wsX7_copy (wsV RX7 78 RX7 yX7_well wsX7_well) := goodIn_app (goodIn_of _ (by decide +kernel)) ggX7_copy_X7_well
theorem dX7_copy_0 : decode cX7_copy 0 = .ok (.iload_n 1, 1) := by decide +kernel
theorem dX7_copy_1 : decode cX7_copy 1 = .ok (.invokestatic 69, 3) := by decide +kernel
theorem dX7_copy_4 : decode cX7_copy 4 = .ok (.ifCond .eq 10, 3) := by decide +kernel
theorem dX7_copy_7 : decode cX7_copy 7 = .ok (.iload_n 3, 1) := by decide +kernel
theorem dX7_copy_8 : decode cX7_copy 8 = .ok (.invokestatic 69, 3) := by decide +kernel
theorem dX7_copy_11 : decode cX7_copy 11 = .ok (.ifCond .ne 6, 3) := by decide +kernel
theorem dX7_copy_14 : decode cX7_copy 14 = .ok (.ldc 73, 2) := by decide +kernel
theorem dX7_copy_16 : decode cX7_copy 16 = .ok (.ireturn, 1) := by decide +kernel
theorem dX7_copy_17 : decode cX7_copy 17 = .ok (.aload_n 0, 1) := by decide +kernel
theorem dX7_copy_18 : decode cX7_copy 18 = .ok (.iload_n 1, 1) := by decide +kernel
theorem dX7_copy_19 : decode cX7_copy 19 = .ok (.invokevirtual 81, 3) := by decide +kernel
theorem dX7_copy_22 : decode cX7_copy 22 = .ok (.ifCond .ne 11, 3) := by decide +kernel
theorem dX7_copy_25 : decode cX7_copy 25 = .ok (.aload_n 0, 1) := by decide +kernel
theorem dX7_copy_26 : decode cX7_copy 26 = .ok (.iload_n 3, 1) := by decide +kernel
theorem dX7_copy_27 : decode cX7_copy 27 = .ok (.invokevirtual 81, 3) := by decide +kernel
theorem dX7_copy_30 : decode cX7_copy 30 = .ok (.ifCond .eq 9, 3) := by decide +kernel
theorem dX7_copy_33 : decode cX7_copy 33 = .ok (.aload_n 0, 1) := by decide +kernel
theorem dX7_copy_34 : decode cX7_copy 34 = .ok (.iconst 1, 1) := by decide +kernel
theorem dX7_copy_35 : decode cX7_copy 35 = .ok (.invokevirtual 74, 3) := by decide +kernel
theorem dX7_copy_38 : decode cX7_copy 38 = .ok (.ireturn, 1) := by decide +kernel
theorem dX7_copy_39 : decode cX7_copy 39 = .ok (.aload_n 0, 1) := by decide +kernel
theorem dX7_copy_40 : decode cX7_copy 40 = .ok (.getfield 7, 3) := by decide +kernel
theorem dX7_copy_43 : decode cX7_copy 43 = .ok (.iload_n 1, 1) := by decide +kernel
theorem dX7_copy_44 : decode cX7_copy 44 = .ok (.iaload, 1) := by decide +kernel
theorem dX7_copy_45 : decode cX7_copy 45 = .ok (.aload_n 0, 1) := by decide +kernel
theorem dX7_copy_46 : decode cX7_copy 46 = .ok (.getfield 7, 3) := by decide +kernel
theorem dX7_copy_49 : decode cX7_copy 49 = .ok (.iload_n 3, 1) := by decide +kernel
theorem dX7_copy_50 : decode cX7_copy 50 = .ok (.iaload, 1) := by decide +kernel
theorem dX7_copy_51 : decode cX7_copy 51 = .ok (.if_icmp .eq 9, 3) := by decide +kernel
theorem dX7_copy_54 : decode cX7_copy 54 = .ok (.aload_n 0, 1) := by decide +kernel
theorem dX7_copy_55 : decode cX7_copy 55 = .ok (.iconst 5, 1) := by decide +kernel
theorem dX7_copy_56 : decode cX7_copy 56 = .ok (.invokevirtual 74, 3) := by decide +kernel
theorem dX7_copy_59 : decode cX7_copy 59 = .ok (.ireturn, 1) := by decide +kernel
theorem dX7_copy_60 : decode cX7_copy 60 = .ok (.aload_n 0, 1) := by decide +kernel
theorem dX7_copy_61 : decode cX7_copy 61 = .ok (.iload_n 1, 1) := by decide +kernel
theorem dX7_copy_62 : decode cX7_copy 62 = .ok (.iload_n 2, 1) := by decide +kernel
theorem dX7_copy_63 : decode cX7_copy 63 = .ok (.iload 5, 2) := by decide +kernel
theorem dX7_copy_65 : decode cX7_copy 65 = .ok (.invokevirtual 88, 3) := by decide +kernel
theorem dX7_copy_68 : decode cX7_copy 68 = .ok (.ifCond .eq 15, 3) := by decide +kernel
theorem dX7_copy_71 : decode cX7_copy 71 = .ok (.aload_n 0, 1) := by decide +kernel
theorem dX7_copy_72 : decode cX7_copy 72 = .ok (.iload_n 3, 1) := by decide +kernel
theorem dX7_copy_73 : decode cX7_copy 73 = .ok (.iload 4, 2) := by decide +kernel
theorem dX7_copy_75 : decode cX7_copy 75 = .ok (.iload 5, 2) := by decide +kernel
theorem dX7_copy_77 : decode cX7_copy 77 = .ok (.invokevirtual 88, 3) := by decide +kernel
theorem dX7_copy_80 : decode cX7_copy 80 = .ok (.ifCond .ne 9, 3) := by decide +kernel
theorem dX7_copy_83 : decode cX7_copy 83 = .ok (.aload_n 0, 1) := by decide +kernel
theorem dX7_copy_84 : decode cX7_copy 84 = .ok (.iconst 2, 1) := by decide +kernel
theorem dX7_copy_85 : decode cX7_copy 85 = .ok (.invokevirtual 74, 3) := by decide +kernel
theorem dX7_copy_88 : decode cX7_copy 88 = .ok (.ireturn, 1) := by decide +kernel
theorem dX7_copy_89 : decode cX7_copy 89 = .ok (.iconst 0, 1) := by decide +kernel
theorem dX7_copy_90 : decode cX7_copy 90 = .ok (.istore 6, 2) := by decide +kernel
theorem dX7_copy_92 : decode cX7_copy 92 = .ok (.iload 6, 2) := by decide +kernel
theorem dX7_copy_94 : decode cX7_copy 94 = .ok (.iload 5, 2) := by decide +kernel
theorem dX7_copy_96 : decode cX7_copy 96 = .ok (.if_icmp .ge 30, 3) := by decide +kernel
theorem dX7_copy_99 : decode cX7_copy 99 = .ok (.aload_n 0, 1) := by decide +kernel
theorem dX7_copy_100 : decode cX7_copy 100 = .ok (.getfield 19, 3) := by decide +kernel
theorem dX7_copy_103 : decode cX7_copy 103 = .ok (.iload 6, 2) := by decide +kernel
theorem dX7_copy_105 : decode cX7_copy 105 = .ok (.aload_n 0, 1) := by decide +kernel
theorem dX7_copy_106 : decode cX7_copy 106 = .ok (.getfield 16, 3) := by decide +kernel
theorem dX7_copy_109 : decode cX7_copy 109 = .ok (.bipush 40, 2) := by decide +kernel
theorem dX7_copy_111 : decode cX7_copy 111 = .ok (.iload_n 1, 1) := by decide +kernel
theorem dX7_copy_112 : decode cX7_copy 112 = .ok (.imul, 1) := by decide +kernel
theorem dX7_copy_113 : decode cX7_copy 113 = .ok (.iload_n 2, 1) := by decide +kernel
theorem dX7_copy_114 : decode cX7_copy 114 = .ok (.iadd, 1) := by decide +kernel
theorem dX7_copy_115 : decode cX7_copy 115 = .ok (.iload 6, 2) := by decide +kernel
theorem dX7_copy_117 : decode cX7_copy 117 = .ok (.iadd, 1) := by decide +kernel
theorem dX7_copy_118 : decode cX7_copy 118 = .ok (.iaload, 1) := by decide +kernel
theorem dX7_copy_119 : decode cX7_copy 119 = .ok (.iastore, 1) := by decide +kernel
theorem dX7_copy_120 : decode cX7_copy 120 = .ok (.iinc 6 1, 3) := by decide +kernel
theorem dX7_copy_123 : decode cX7_copy 123 = .ok (.goto (-31), 3) := by decide +kernel
theorem dX7_copy_126 : decode cX7_copy 126 = .ok (.iconst 0, 1) := by decide +kernel
theorem dX7_copy_127 : decode cX7_copy 127 = .ok (.istore 6, 2) := by decide +kernel
theorem dX7_copy_129 : decode cX7_copy 129 = .ok (.iload 6, 2) := by decide +kernel
theorem dX7_copy_131 : decode cX7_copy 131 = .ok (.iload 5, 2) := by decide +kernel
theorem dX7_copy_133 : decode cX7_copy 133 = .ok (.if_icmp .ge 31, 3) := by decide +kernel
theorem dX7_copy_136 : decode cX7_copy 136 = .ok (.aload_n 0, 1) := by decide +kernel
theorem dX7_copy_137 : decode cX7_copy 137 = .ok (.getfield 16, 3) := by decide +kernel
theorem dX7_copy_140 : decode cX7_copy 140 = .ok (.bipush 40, 2) := by decide +kernel
theorem dX7_copy_142 : decode cX7_copy 142 = .ok (.iload_n 3, 1) := by decide +kernel
theorem dX7_copy_143 : decode cX7_copy 143 = .ok (.imul, 1) := by decide +kernel
theorem dX7_copy_144 : decode cX7_copy 144 = .ok (.iload 4, 2) := by decide +kernel
theorem dX7_copy_146 : decode cX7_copy 146 = .ok (.iadd, 1) := by decide +kernel
theorem dX7_copy_147 : decode cX7_copy 147 = .ok (.iload 6, 2) := by decide +kernel
theorem dX7_copy_149 : decode cX7_copy 149 = .ok (.iadd, 1) := by decide +kernel
theorem dX7_copy_150 : decode cX7_copy 150 = .ok (.aload_n 0, 1) := by decide +kernel
theorem dX7_copy_151 : decode cX7_copy 151 = .ok (.getfield 19, 3) := by decide +kernel
theorem dX7_copy_154 : decode cX7_copy 154 = .ok (.iload 6, 2) := by decide +kernel
theorem dX7_copy_156 : decode cX7_copy 156 = .ok (.iaload, 1) := by decide +kernel
theorem dX7_copy_157 : decode cX7_copy 157 = .ok (.iastore, 1) := by decide +kernel
theorem dX7_copy_158 : decode cX7_copy 158 = .ok (.iinc 6 1, 3) := by decide +kernel
theorem dX7_copy_161 : decode cX7_copy 161 = .ok (.goto (-32), 3) := by decide +kernel
theorem dX7_copy_164 : decode cX7_copy 164 = .ok (.aload_n 0, 1) := by decide +kernel
theorem dX7_copy_165 : decode cX7_copy 165 = .ok (.iload 5, 2) := by decide +kernel
theorem dX7_copy_167 : decode cX7_copy 167 = .ok (.invokevirtual 78, 3) := by decide +kernel
theorem dX7_copy_170 : decode cX7_copy 170 = .ok (.ireturn, 1) := by decide +kernel
set_option maxRecDepth 20000 in
theorem ggX7_drop_X7_isRow : GoodIn wsX7_drop wsX7_isRow := goodIn_r _ [8, 9, 10, 7, 11] (by decide +kernel) (by decide +kernel)
set_option maxRecDepth 20000 in
theorem gX7_drop_X7_isRow : GoodIn wsX7_drop (va_wsS RX7 69 yX7_isRow wsX7_isRow) := goodIn_app (goodIn_of _ (by decide +kernel)) ggX7_drop_X7_isRow
set_option maxRecDepth 20000 in
theorem ggX7_drop_X7_isMissing : GoodIn wsX7_drop wsX7_isMissing := goodIn_r _ [15, 2, 3, 26, 27, 28, 29, 30, 31, 32, 33, 34, 35, 36, 37, 38, 39, 40, 41, 42, 43, 44, 45, 46, 47, 48, 49, 50, 51, 52, 53] (by decide +kernel) (by decide +kernel)
set_option maxRecDepth 20000 in
theorem gX7_drop_X7_isMissing : GoodIn wsX7_drop (wsV RX7 81 RX7 yX7_isMissing wsX7_isMissing) := goodIn_app (goodIn_of _ (by decide +kernel)) ggX7_drop_X7_isMissing
set_option maxRecDepth 20000 in
theorem ggX7_drop_X7_found : GoodIn wsX7_drop wsX7_found := goodIn_r _ [19, 20, 21, 26, 27, 28, 29, 30, 31, 32, 33, 34, 35, 36, 37, 38, 39, 40, 41, 42, 43, 44, 45, 46, 47, 48, 49, 50, 51, 52, 53] (by decide +kernel) (by decide +kernel)
set_option maxRecDepth 20000 in
theorem gX7_drop_X7_found : GoodIn wsX7_drop (wsV RX7 74 RX7 yX7_found wsX7_found) := goodIn_app (goodIn_of _ (by decide +kernel)) ggX7_drop_X7_found
set_option maxRecDepth 20000 in
theorem ggX7_drop_X7_well : GoodIn wsX7_drop wsX7_well := goodIn_r _ [25, 20, 26, 27, 28, 29, 30, 31, 32, 33, 34, 35, 36, 37, 38, 39, 40, 41, 42, 43, 44, 45, 46, 47, 48, 49, 50, 51, 52, 53] (by decide +kernel) (by decide +kernel)
set_option maxRecDepth 20000 in
theorem gX7_drop_X7_well : GoodIn wsX7_drop (wsV RX7 78 RX7 yX7_well wsX7_well) := goodIn_app (goodIn_of _ (by decide +kernel)) ggX7_drop_X7_well
theorem dX7_drop_0 : decode cX7_drop 0 = .ok (.iload_n 1, 1) := by decide +kernel
theorem dX7_drop_1 : decode cX7_drop 1 = .ok (.invokestatic 69, 3) := by decide +kernel
theorem dX7_drop_4 : decode cX7_drop 4 = .ok (.ifCond .ne 6, 3) := by decide +kernel
theorem dX7_drop_7 : decode cX7_drop 7 = .ok (.ldc 73, 2) := by decide +kernel
theorem dX7_drop_9 : decode cX7_drop 9 = .ok (.ireturn, 1) := by decide +kernel
theorem dX7_drop_10 : decode cX7_drop 10 = .ok (.aload_n 0, 1) := by decide +kernel
theorem dX7_drop_11 : decode cX7_drop 11 = .ok (.iload_n 1, 1) := by decide +kernel
theorem dX7_drop_12 : decode cX7_drop 12 = .ok (.invokevirtual 81, 3) := by decide +kernel
theorem dX7_drop_15 : decode cX7_drop 15 = .ok (.ifCond .eq 9, 3) := by decide +kernel
theorem dX7_drop_18 : decode cX7_drop 18 = .ok (.aload_n 0, 1) := by decide +kernel
theorem dX7_drop_19 : decode cX7_drop 19 = .ok (.iconst 1, 1) := by decide +kernel
theorem dX7_drop_20 : decode cX7_drop 20 = .ok (.invokevirtual 74, 3) := by decide +kernel
theorem dX7_drop_23 : decode cX7_drop 23 = .ok (.ireturn, 1) := by decide +kernel
theorem dX7_drop_24 : decode cX7_drop 24 = .ok (.aload_n 0, 1) := by decide +kernel
theorem dX7_drop_25 : decode cX7_drop 25 = .ok (.getfield 7, 3) := by decide +kernel
theorem dX7_drop_28 : decode cX7_drop 28 = .ok (.iload_n 1, 1) := by decide +kernel
theorem dX7_drop_29 : decode cX7_drop 29 = .ok (.ldc 59, 2) := by decide +kernel
theorem dX7_drop_31 : decode cX7_drop 31 = .ok (.iastore, 1) := by decide +kernel
theorem dX7_drop_32 : decode cX7_drop 32 = .ok (.aload_n 0, 1) := by decide +kernel
theorem dX7_drop_33 : decode cX7_drop 33 = .ok (.aload_n 0, 1) := by decide +kernel
theorem dX7_drop_34 : decode cX7_drop 34 = .ok (.getfield 13, 3) := by decide +kernel
theorem dX7_drop_37 : decode cX7_drop 37 = .ok (.iload_n 1, 1) := by decide +kernel
theorem dX7_drop_38 : decode cX7_drop 38 = .ok (.iaload, 1) := by decide +kernel
theorem dX7_drop_39 : decode cX7_drop 39 = .ok (.invokevirtual 78, 3) := by decide +kernel
theorem dX7_drop_42 : decode cX7_drop 42 = .ok (.ireturn, 1) := by decide +kernel
set_option maxRecDepth 20000 in
theorem ggX7_feed_X7_in : GoodIn wsX7_feed wsX7_in := goodIn_r _ [8] (by decide +kernel) (by decide +kernel)
set_option maxRecDepth 20000 in
theorem gX7_feed_X7_in : GoodIn wsX7_feed (va_wsS RX7 65 yX7_in wsX7_in) := goodIn_app (goodIn_of _ (by decide +kernel)) ggX7_feed_X7_in
theorem dX7_feed_0 : decode cX7_feed 0 = .ok (.iload_n 1, 1) := by decide +kernel
theorem dX7_feed_1 : decode cX7_feed 1 = .ok (.iconst 0, 1) := by decide +kernel
theorem dX7_feed_2 : decode cX7_feed 2 = .ok (.sipush 255, 3) := by decide +kernel
theorem dX7_feed_5 : decode cX7_feed 5 = .ok (.invokestatic 65, 3) := by decide +kernel
theorem dX7_feed_8 : decode cX7_feed 8 = .ok (.ifCond .ne 6, 3) := by decide +kernel
theorem dX7_feed_11 : decode cX7_feed 11 = .ok (.ldc 73, 2) := by decide +kernel
theorem dX7_feed_13 : decode cX7_feed 13 = .ok (.ireturn, 1) := by decide +kernel
theorem dX7_feed_14 : decode cX7_feed 14 = .ok (.aload_n 0, 1) := by decide +kernel
theorem dX7_feed_15 : decode cX7_feed 15 = .ok (.getfield 91, 3) := by decide +kernel
theorem dX7_feed_18 : decode cX7_feed 18 = .ok (.bipush 100, 2) := by decide +kernel
theorem dX7_feed_20 : decode cX7_feed 20 = .ok (.if_icmp .ne 6, 3) := by decide +kernel
theorem dX7_feed_23 : decode cX7_feed 23 = .ok (.ldc 94, 2) := by decide +kernel
theorem dX7_feed_25 : decode cX7_feed 25 = .ok (.ireturn, 1) := by decide +kernel
theorem dX7_feed_26 : decode cX7_feed 26 = .ok (.aload_n 0, 1) := by decide +kernel
theorem dX7_feed_27 : decode cX7_feed 27 = .ok (.getfield 22, 3) := by decide +kernel
theorem dX7_feed_30 : decode cX7_feed 30 = .ok (.aload_n 0, 1) := by decide +kernel
theorem dX7_feed_31 : decode cX7_feed 31 = .ok (.getfield 91, 3) := by decide +kernel
theorem dX7_feed_34 : decode cX7_feed 34 = .ok (.iload_n 1, 1) := by decide +kernel
theorem dX7_feed_35 : decode cX7_feed 35 = .ok (.iastore, 1) := by decide +kernel
theorem dX7_feed_36 : decode cX7_feed 36 = .ok (.aload_n 0, 1) := by decide +kernel
theorem dX7_feed_37 : decode cX7_feed 37 = .ok (.dup, 1) := by decide +kernel
theorem dX7_feed_38 : decode cX7_feed 38 = .ok (.getfield 91, 3) := by decide +kernel
theorem dX7_feed_41 : decode cX7_feed 41 = .ok (.iconst 1, 1) := by decide +kernel
theorem dX7_feed_42 : decode cX7_feed 42 = .ok (.iadd, 1) := by decide +kernel
theorem dX7_feed_43 : decode cX7_feed 43 = .ok (.putfield 91, 3) := by decide +kernel
theorem dX7_feed_46 : decode cX7_feed 46 = .ok (.aload_n 0, 1) := by decide +kernel
theorem dX7_feed_47 : decode cX7_feed 47 = .ok (.getfield 91, 3) := by decide +kernel
theorem dX7_feed_50 : decode cX7_feed 50 = .ok (.ireturn, 1) := by decide +kernel
theorem dX7_byteAt_0 : decode cX7_byteAt 0 = .ok (.iload_n 1, 1) := by decide +kernel
theorem dX7_byteAt_1 : decode cX7_byteAt 1 = .ok (.aload_n 0, 1) := by decide +kernel
theorem dX7_byteAt_2 : decode cX7_byteAt 2 = .ok (.getfield 91, 3) := by decide +kernel
theorem dX7_byteAt_5 : decode cX7_byteAt 5 = .ok (.if_icmp .ge 12, 3) := by decide +kernel
theorem dX7_byteAt_8 : decode cX7_byteAt 8 = .ok (.aload_n 0, 1) := by decide +kernel
theorem dX7_byteAt_9 : decode cX7_byteAt 9 = .ok (.getfield 22, 3) := by decide +kernel
theorem dX7_byteAt_12 : decode cX7_byteAt 12 = .ok (.iload_n 1, 1) := by decide +kernel
theorem dX7_byteAt_13 : decode cX7_byteAt 13 = .ok (.iaload, 1) := by decide +kernel
theorem dX7_byteAt_14 : decode cX7_byteAt 14 = .ok (.goto 4, 3) := by decide +kernel
theorem dX7_byteAt_17 : decode cX7_byteAt 17 = .ok (.iconst (-1), 1) := by decide +kernel
theorem dX7_byteAt_18 : decode cX7_byteAt 18 = .ok (.ireturn, 1) := by decide +kernel
set_option maxRecDepth 20000 in
theorem ggX7_advances_X7_byteAt : GoodIn wsX7_advances wsX7_byteAt := goodIn_r _ [9, 10, 11, 15, 16, 17, 18, 19, 20, 21, 22, 23, 24, 25, 26, 27, 28, 29, 30, 31, 32, 33, 34, 35, 36, 37, 38, 39, 40, 41, 42] (by decide +kernel) (by decide +kernel)
set_option maxRecDepth 20000 in
theorem gX7_advances_X7_byteAt : GoodIn wsX7_advances (wsV RX7 101 RX7 yX7_byteAt wsX7_byteAt) := goodIn_app (goodIn_of _ (by decide +kernel)) ggX7_advances_X7_byteAt
set_option maxRecDepth 20000 in
theorem ggX7_advances_X7_in : GoodIn wsX7_advances wsX7_in := goodIn_r _ [14] (by decide +kernel) (by decide +kernel)
set_option maxRecDepth 20000 in
theorem gX7_advances_X7_in : GoodIn wsX7_advances (va_wsS RX7 65 yX7_in wsX7_in) := goodIn_app (goodIn_of _ (by decide +kernel)) ggX7_advances_X7_in
theorem dX7_advances_0 : decode cX7_advances 0 = .ok (.aload_n 0, 1) := by decide +kernel
theorem dX7_advances_1 : decode cX7_advances 1 = .ok (.aload_n 0, 1) := by decide +kernel
theorem dX7_advances_2 : decode cX7_advances 2 = .ok (.getfield 95, 3) := by decide +kernel
theorem dX7_advances_5 : decode cX7_advances 5 = .ok (.putfield 98, 3) := by decide +kernel
theorem dX7_advances_8 : decode cX7_advances 8 = .ok (.aload_n 0, 1) := by decide +kernel
theorem dX7_advances_9 : decode cX7_advances 9 = .ok (.aload_n 0, 1) := by decide +kernel
theorem dX7_advances_10 : decode cX7_advances 10 = .ok (.getfield 95, 3) := by decide +kernel
theorem dX7_advances_13 : decode cX7_advances 13 = .ok (.invokevirtual 101, 3) := by decide +kernel
theorem dX7_advances_16 : decode cX7_advances 16 = .ok (.istore_n 1, 1) := by decide +kernel
theorem dX7_advances_17 : decode cX7_advances 17 = .ok (.aload_n 0, 1) := by decide +kernel
theorem dX7_advances_18 : decode cX7_advances 18 = .ok (.iload_n 1, 1) := by decide +kernel
theorem dX7_advances_19 : decode cX7_advances 19 = .ok (.putfield 104, 3) := by decide +kernel
theorem dX7_advances_22 : decode cX7_advances 22 = .ok (.iload_n 1, 1) := by decide +kernel
theorem dX7_advances_23 : decode cX7_advances 23 = .ok (.bipush 48, 2) := by decide +kernel
theorem dX7_advances_25 : decode cX7_advances 25 = .ok (.bipush 57, 2) := by decide +kernel
theorem dX7_advances_27 : decode cX7_advances 27 = .ok (.invokestatic 65, 3) := by decide +kernel
theorem dX7_advances_30 : decode cX7_advances 30 = .ok (.ifCond .eq 105, 3) := by decide +kernel
theorem dX7_advances_33 : decode cX7_advances 33 = .ok (.aload_n 0, 1) := by decide +kernel
theorem dX7_advances_34 : decode cX7_advances 34 = .ok (.iconst 0, 1) := by decide +kernel
theorem dX7_advances_35 : decode cX7_advances 35 = .ok (.putfield 104, 3) := by decide +kernel
theorem dX7_advances_38 : decode cX7_advances 38 = .ok (.aload_n 0, 1) := by decide +kernel
theorem dX7_advances_39 : decode cX7_advances 39 = .ok (.aload_n 0, 1) := by decide +kernel
theorem dX7_advances_40 : decode cX7_advances 40 = .ok (.getfield 95, 3) := by decide +kernel
theorem dX7_advances_43 : decode cX7_advances 43 = .ok (.invokevirtual 101, 3) := by decide +kernel
theorem dX7_advances_46 : decode cX7_advances 46 = .ok (.bipush 48, 2) := by decide +kernel
theorem dX7_advances_48 : decode cX7_advances 48 = .ok (.bipush 57, 2) := by decide +kernel
theorem dX7_advances_50 : decode cX7_advances 50 = .ok (.invokestatic 65, 3) := by decide +kernel
theorem dX7_advances_53 : decode cX7_advances 53 = .ok (.ifCond .eq 59, 3) := by decide +kernel
theorem dX7_advances_56 : decode cX7_advances 56 = .ok (.aload_n 0, 1) := by decide +kernel
theorem dX7_advances_57 : decode cX7_advances 57 = .ok (.aload_n 0, 1) := by decide +kernel
theorem dX7_advances_58 : decode cX7_advances 58 = .ok (.getfield 95, 3) := by decide +kernel
theorem dX7_advances_61 : decode cX7_advances 61 = .ok (.aload_n 0, 1) := by decide +kernel
theorem dX7_advances_62 : decode cX7_advances 62 = .ok (.getfield 98, 3) := by decide +kernel
theorem dX7_advances_65 : decode cX7_advances 65 = .ok (.isub, 1) := by decide +kernel
theorem dX7_advances_66 : decode cX7_advances 66 = .ok (.iconst 2, 1) := by decide +kernel
theorem dX7_advances_67 : decode cX7_advances 67 = .ok (.if_icmp .ge 25, 3) := by decide +kernel
theorem dX7_advances_70 : decode cX7_advances 70 = .ok (.bipush 10, 2) := by decide +kernel
theorem dX7_advances_72 : decode cX7_advances 72 = .ok (.aload_n 0, 1) := by decide +kernel
theorem dX7_advances_73 : decode cX7_advances 73 = .ok (.getfield 104, 3) := by decide +kernel
theorem dX7_advances_76 : decode cX7_advances 76 = .ok (.imul, 1) := by decide +kernel
theorem dX7_advances_77 : decode cX7_advances 77 = .ok (.aload_n 0, 1) := by decide +kernel
theorem dX7_advances_78 : decode cX7_advances 78 = .ok (.aload_n 0, 1) := by decide +kernel
theorem dX7_advances_79 : decode cX7_advances 79 = .ok (.getfield 95, 3) := by decide +kernel
theorem dX7_advances_82 : decode cX7_advances 82 = .ok (.invokevirtual 101, 3) := by decide +kernel
theorem dX7_advances_85 : decode cX7_advances 85 = .ok (.iadd, 1) := by decide +kernel
theorem dX7_advances_86 : decode cX7_advances 86 = .ok (.bipush 48, 2) := by decide +kernel
theorem dX7_advances_88 : decode cX7_advances 88 = .ok (.isub, 1) := by decide +kernel
theorem dX7_advances_89 : decode cX7_advances 89 = .ok (.goto 7, 3) := by decide +kernel
theorem dX7_advances_92 : decode cX7_advances 92 = .ok (.aload_n 0, 1) := by decide +kernel
theorem dX7_advances_93 : decode cX7_advances 93 = .ok (.getfield 104, 3) := by decide +kernel
theorem dX7_advances_96 : decode cX7_advances 96 = .ok (.putfield 104, 3) := by decide +kernel
theorem dX7_advances_99 : decode cX7_advances 99 = .ok (.aload_n 0, 1) := by decide +kernel
theorem dX7_advances_100 : decode cX7_advances 100 = .ok (.dup, 1) := by decide +kernel
theorem dX7_advances_101 : decode cX7_advances 101 = .ok (.getfield 95, 3) := by decide +kernel
theorem dX7_advances_104 : decode cX7_advances 104 = .ok (.iconst 1, 1) := by decide +kernel
theorem dX7_advances_105 : decode cX7_advances 105 = .ok (.iadd, 1) := by decide +kernel
theorem dX7_advances_106 : decode cX7_advances 106 = .ok (.putfield 95, 3) := by decide +kernel
theorem dX7_advances_109 : decode cX7_advances 109 = .ok (.goto (-71), 3) := by decide +kernel
theorem dX7_advances_112 : decode cX7_advances 112 = .ok (.aload_n 0, 1) := by decide +kernel
theorem dX7_advances_113 : decode cX7_advances 113 = .ok (.aload_n 0, 1) := by decide +kernel
theorem dX7_advances_114 : decode cX7_advances 114 = .ok (.getfield 95, 3) := by decide +kernel
theorem dX7_advances_117 : decode cX7_advances 117 = .ok (.aload_n 0, 1) := by decide +kernel
theorem dX7_advances_118 : decode cX7_advances 118 = .ok (.getfield 98, 3) := by decide +kernel
theorem dX7_advances_121 : decode cX7_advances 121 = .ok (.isub, 1) := by decide +kernel
theorem dX7_advances_122 : decode cX7_advances 122 = .ok (.iconst 3, 1) := by decide +kernel
theorem dX7_advances_123 : decode cX7_advances 123 = .ok (.if_icmp .ge 7, 3) := by decide +kernel
theorem dX7_advances_126 : decode cX7_advances 126 = .ok (.iconst 2, 1) := by decide +kernel
theorem dX7_advances_127 : decode cX7_advances 127 = .ok (.goto 4, 3) := by decide +kernel
theorem dX7_advances_130 : decode cX7_advances 130 = .ok (.iconst 5, 1) := by decide +kernel
theorem dX7_advances_131 : decode cX7_advances 131 = .ok (.putfield 107, 3) := by decide +kernel
theorem dX7_advances_134 : decode cX7_advances 134 = .ok (.return_, 1) := by decide +kernel
theorem dX7_advances_135 : decode cX7_advances 135 = .ok (.aload_n 0, 1) := by decide +kernel
theorem dX7_advances_136 : decode cX7_advances 136 = .ok (.iload_n 1, 1) := by decide +kernel
theorem dX7_advances_137 : decode cX7_advances 137 = .ok (.ifCond .ge 7, 3) := by decide +kernel
theorem dX7_advances_140 : decode cX7_advances 140 = .ok (.iconst 0, 1) := by decide +kernel
theorem dX7_advances_141 : decode cX7_advances 141 = .ok (.goto 39, 3) := by decide +kernel
theorem dX7_advances_144 : decode cX7_advances 144 = .ok (.iload_n 1, 1) := by decide +kernel
theorem dX7_advances_145 : decode cX7_advances 145 = .ok (.bipush 97, 2) := by decide +kernel
theorem dX7_advances_147 : decode cX7_advances 147 = .ok (.bipush 122, 2) := by decide +kernel
theorem dX7_advances_149 : decode cX7_advances 149 = .ok (.invokestatic 65, 3) := by decide +kernel
theorem dX7_advances_152 : decode cX7_advances 152 = .ok (.ifCond .eq 7, 3) := by decide +kernel
theorem dX7_advances_155 : decode cX7_advances 155 = .ok (.iconst 1, 1) := by decide +kernel
theorem dX7_advances_156 : decode cX7_advances 156 = .ok (.goto 24, 3) := by decide +kernel
theorem dX7_advances_159 : decode cX7_advances 159 = .ok (.iload_n 1, 1) := by decide +kernel
theorem dX7_advances_160 : decode cX7_advances 160 = .ok (.bipush 44, 2) := by decide +kernel
theorem dX7_advances_162 : decode cX7_advances 162 = .ok (.if_icmp .ne 7, 3) := by decide +kernel
theorem dX7_advances_165 : decode cX7_advances 165 = .ok (.iconst 3, 1) := by decide +kernel
theorem dX7_advances_166 : decode cX7_advances 166 = .ok (.goto 14, 3) := by decide +kernel
theorem dX7_advances_169 : decode cX7_advances 169 = .ok (.iload_n 1, 1) := by decide +kernel
theorem dX7_advances_170 : decode cX7_advances 170 = .ok (.bipush 59, 2) := by decide +kernel
theorem dX7_advances_172 : decode cX7_advances 172 = .ok (.if_icmp .ne 7, 3) := by decide +kernel
theorem dX7_advances_175 : decode cX7_advances 175 = .ok (.iconst 4, 1) := by decide +kernel
theorem dX7_advances_176 : decode cX7_advances 176 = .ok (.goto 4, 3) := by decide +kernel
theorem dX7_advances_179 : decode cX7_advances 179 = .ok (.iconst 5, 1) := by decide +kernel
theorem dX7_advances_180 : decode cX7_advances 180 = .ok (.putfield 107, 3) := by decide +kernel
theorem dX7_advances_183 : decode cX7_advances 183 = .ok (.aload_n 0, 1) := by decide +kernel
theorem dX7_advances_184 : decode cX7_advances 184 = .ok (.dup, 1) := by decide +kernel
theorem dX7_advances_185 : decode cX7_advances 185 = .ok (.getfield 95, 3) := by decide +kernel
theorem dX7_advances_188 : decode cX7_advances 188 = .ok (.aload_n 0, 1) := by decide +kernel
theorem dX7_advances_189 : decode cX7_advances 189 = .ok (.getfield 107, 3) := by decide +kernel
theorem dX7_advances_192 : decode cX7_advances 192 = .ok (.ifCond .ne 7, 3) := by decide +kernel
theorem dX7_advances_195 : decode cX7_advances 195 = .ok (.iconst 0, 1) := by decide +kernel
theorem dX7_advances_196 : decode cX7_advances 196 = .ok (.goto 4, 3) := by decide +kernel
theorem dX7_advances_199 : decode cX7_advances 199 = .ok (.iconst 1, 1) := by decide +kernel
theorem dX7_advances_200 : decode cX7_advances 200 = .ok (.iadd, 1) := by decide +kernel
theorem dX7_advances_201 : decode cX7_advances 201 = .ok (.putfield 95, 3) := by decide +kernel
theorem dX7_advances_204 : decode cX7_advances 204 = .ok (.return_, 1) := by decide +kernel
theorem dX7_isWell_0 : decode cX7_isWell 0 = .ok (.aload_n 0, 1) := by decide +kernel
theorem dX7_isWell_1 : decode cX7_isWell 1 = .ok (.getfield 110, 3) := by decide +kernel
theorem dX7_isWell_4 : decode cX7_isWell 4 = .ok (.ifCond .ge 7, 3) := by decide +kernel
theorem dX7_isWell_7 : decode cX7_isWell 7 = .ok (.iconst 1, 1) := by decide +kernel
theorem dX7_isWell_8 : decode cX7_isWell 8 = .ok (.goto 4, 3) := by decide +kernel
theorem dX7_isWell_11 : decode cX7_isWell 11 = .ok (.iconst 0, 1) := by decide +kernel
theorem dX7_isWell_12 : decode cX7_isWell 12 = .ok (.ireturn, 1) := by decide +kernel
set_option maxRecDepth 20000 in
theorem ggX7_takes_X7_isWell : GoodIn wsX7_takes wsX7_isWell := goodIn_r _ [9, 2, 25, 26, 27, 28, 29, 30, 31, 32, 33, 34, 35, 36, 37, 38, 39, 40, 41, 42, 43, 44, 45, 46, 47, 48, 49, 50, 51, 52] (by decide +kernel) (by decide +kernel)
set_option maxRecDepth 20000 in
theorem gX7_takes_X7_isWell : GoodIn wsX7_takes (wsV RX7 113 RX7 yX7_isWell wsX7_isWell) := goodIn_app (goodIn_of _ (by decide +kernel)) ggX7_takes_X7_isWell
set_option maxRecDepth 20000 in
theorem ggX7_takes_X7_advances : GoodIn wsX7_takes wsX7_advances := goodIn_r _ [13, 14, 1, 4, 15, 16, 17, 18, 8, 19, 20, 21, 22, 23, 24, 25, 26, 27, 28, 29, 30, 31, 32, 33, 34, 35, 36, 37, 38, 39, 40, 41, 42, 43, 44, 45, 46, 47, 48, 49, 50, 51, 52] (by decide +kernel) (by decide +kernel)
set_option maxRecDepth 20000 in
theorem gX7_takes_X7_advances : GoodIn wsX7_takes (wsV RX7 120 RX7 yX7_advances wsX7_advances) := goodIn_app (goodIn_of _ (by decide +kernel)) ggX7_takes_X7_advances
theorem dX7_takes_0 : decode cX7_takes 0 = .ok (.aload_n 0, 1) := by decide +kernel
theorem dX7_takes_1 : decode cX7_takes 1 = .ok (.invokevirtual 113, 3) := by decide +kernel
theorem dX7_takes_4 : decode cX7_takes 4 = .ok (.ifCond .ne 5, 3) := by decide +kernel
theorem dX7_takes_7 : decode cX7_takes 7 = .ok (.iconst 0, 1) := by decide +kernel
theorem dX7_takes_8 : decode cX7_takes 8 = .ok (.ireturn, 1) := by decide +kernel
theorem dX7_takes_9 : decode cX7_takes 9 = .ok (.iload_n 1, 1) := by decide +kernel
theorem dX7_takes_10 : decode cX7_takes 10 = .ok (.ifCond .ne 18, 3) := by decide +kernel
theorem dX7_takes_13 : decode cX7_takes 13 = .ok (.aload_n 0, 1) := by decide +kernel
theorem dX7_takes_14 : decode cX7_takes 14 = .ok (.aload_n 0, 1) := by decide +kernel
theorem dX7_takes_15 : decode cX7_takes 15 = .ok (.getfield 98, 3) := by decide +kernel
theorem dX7_takes_18 : decode cX7_takes 18 = .ok (.putfield 110, 3) := by decide +kernel
theorem dX7_takes_21 : decode cX7_takes 21 = .ok (.aload_n 0, 1) := by decide +kernel
theorem dX7_takes_22 : decode cX7_takes 22 = .ok (.iload_n 2, 1) := by decide +kernel
theorem dX7_takes_23 : decode cX7_takes 23 = .ok (.putfield 117, 3) := by decide +kernel
theorem dX7_takes_26 : decode cX7_takes 26 = .ok (.iconst 0, 1) := by decide +kernel
theorem dX7_takes_27 : decode cX7_takes 27 = .ok (.ireturn, 1) := by decide +kernel
theorem dX7_takes_28 : decode cX7_takes 28 = .ok (.aload_n 0, 1) := by decide +kernel
theorem dX7_takes_29 : decode cX7_takes 29 = .ok (.getfield 104, 3) := by decide +kernel
theorem dX7_takes_32 : decode cX7_takes 32 = .ok (.istore_n 3, 1) := by decide +kernel
theorem dX7_takes_33 : decode cX7_takes 33 = .ok (.aload_n 0, 1) := by decide +kernel
theorem dX7_takes_34 : decode cX7_takes 34 = .ok (.invokevirtual 120, 3) := by decide +kernel
theorem dX7_takes_37 : decode cX7_takes 37 = .ok (.iload_n 3, 1) := by decide +kernel
theorem dX7_takes_38 : decode cX7_takes 38 = .ok (.ireturn, 1) := by decide +kernel
set_option maxRecDepth 20000 in
theorem ggX7_figure_X7_isWell : GoodIn wsX7_figure wsX7_isWell := goodIn_r _ [7, 8, 29, 30, 31, 32, 33, 34, 35, 36, 37, 38, 39, 40, 41, 42, 43, 44, 45, 46, 47, 48, 49, 50, 51, 52, 53, 54, 55, 56] (by decide +kernel) (by decide +kernel)
set_option maxRecDepth 20000 in
theorem gX7_figure_X7_isWell : GoodIn wsX7_figure (wsV RX7 113 RX7 yX7_isWell wsX7_isWell) := goodIn_app (goodIn_of _ (by decide +kernel)) ggX7_figure_X7_isWell
set_option maxRecDepth 20000 in
theorem ggX7_figure_X7_takes : GoodIn wsX7_figure wsX7_takes := goodIn_r _ [12, 13, 8, 14, 2, 3, 4, 5, 6, 7, 15, 16, 17, 18, 19, 1, 20, 21, 22, 23, 24, 25, 26, 27, 28, 29, 30, 31, 32, 33, 34, 35, 36, 37, 38, 39, 40, 41, 42, 43, 44, 45, 46, 47, 48, 49, 50, 51, 52, 53, 54, 55, 56] (by decide +kernel) (by decide +kernel)
set_option maxRecDepth 20000 in
theorem gX7_figure_X7_takes : GoodIn wsX7_figure (wsV RX7 123 RX7 yX7_takes wsX7_takes) := goodIn_app (goodIn_of _ (by decide +kernel)) ggX7_figure_X7_takes
set_option maxRecDepth 20000 in
theorem ggX7_figure_X7_in : GoodIn wsX7_figure wsX7_in := goodIn_r _ [28] (by decide +kernel) (by decide +kernel)
set_option maxRecDepth 20000 in
theorem gX7_figure_X7_in : GoodIn wsX7_figure (va_wsS RX7 65 yX7_in wsX7_in) := goodIn_app (goodIn_of _ (by decide +kernel)) ggX7_figure_X7_in
theorem dX7_figure_0 : decode cX7_figure 0 = .ok (.aload_n 0, 1) := by decide +kernel
theorem dX7_figure_1 : decode cX7_figure 1 = .ok (.invokevirtual 113, 3) := by decide +kernel
theorem dX7_figure_4 : decode cX7_figure 4 = .ok (.ifCond .eq 18, 3) := by decide +kernel
theorem dX7_figure_7 : decode cX7_figure 7 = .ok (.aload_n 0, 1) := by decide +kernel
theorem dX7_figure_8 : decode cX7_figure 8 = .ok (.getfield 107, 3) := by decide +kernel
theorem dX7_figure_11 : decode cX7_figure 11 = .ok (.iconst 2, 1) := by decide +kernel
theorem dX7_figure_12 : decode cX7_figure 12 = .ok (.if_icmp .eq 10, 3) := by decide +kernel
theorem dX7_figure_15 : decode cX7_figure 15 = .ok (.aload_n 0, 1) := by decide +kernel
theorem dX7_figure_16 : decode cX7_figure 16 = .ok (.iconst 0, 1) := by decide +kernel
theorem dX7_figure_17 : decode cX7_figure 17 = .ok (.iconst 1, 1) := by decide +kernel
theorem dX7_figure_18 : decode cX7_figure 18 = .ok (.invokevirtual 123, 3) := by decide +kernel
theorem dX7_figure_21 : decode cX7_figure 21 = .ok (.ireturn, 1) := by decide +kernel
theorem dX7_figure_22 : decode cX7_figure 22 = .ok (.aload_n 0, 1) := by decide +kernel
theorem dX7_figure_23 : decode cX7_figure 23 = .ok (.aload_n 0, 1) := by decide +kernel
theorem dX7_figure_24 : decode cX7_figure 24 = .ok (.getfield 104, 3) := by decide +kernel
theorem dX7_figure_27 : decode cX7_figure 27 = .ok (.iload_n 1, 1) := by decide +kernel
theorem dX7_figure_28 : decode cX7_figure 28 = .ok (.iload_n 2, 1) := by decide +kernel
theorem dX7_figure_29 : decode cX7_figure 29 = .ok (.invokestatic 65, 3) := by decide +kernel
theorem dX7_figure_32 : decode cX7_figure 32 = .ok (.iconst 2, 1) := by decide +kernel
theorem dX7_figure_33 : decode cX7_figure 33 = .ok (.invokevirtual 123, 3) := by decide +kernel
theorem dX7_figure_36 : decode cX7_figure 36 = .ok (.ireturn, 1) := by decide +kernel
theorem dX7_kindOf_0 : decode cX7_kindOf 0 = .ok (.iload_n 0, 1) := by decide +kernel
theorem dX7_kindOf_1 : decode cX7_kindOf 1 = .ok (.bipush 109, 2) := by decide +kernel
theorem dX7_kindOf_3 : decode cX7_kindOf 3 = .ok (.if_icmp .ne 7, 3) := by decide +kernel
theorem dX7_kindOf_6 : decode cX7_kindOf 6 = .ok (.iconst 1, 1) := by decide +kernel
theorem dX7_kindOf_7 : decode cX7_kindOf 7 = .ok (.goto 44, 3) := by decide +kernel
theorem dX7_kindOf_10 : decode cX7_kindOf 10 = .ok (.iload_n 0, 1) := by decide +kernel
theorem dX7_kindOf_11 : decode cX7_kindOf 11 = .ok (.bipush 108, 2) := by decide +kernel
theorem dX7_kindOf_13 : decode cX7_kindOf 13 = .ok (.if_icmp .ne 7, 3) := by decide +kernel
theorem dX7_kindOf_16 : decode cX7_kindOf 16 = .ok (.iconst 2, 1) := by decide +kernel
theorem dX7_kindOf_17 : decode cX7_kindOf 17 = .ok (.goto 34, 3) := by decide +kernel
theorem dX7_kindOf_20 : decode cX7_kindOf 20 = .ok (.iload_n 0, 1) := by decide +kernel
theorem dX7_kindOf_21 : decode cX7_kindOf 21 = .ok (.bipush 112, 2) := by decide +kernel
theorem dX7_kindOf_23 : decode cX7_kindOf 23 = .ok (.if_icmp .ne 7, 3) := by decide +kernel
theorem dX7_kindOf_26 : decode cX7_kindOf 26 = .ok (.iconst 3, 1) := by decide +kernel
theorem dX7_kindOf_27 : decode cX7_kindOf 27 = .ok (.goto 24, 3) := by decide +kernel
theorem dX7_kindOf_30 : decode cX7_kindOf 30 = .ok (.iload_n 0, 1) := by decide +kernel
theorem dX7_kindOf_31 : decode cX7_kindOf 31 = .ok (.bipush 119, 2) := by decide +kernel
theorem dX7_kindOf_33 : decode cX7_kindOf 33 = .ok (.if_icmp .ne 7, 3) := by decide +kernel
theorem dX7_kindOf_36 : decode cX7_kindOf 36 = .ok (.iconst 4, 1) := by decide +kernel
theorem dX7_kindOf_37 : decode cX7_kindOf 37 = .ok (.goto 14, 3) := by decide +kernel
theorem dX7_kindOf_40 : decode cX7_kindOf 40 = .ok (.iload_n 0, 1) := by decide +kernel
theorem dX7_kindOf_41 : decode cX7_kindOf 41 = .ok (.bipush 111, 2) := by decide +kernel
theorem dX7_kindOf_43 : decode cX7_kindOf 43 = .ok (.if_icmp .ne 7, 3) := by decide +kernel
theorem dX7_kindOf_46 : decode cX7_kindOf 46 = .ok (.iconst 5, 1) := by decide +kernel
theorem dX7_kindOf_47 : decode cX7_kindOf 47 = .ok (.goto 4, 3) := by decide +kernel
theorem dX7_kindOf_50 : decode cX7_kindOf 50 = .ok (.iconst 0, 1) := by decide +kernel
theorem dX7_kindOf_51 : decode cX7_kindOf 51 = .ok (.ireturn, 1) := by decide +kernel
set_option maxRecDepth 20000 in
theorem ggX7_follows_X7_takes : GoodIn wsX7_follows wsX7_takes := goodIn_r _ [6, 7, 8, 9, 10, 11, 12, 13, 5, 14, 15, 16, 17, 18, 19, 1, 20, 21, 22, 23, 24, 25, 26, 27, 28, 33, 34, 35, 36, 37, 38, 39, 40, 41, 42, 43, 44, 45, 46, 47, 48, 49, 50, 51, 52, 53, 54, 55, 56, 57, 58, 59, 60] (by decide +kernel) (by decide +kernel)
set_option maxRecDepth 20000 in
theorem gX7_follows_X7_takes : GoodIn wsX7_follows (wsV RX7 123 RX7 yX7_takes wsX7_takes) := goodIn_app (goodIn_of _ (by decide +kernel)) ggX7_follows_X7_takes
set_option maxRecDepth 20000 in
theorem ggX7_follows_X7_figure : GoodIn wsX7_follows wsX7_figure := goodIn_r _ [32, 1, 10, 11, 12, 13, 5, 14, 8, 2, 3, 4, 6, 7, 9, 15, 16, 17, 18, 19, 20, 21, 22, 23, 24, 25, 26, 27, 28, 33, 34, 35, 36, 37, 38, 39, 40, 41, 42, 43, 44, 45, 46, 47, 48, 49, 50, 51, 52, 53, 54, 55, 56, 57, 58, 59, 60] (by decide +kernel) (by decide +kernel)
set_option maxRecDepth 20000 in
theorem gX7_follows_X7_figure : GoodIn wsX7_follows (wsV RX7 127 RX7 yX7_figure wsX7_figure) := goodIn_app (goodIn_of _ (by decide +kernel)) ggX7_follows_X7_figure
theorem dX7_follows_0 : decode cX7_follows 0 = .ok (.aload_n 0, 1) := by decide +kernel
theorem dX7_follows_1 : decode cX7_follows 1 = .ok (.aload_n 0, 1) := by decide +kernel
theorem dX7_follows_2 : decode cX7_follows 2 = .ok (.getfield 107, 3) := by decide +kernel
theorem dX7_follows_5 : decode cX7_follows 5 = .ok (.iconst 3, 1) := by decide +kernel
theorem dX7_follows_6 : decode cX7_follows 6 = .ok (.if_icmp .ne 7, 3) := by decide +kernel
theorem dX7_follows_9 : decode cX7_follows 9 = .ok (.iconst 1, 1) := by decide +kernel
theorem dX7_follows_10 : decode cX7_follows 10 = .ok (.goto 4, 3) := by decide +kernel
theorem dX7_follows_13 : decode cX7_follows 13 = .ok (.iconst 0, 1) := by decide +kernel
theorem dX7_follows_14 : decode cX7_follows 14 = .ok (.iconst 1, 1) := by decide +kernel
theorem dX7_follows_15 : decode cX7_follows 15 = .ok (.invokevirtual 123, 3) := by decide +kernel
theorem dX7_follows_18 : decode cX7_follows 18 = .ok (.pop, 1) := by decide +kernel
theorem dX7_follows_19 : decode cX7_follows 19 = .ok (.aload_n 0, 1) := by decide +kernel
theorem dX7_follows_20 : decode cX7_follows 20 = .ok (.iload_n 1, 1) := by decide +kernel
theorem dX7_follows_21 : decode cX7_follows 21 = .ok (.iload_n 2, 1) := by decide +kernel
theorem dX7_follows_22 : decode cX7_follows 22 = .ok (.invokevirtual 127, 3) := by decide +kernel
theorem dX7_follows_25 : decode cX7_follows 25 = .ok (.ireturn, 1) := by decide +kernel
set_option maxRecDepth 20000 in
theorem ggX7_readsSoul_X7_kindOf : GoodIn wsX7_readsSoul wsX7_kindOf := goodIn_r _ [7] (by decide +kernel) (by decide +kernel)
set_option maxRecDepth 20000 in
theorem gX7_readsSoul_X7_kindOf : GoodIn wsX7_readsSoul (va_wsS RX7 130 yX7_kindOf wsX7_kindOf) := goodIn_app (goodIn_of _ (by decide +kernel)) ggX7_readsSoul_X7_kindOf
set_option maxRecDepth 20000 in
theorem ggX7_readsSoul_X7_takes : GoodIn wsX7_readsSoul wsX7_takes := goodIn_r _ [11, 12, 13, 14, 1, 15, 16, 17, 6, 18, 19, 20, 21, 22, 23, 3, 24, 25, 26, 27, 28, 29, 30, 31, 32, 41, 42, 43, 44, 45, 46, 47, 48, 49, 50, 51, 52, 53, 54, 55, 56, 57, 58, 59, 60, 61, 62, 63, 64, 65, 66, 67, 68] (by decide +kernel) (by decide +kernel)
set_option maxRecDepth 20000 in
theorem gX7_readsSoul_X7_takes : GoodIn wsX7_readsSoul (wsV RX7 123 RX7 yX7_takes wsX7_takes) := goodIn_app (goodIn_of _ (by decide +kernel)) ggX7_readsSoul_X7_takes
set_option maxRecDepth 20000 in
theorem ggX7_readsSoul_X7_figure : GoodIn wsX7_readsSoul wsX7_figure := goodIn_r _ [36, 3, 1, 15, 16, 17, 6, 18, 13, 8, 9, 10, 11, 12, 14, 19, 20, 21, 22, 23, 24, 25, 26, 27, 28, 29, 30, 31, 32, 41, 42, 43, 44, 45, 46, 47, 48, 49, 50, 51, 52, 53, 54, 55, 56, 57, 58, 59, 60, 61, 62, 63, 64, 65, 66, 67, 68] (by decide +kernel) (by decide +kernel)
set_option maxRecDepth 20000 in
theorem gX7_readsSoul_X7_figure : GoodIn wsX7_readsSoul (wsV RX7 127 RX7 yX7_figure wsX7_figure) := goodIn_app (goodIn_of _ (by decide +kernel)) ggX7_readsSoul_X7_figure
set_option maxRecDepth 20000 in
theorem ggX7_readsSoul_X7_follows : GoodIn wsX7_readsSoul wsX7_follows := goodIn_r _ [40, 3, 8, 9, 10, 6, 11, 12, 13, 14, 1, 15, 16, 17, 18, 19, 20, 21, 22, 23, 24, 25, 26, 27, 28, 29, 30, 31, 32, 33, 34, 35, 36, 41, 42, 43, 44, 45, 46, 47, 48, 49, 50, 51, 52, 53, 54, 55, 56, 57, 58, 59, 60, 61, 62, 63, 64, 65, 66, 67, 68] (by decide +kernel) (by decide +kernel)
set_option maxRecDepth 20000 in
theorem gX7_readsSoul_X7_follows : GoodIn wsX7_readsSoul (wsV RX7 133 RX7 yX7_follows wsX7_follows) := goodIn_app (goodIn_of _ (by decide +kernel)) ggX7_readsSoul_X7_follows
set_option maxRecDepth 20000 in
theorem ggX7_readsSoul_X7_isWell : GoodIn wsX7_readsSoul wsX7_isWell := goodIn_r _ [18, 13, 41, 42, 43, 44, 45, 46, 47, 48, 49, 50, 51, 52, 53, 54, 55, 56, 57, 58, 59, 60, 61, 62, 63, 64, 65, 66, 67, 68] (by decide +kernel) (by decide +kernel)
set_option maxRecDepth 20000 in
theorem gX7_readsSoul_X7_isWell : GoodIn wsX7_readsSoul (wsV RX7 113 RX7 yX7_isWell wsX7_isWell) := goodIn_app (goodIn_of _ (by decide +kernel)) ggX7_readsSoul_X7_isWell
theorem dX7_readsSoul_0 : decode cX7_readsSoul 0 = .ok (.aload_n 0, 1) := by decide +kernel
theorem dX7_readsSoul_1 : decode cX7_readsSoul 1 = .ok (.getfield 104, 3) := by decide +kernel
theorem dX7_readsSoul_4 : decode cX7_readsSoul 4 = .ok (.invokestatic 130, 3) := by decide +kernel
theorem dX7_readsSoul_7 : decode cX7_readsSoul 7 = .ok (.istore_n 1, 1) := by decide +kernel
theorem dX7_readsSoul_8 : decode cX7_readsSoul 8 = .ok (.aload_n 0, 1) := by decide +kernel
theorem dX7_readsSoul_9 : decode cX7_readsSoul 9 = .ok (.aload_n 0, 1) := by decide +kernel
theorem dX7_readsSoul_10 : decode cX7_readsSoul 10 = .ok (.getfield 28, 3) := by decide +kernel
theorem dX7_readsSoul_13 : decode cX7_readsSoul 13 = .ok (.iconst 2, 1) := by decide +kernel
theorem dX7_readsSoul_14 : decode cX7_readsSoul 14 = .ok (.iaload, 1) := by decide +kernel
theorem dX7_readsSoul_15 : decode cX7_readsSoul 15 = .ok (.bipush 7, 2) := by decide +kernel
theorem dX7_readsSoul_17 : decode cX7_readsSoul 17 = .ok (.if_icmp .ge 7, 3) := by decide +kernel
theorem dX7_readsSoul_20 : decode cX7_readsSoul 20 = .ok (.iconst 1, 1) := by decide +kernel
theorem dX7_readsSoul_21 : decode cX7_readsSoul 21 = .ok (.goto 4, 3) := by decide +kernel
theorem dX7_readsSoul_24 : decode cX7_readsSoul 24 = .ok (.iconst 0, 1) := by decide +kernel
theorem dX7_readsSoul_25 : decode cX7_readsSoul 25 = .ok (.iconst 3, 1) := by decide +kernel
theorem dX7_readsSoul_26 : decode cX7_readsSoul 26 = .ok (.invokevirtual 123, 3) := by decide +kernel
theorem dX7_readsSoul_29 : decode cX7_readsSoul 29 = .ok (.pop, 1) := by decide +kernel
theorem dX7_readsSoul_30 : decode cX7_readsSoul 30 = .ok (.bipush 7, 2) := by decide +kernel
theorem dX7_readsSoul_32 : decode cX7_readsSoul 32 = .ok (.iconst 3, 1) := by decide +kernel
theorem dX7_readsSoul_33 : decode cX7_readsSoul 33 = .ok (.aload_n 0, 1) := by decide +kernel
theorem dX7_readsSoul_34 : decode cX7_readsSoul 34 = .ok (.getfield 28, 3) := by decide +kernel
theorem dX7_readsSoul_37 : decode cX7_readsSoul 37 = .ok (.iconst 2, 1) := by decide +kernel
theorem dX7_readsSoul_38 : decode cX7_readsSoul 38 = .ok (.iaload, 1) := by decide +kernel
theorem dX7_readsSoul_39 : decode cX7_readsSoul 39 = .ok (.bipush 7, 2) := by decide +kernel
theorem dX7_readsSoul_41 : decode cX7_readsSoul 41 = .ok (.if_icmp .ge 12, 3) := by decide +kernel
theorem dX7_readsSoul_44 : decode cX7_readsSoul 44 = .ok (.aload_n 0, 1) := by decide +kernel
theorem dX7_readsSoul_45 : decode cX7_readsSoul 45 = .ok (.getfield 28, 3) := by decide +kernel
theorem dX7_readsSoul_48 : decode cX7_readsSoul 48 = .ok (.iconst 2, 1) := by decide +kernel
theorem dX7_readsSoul_49 : decode cX7_readsSoul 49 = .ok (.iaload, 1) := by decide +kernel
theorem dX7_readsSoul_50 : decode cX7_readsSoul 50 = .ok (.goto 4, 3) := by decide +kernel
theorem dX7_readsSoul_53 : decode cX7_readsSoul 53 = .ok (.iconst 0, 1) := by decide +kernel
theorem dX7_readsSoul_54 : decode cX7_readsSoul 54 = .ok (.imul, 1) := by decide +kernel
theorem dX7_readsSoul_55 : decode cX7_readsSoul 55 = .ok (.iadd, 1) := by decide +kernel
theorem dX7_readsSoul_56 : decode cX7_readsSoul 56 = .ok (.istore_n 2, 1) := by decide +kernel
theorem dX7_readsSoul_57 : decode cX7_readsSoul 57 = .ok (.aload_n 0, 1) := by decide +kernel
theorem dX7_readsSoul_58 : decode cX7_readsSoul 58 = .ok (.iconst 0, 1) := by decide +kernel
theorem dX7_readsSoul_59 : decode cX7_readsSoul 59 = .ok (.bipush 20, 2) := by decide +kernel
theorem dX7_readsSoul_61 : decode cX7_readsSoul 61 = .ok (.invokevirtual 127, 3) := by decide +kernel
theorem dX7_readsSoul_64 : decode cX7_readsSoul 64 = .ok (.istore_n 3, 1) := by decide +kernel
theorem dX7_readsSoul_65 : decode cX7_readsSoul 65 = .ok (.aload_n 0, 1) := by decide +kernel
theorem dX7_readsSoul_66 : decode cX7_readsSoul 66 = .ok (.iconst 0, 1) := by decide +kernel
theorem dX7_readsSoul_67 : decode cX7_readsSoul 67 = .ok (.bipush 30, 2) := by decide +kernel
theorem dX7_readsSoul_69 : decode cX7_readsSoul 69 = .ok (.invokevirtual 133, 3) := by decide +kernel
theorem dX7_readsSoul_72 : decode cX7_readsSoul 72 = .ok (.istore 4, 2) := by decide +kernel
theorem dX7_readsSoul_74 : decode cX7_readsSoul 74 = .ok (.aload_n 0, 1) := by decide +kernel
theorem dX7_readsSoul_75 : decode cX7_readsSoul 75 = .ok (.aload_n 0, 1) := by decide +kernel
theorem dX7_readsSoul_76 : decode cX7_readsSoul 76 = .ok (.getfield 107, 3) := by decide +kernel
theorem dX7_readsSoul_79 : decode cX7_readsSoul 79 = .ok (.iconst 4, 1) := by decide +kernel
theorem dX7_readsSoul_80 : decode cX7_readsSoul 80 = .ok (.if_icmp .ne 7, 3) := by decide +kernel
theorem dX7_readsSoul_83 : decode cX7_readsSoul 83 = .ok (.iconst 1, 1) := by decide +kernel
theorem dX7_readsSoul_84 : decode cX7_readsSoul 84 = .ok (.goto 4, 3) := by decide +kernel
theorem dX7_readsSoul_87 : decode cX7_readsSoul 87 = .ok (.iconst 0, 1) := by decide +kernel
theorem dX7_readsSoul_88 : decode cX7_readsSoul 88 = .ok (.iconst 1, 1) := by decide +kernel
theorem dX7_readsSoul_89 : decode cX7_readsSoul 89 = .ok (.invokevirtual 123, 3) := by decide +kernel
theorem dX7_readsSoul_92 : decode cX7_readsSoul 92 = .ok (.pop, 1) := by decide +kernel
theorem dX7_readsSoul_93 : decode cX7_readsSoul 93 = .ok (.aload_n 0, 1) := by decide +kernel
theorem dX7_readsSoul_94 : decode cX7_readsSoul 94 = .ok (.invokevirtual 113, 3) := by decide +kernel
theorem dX7_readsSoul_97 : decode cX7_readsSoul 97 = .ok (.ifCond .eq 39, 3) := by decide +kernel
theorem dX7_readsSoul_100 : decode cX7_readsSoul 100 = .ok (.aload_n 0, 1) := by decide +kernel
theorem dX7_readsSoul_101 : decode cX7_readsSoul 101 = .ok (.getfield 28, 3) := by decide +kernel
theorem dX7_readsSoul_104 : decode cX7_readsSoul 104 = .ok (.iload_n 2, 1) := by decide +kernel
theorem dX7_readsSoul_105 : decode cX7_readsSoul 105 = .ok (.iload_n 1, 1) := by decide +kernel
theorem dX7_readsSoul_106 : decode cX7_readsSoul 106 = .ok (.iastore, 1) := by decide +kernel
theorem dX7_readsSoul_107 : decode cX7_readsSoul 107 = .ok (.aload_n 0, 1) := by decide +kernel
theorem dX7_readsSoul_108 : decode cX7_readsSoul 108 = .ok (.getfield 28, 3) := by decide +kernel
theorem dX7_readsSoul_111 : decode cX7_readsSoul 111 = .ok (.iload_n 2, 1) := by decide +kernel
theorem dX7_readsSoul_112 : decode cX7_readsSoul 112 = .ok (.iconst 1, 1) := by decide +kernel
theorem dX7_readsSoul_113 : decode cX7_readsSoul 113 = .ok (.iadd, 1) := by decide +kernel
theorem dX7_readsSoul_114 : decode cX7_readsSoul 114 = .ok (.iload_n 3, 1) := by decide +kernel
theorem dX7_readsSoul_115 : decode cX7_readsSoul 115 = .ok (.iastore, 1) := by decide +kernel
theorem dX7_readsSoul_116 : decode cX7_readsSoul 116 = .ok (.aload_n 0, 1) := by decide +kernel
theorem dX7_readsSoul_117 : decode cX7_readsSoul 117 = .ok (.getfield 28, 3) := by decide +kernel
theorem dX7_readsSoul_120 : decode cX7_readsSoul 120 = .ok (.iload_n 2, 1) := by decide +kernel
theorem dX7_readsSoul_121 : decode cX7_readsSoul 121 = .ok (.iconst 2, 1) := by decide +kernel
theorem dX7_readsSoul_122 : decode cX7_readsSoul 122 = .ok (.iadd, 1) := by decide +kernel
theorem dX7_readsSoul_123 : decode cX7_readsSoul 123 = .ok (.iload 4, 2) := by decide +kernel
theorem dX7_readsSoul_125 : decode cX7_readsSoul 125 = .ok (.iastore, 1) := by decide +kernel
theorem dX7_readsSoul_126 : decode cX7_readsSoul 126 = .ok (.aload_n 0, 1) := by decide +kernel
theorem dX7_readsSoul_127 : decode cX7_readsSoul 127 = .ok (.getfield 28, 3) := by decide +kernel
theorem dX7_readsSoul_130 : decode cX7_readsSoul 130 = .ok (.iconst 2, 1) := by decide +kernel
theorem dX7_readsSoul_131 : decode cX7_readsSoul 131 = .ok (.dup2, 1) := by decide +kernel
theorem dX7_readsSoul_132 : decode cX7_readsSoul 132 = .ok (.iaload, 1) := by decide +kernel
theorem dX7_readsSoul_133 : decode cX7_readsSoul 133 = .ok (.iconst 1, 1) := by decide +kernel
theorem dX7_readsSoul_134 : decode cX7_readsSoul 134 = .ok (.iadd, 1) := by decide +kernel
theorem dX7_readsSoul_135 : decode cX7_readsSoul 135 = .ok (.iastore, 1) := by decide +kernel
theorem dX7_readsSoul_136 : decode cX7_readsSoul 136 = .ok (.return_, 1) := by decide +kernel
set_option maxRecDepth 20000 in
theorem ggX7_must_X7_isWell : GoodIn wsX7_must wsX7_isWell := goodIn_r _ [5, 6, 29, 30, 31, 32, 33, 34, 35, 36, 37, 38, 39, 40, 41, 42, 43, 44, 45, 46, 47, 48, 49, 50, 51, 52, 53, 54, 55, 56] (by decide +kernel) (by decide +kernel)
set_option maxRecDepth 20000 in
theorem gX7_must_X7_isWell : GoodIn wsX7_must (wsV RX7 113 RX7 yX7_isWell wsX7_isWell) := goodIn_app (goodIn_of _ (by decide +kernel)) ggX7_must_X7_isWell
set_option maxRecDepth 20000 in
theorem ggX7_must_X7_takes : GoodIn wsX7_must wsX7_takes := goodIn_r _ [10, 11, 6, 12, 13, 1, 2, 3, 4, 5, 14, 15, 16, 17, 18, 19, 20, 21, 22, 23, 24, 25, 26, 27, 28, 29, 30, 31, 32, 33, 34, 35, 36, 37, 38, 39, 40, 41, 42, 43, 44, 45, 46, 47, 48, 49, 50, 51, 52, 53, 54, 55, 56] (by decide +kernel) (by decide +kernel)
set_option maxRecDepth 20000 in
theorem gX7_must_X7_takes : GoodIn wsX7_must (wsV RX7 123 RX7 yX7_takes wsX7_takes) := goodIn_app (goodIn_of _ (by decide +kernel)) ggX7_must_X7_takes
theorem dX7_must_0 : decode cX7_must 0 = .ok (.aload_n 0, 1) := by decide +kernel
theorem dX7_must_1 : decode cX7_must 1 = .ok (.invokevirtual 113, 3) := by decide +kernel
theorem dX7_must_4 : decode cX7_must 4 = .ok (.ifCond .eq 14, 3) := by decide +kernel
theorem dX7_must_7 : decode cX7_must 7 = .ok (.iload_n 1, 1) := by decide +kernel
theorem dX7_must_8 : decode cX7_must 8 = .ok (.ifCond .ne 10, 3) := by decide +kernel
theorem dX7_must_11 : decode cX7_must 11 = .ok (.aload_n 0, 1) := by decide +kernel
theorem dX7_must_12 : decode cX7_must 12 = .ok (.iconst 0, 1) := by decide +kernel
theorem dX7_must_13 : decode cX7_must 13 = .ok (.iconst 1, 1) := by decide +kernel
theorem dX7_must_14 : decode cX7_must 14 = .ok (.invokevirtual 123, 3) := by decide +kernel
theorem dX7_must_17 : decode cX7_must 17 = .ok (.pop, 1) := by decide +kernel
theorem dX7_must_18 : decode cX7_must 18 = .ok (.return_, 1) := by decide +kernel
set_option maxRecDepth 20000 in
theorem ggX7_coast_X7_advances : GoodIn wsX7_coast wsX7_advances := goodIn_r _ [14, 2, 15, 5, 4, 16, 17, 18, 13, 19, 6, 20, 21, 22, 23, 55, 56, 57, 58, 59, 60, 61, 62, 63, 64, 65, 66, 67, 68, 69, 70, 71, 72, 73, 74, 75, 76, 77, 78, 79, 80, 81, 82] (by decide +kernel) (by decide +kernel)
set_option maxRecDepth 20000 in
theorem gX7_coast_X7_advances : GoodIn wsX7_coast (wsV RX7 120 RX7 yX7_advances wsX7_advances) := goodIn_app (goodIn_of _ (by decide +kernel)) ggX7_coast_X7_advances
set_option maxRecDepth 20000 in
theorem ggX7_coast_X7_takes : GoodIn wsX7_coast wsX7_takes := goodIn_r _ [27, 15, 3, 28, 5, 29, 30, 31, 13, 32, 10, 11, 12, 14, 2, 4, 16, 17, 18, 19, 6, 20, 21, 22, 23, 55, 56, 57, 58, 59, 60, 61, 62, 63, 64, 65, 66, 67, 68, 69, 70, 71, 72, 73, 74, 75, 76, 77, 78, 79, 80, 81, 82] (by decide +kernel) (by decide +kernel)
set_option maxRecDepth 20000 in
theorem gX7_coast_X7_takes : GoodIn wsX7_coast (wsV RX7 123 RX7 yX7_takes wsX7_takes) := goodIn_app (goodIn_of _ (by decide +kernel)) ggX7_coast_X7_takes
set_option maxRecDepth 20000 in
theorem ggX7_coast_X7_figure : GoodIn wsX7_coast wsX7_figure := goodIn_r _ [36, 4, 5, 29, 30, 31, 13, 32, 3, 24, 25, 26, 27, 15, 28, 10, 11, 12, 14, 2, 16, 17, 18, 19, 6, 20, 21, 22, 23, 55, 56, 57, 58, 59, 60, 61, 62, 63, 64, 65, 66, 67, 68, 69, 70, 71, 72, 73, 74, 75, 76, 77, 78, 79, 80, 81, 82] (by decide +kernel) (by decide +kernel)
set_option maxRecDepth 20000 in
theorem gX7_coast_X7_figure : GoodIn wsX7_coast (wsV RX7 127 RX7 yX7_figure wsX7_figure) := goodIn_app (goodIn_of _ (by decide +kernel)) ggX7_coast_X7_figure
set_option maxRecDepth 20000 in
theorem ggX7_coast_X7_follows : GoodIn wsX7_coast wsX7_follows := goodIn_r _ [40, 4, 24, 25, 26, 13, 27, 15, 3, 28, 5, 29, 30, 31, 32, 10, 11, 12, 14, 2, 16, 17, 18, 19, 6, 20, 21, 22, 23, 33, 34, 35, 36, 55, 56, 57, 58, 59, 60, 61, 62, 63, 64, 65, 66, 67, 68, 69, 70, 71, 72, 73, 74, 75, 76, 77, 78, 79, 80, 81, 82] (by decide +kernel) (by decide +kernel)
set_option maxRecDepth 20000 in
theorem gX7_coast_X7_follows : GoodIn wsX7_coast (wsV RX7 133 RX7 yX7_follows wsX7_follows) := goodIn_app (goodIn_of _ (by decide +kernel)) ggX7_coast_X7_follows
set_option maxRecDepth 20000 in
theorem ggX7_coast_X7_kindOf : GoodIn wsX7_coast wsX7_kindOf := goodIn_r _ [43] (by decide +kernel) (by decide +kernel)
set_option maxRecDepth 20000 in
theorem gX7_coast_X7_kindOf : GoodIn wsX7_coast (va_wsS RX7 130 yX7_kindOf wsX7_kindOf) := goodIn_app (goodIn_of _ (by decide +kernel)) ggX7_coast_X7_kindOf
set_option maxRecDepth 20000 in
theorem ggX7_coast_X7_must : GoodIn wsX7_coast wsX7_must := goodIn_r _ [47, 29, 30, 31, 13, 32, 3, 24, 25, 26, 27, 15, 28, 5, 10, 11, 12, 14, 2, 4, 16, 17, 18, 19, 6, 20, 21, 22, 23, 55, 56, 57, 58, 59, 60, 61, 62, 63, 64, 65, 66, 67, 68, 69, 70, 71, 72, 73, 74, 75, 76, 77, 78, 79, 80, 81, 82] (by decide +kernel) (by decide +kernel)
set_option maxRecDepth 20000 in
theorem gX7_coast_X7_must : GoodIn wsX7_coast (wsV RX7 136 RX7 yX7_must wsX7_must) := goodIn_app (goodIn_of _ (by decide +kernel)) ggX7_coast_X7_must
set_option maxRecDepth 20000 in
theorem ggX7_coast_X7_isWell : GoodIn wsX7_coast wsX7_isWell := goodIn_r _ [32, 3, 55, 56, 57, 58, 59, 60, 61, 62, 63, 64, 65, 66, 67, 68, 69, 70, 71, 72, 73, 74, 75, 76, 77, 78, 79, 80, 81, 82] (by decide +kernel) (by decide +kernel)
set_option maxRecDepth 20000 in
theorem gX7_coast_X7_isWell : GoodIn wsX7_coast (wsV RX7 113 RX7 yX7_isWell wsX7_isWell) := goodIn_app (goodIn_of _ (by decide +kernel)) ggX7_coast_X7_isWell
set_option maxRecDepth 20000 in
theorem ggX7_coast_X7_readsSoul : GoodIn wsX7_coast wsX7_readsSoul := goodIn_r _ [51, 5, 1, 4, 41, 42, 13, 43, 24, 25, 26, 27, 15, 3, 28, 29, 30, 31, 32, 10, 11, 12, 14, 2, 16, 17, 18, 19, 6, 20, 21, 22, 23, 33, 34, 35, 36, 37, 38, 39, 40, 55, 56, 57, 58, 59, 60, 61, 62, 63, 64, 65, 66, 67, 68, 69, 70, 71, 72, 73, 74, 75, 76, 77, 78, 79, 80, 81, 82] (by decide +kernel) (by decide +kernel)
set_option maxRecDepth 20000 in
theorem gX7_coast_X7_readsSoul : GoodIn wsX7_coast (wsV RX7 140 RX7 yX7_readsSoul wsX7_readsSoul) := goodIn_app (goodIn_of _ (by decide +kernel)) ggX7_coast_X7_readsSoul
set_option maxRecDepth 20000 in
theorem ggX7_coast_X7_copies : GoodIn wsX7_coast wsX7_copies := goodIn_r _ [54] (by decide +kernel) (by decide +kernel)
set_option maxRecDepth 20000 in
theorem gX7_coast_X7_copies : GoodIn wsX7_coast (va_wsS RX7 144 yX7_copies wsX7_copies) := goodIn_app (goodIn_of _ (by decide +kernel)) ggX7_coast_X7_copies
theorem dX7_coast_0 : decode cX7_coast 0 = .ok (.iconst 0, 1) := by decide +kernel
theorem dX7_coast_1 : decode cX7_coast 1 = .ok (.istore_n 1, 1) := by decide +kernel
theorem dX7_coast_2 : decode cX7_coast 2 = .ok (.iload_n 1, 1) := by decide +kernel
theorem dX7_coast_3 : decode cX7_coast 3 = .ok (.bipush 28, 2) := by decide +kernel
theorem dX7_coast_5 : decode cX7_coast 5 = .ok (.if_icmp .ge 16, 3) := by decide +kernel
theorem dX7_coast_8 : decode cX7_coast 8 = .ok (.aload_n 0, 1) := by decide +kernel
theorem dX7_coast_9 : decode cX7_coast 9 = .ok (.getfield 28, 3) := by decide +kernel
theorem dX7_coast_12 : decode cX7_coast 12 = .ok (.iload_n 1, 1) := by decide +kernel
theorem dX7_coast_13 : decode cX7_coast 13 = .ok (.iconst 0, 1) := by decide +kernel
theorem dX7_coast_14 : decode cX7_coast 14 = .ok (.iastore, 1) := by decide +kernel
theorem dX7_coast_15 : decode cX7_coast 15 = .ok (.iinc 1 1, 3) := by decide +kernel
theorem dX7_coast_18 : decode cX7_coast 18 = .ok (.goto (-16), 3) := by decide +kernel
theorem dX7_coast_21 : decode cX7_coast 21 = .ok (.aload_n 0, 1) := by decide +kernel
theorem dX7_coast_22 : decode cX7_coast 22 = .ok (.iconst 0, 1) := by decide +kernel
theorem dX7_coast_23 : decode cX7_coast 23 = .ok (.putfield 95, 3) := by decide +kernel
theorem dX7_coast_26 : decode cX7_coast 26 = .ok (.aload_n 0, 1) := by decide +kernel
theorem dX7_coast_27 : decode cX7_coast 27 = .ok (.iconst (-1), 1) := by decide +kernel
theorem dX7_coast_28 : decode cX7_coast 28 = .ok (.putfield 110, 3) := by decide +kernel
theorem dX7_coast_31 : decode cX7_coast 31 = .ok (.aload_n 0, 1) := by decide +kernel
theorem dX7_coast_32 : decode cX7_coast 32 = .ok (.invokevirtual 120, 3) := by decide +kernel
theorem dX7_coast_35 : decode cX7_coast 35 = .ok (.aload_n 0, 1) := by decide +kernel
theorem dX7_coast_36 : decode cX7_coast 36 = .ok (.aload_n 0, 1) := by decide +kernel
theorem dX7_coast_37 : decode cX7_coast 37 = .ok (.getfield 107, 3) := by decide +kernel
theorem dX7_coast_40 : decode cX7_coast 40 = .ok (.iconst 1, 1) := by decide +kernel
theorem dX7_coast_41 : decode cX7_coast 41 = .ok (.if_icmp .ne 16, 3) := by decide +kernel
theorem dX7_coast_44 : decode cX7_coast 44 = .ok (.aload_n 0, 1) := by decide +kernel
theorem dX7_coast_45 : decode cX7_coast 45 = .ok (.getfield 104, 3) := by decide +kernel
theorem dX7_coast_48 : decode cX7_coast 48 = .ok (.bipush 115, 2) := by decide +kernel
theorem dX7_coast_50 : decode cX7_coast 50 = .ok (.if_icmp .ne 7, 3) := by decide +kernel
theorem dX7_coast_53 : decode cX7_coast 53 = .ok (.iconst 1, 1) := by decide +kernel
theorem dX7_coast_54 : decode cX7_coast 54 = .ok (.goto 4, 3) := by decide +kernel
theorem dX7_coast_57 : decode cX7_coast 57 = .ok (.iconst 0, 1) := by decide +kernel
theorem dX7_coast_58 : decode cX7_coast 58 = .ok (.iconst 1, 1) := by decide +kernel
theorem dX7_coast_59 : decode cX7_coast 59 = .ok (.invokevirtual 123, 3) := by decide +kernel
theorem dX7_coast_62 : decode cX7_coast 62 = .ok (.pop, 1) := by decide +kernel
theorem dX7_coast_63 : decode cX7_coast 63 = .ok (.aload_n 0, 1) := by decide +kernel
theorem dX7_coast_64 : decode cX7_coast 64 = .ok (.getfield 28, 3) := by decide +kernel
theorem dX7_coast_67 : decode cX7_coast 67 = .ok (.iconst 0, 1) := by decide +kernel
theorem dX7_coast_68 : decode cX7_coast 68 = .ok (.aload_n 0, 1) := by decide +kernel
theorem dX7_coast_69 : decode cX7_coast 69 = .ok (.iconst 0, 1) := by decide +kernel
theorem dX7_coast_70 : decode cX7_coast 70 = .ok (.bipush 60, 2) := by decide +kernel
theorem dX7_coast_72 : decode cX7_coast 72 = .ok (.invokevirtual 127, 3) := by decide +kernel
theorem dX7_coast_75 : decode cX7_coast 75 = .ok (.iastore, 1) := by decide +kernel
theorem dX7_coast_76 : decode cX7_coast 76 = .ok (.aload_n 0, 1) := by decide +kernel
theorem dX7_coast_77 : decode cX7_coast 77 = .ok (.getfield 28, 3) := by decide +kernel
theorem dX7_coast_80 : decode cX7_coast 80 = .ok (.iconst 1, 1) := by decide +kernel
theorem dX7_coast_81 : decode cX7_coast 81 = .ok (.aload_n 0, 1) := by decide +kernel
theorem dX7_coast_82 : decode cX7_coast 82 = .ok (.iconst 0, 1) := by decide +kernel
theorem dX7_coast_83 : decode cX7_coast 83 = .ok (.iconst 5, 1) := by decide +kernel
theorem dX7_coast_84 : decode cX7_coast 84 = .ok (.invokevirtual 133, 3) := by decide +kernel
theorem dX7_coast_87 : decode cX7_coast 87 = .ok (.iastore, 1) := by decide +kernel
theorem dX7_coast_88 : decode cX7_coast 88 = .ok (.aload_n 0, 1) := by decide +kernel
theorem dX7_coast_89 : decode cX7_coast 89 = .ok (.aload_n 0, 1) := by decide +kernel
theorem dX7_coast_90 : decode cX7_coast 90 = .ok (.getfield 107, 3) := by decide +kernel
theorem dX7_coast_93 : decode cX7_coast 93 = .ok (.iconst 4, 1) := by decide +kernel
theorem dX7_coast_94 : decode cX7_coast 94 = .ok (.if_icmp .ne 7, 3) := by decide +kernel
theorem dX7_coast_97 : decode cX7_coast 97 = .ok (.iconst 1, 1) := by decide +kernel
theorem dX7_coast_98 : decode cX7_coast 98 = .ok (.goto 4, 3) := by decide +kernel
theorem dX7_coast_101 : decode cX7_coast 101 = .ok (.iconst 0, 1) := by decide +kernel
theorem dX7_coast_102 : decode cX7_coast 102 = .ok (.iconst 1, 1) := by decide +kernel
theorem dX7_coast_103 : decode cX7_coast 103 = .ok (.invokevirtual 123, 3) := by decide +kernel
theorem dX7_coast_106 : decode cX7_coast 106 = .ok (.pop, 1) := by decide +kernel
theorem dX7_coast_107 : decode cX7_coast 107 = .ok (.aload_n 0, 1) := by decide +kernel
theorem dX7_coast_108 : decode cX7_coast 108 = .ok (.aload_n 0, 1) := by decide +kernel
theorem dX7_coast_109 : decode cX7_coast 109 = .ok (.getfield 107, 3) := by decide +kernel
theorem dX7_coast_112 : decode cX7_coast 112 = .ok (.iconst 1, 1) := by decide +kernel
theorem dX7_coast_113 : decode cX7_coast 113 = .ok (.if_icmp .ne 17, 3) := by decide +kernel
theorem dX7_coast_116 : decode cX7_coast 116 = .ok (.aload_n 0, 1) := by decide +kernel
theorem dX7_coast_117 : decode cX7_coast 117 = .ok (.getfield 104, 3) := by decide +kernel
theorem dX7_coast_120 : decode cX7_coast 120 = .ok (.invokestatic 130, 3) := by decide +kernel
theorem dX7_coast_123 : decode cX7_coast 123 = .ok (.ifCond .le 7, 3) := by decide +kernel
theorem dX7_coast_126 : decode cX7_coast 126 = .ok (.iconst 1, 1) := by decide +kernel
theorem dX7_coast_127 : decode cX7_coast 127 = .ok (.goto 4, 3) := by decide +kernel
theorem dX7_coast_130 : decode cX7_coast 130 = .ok (.iconst 0, 1) := by decide +kernel
theorem dX7_coast_131 : decode cX7_coast 131 = .ok (.invokevirtual 136, 3) := by decide +kernel
theorem dX7_coast_134 : decode cX7_coast 134 = .ok (.aload_n 0, 1) := by decide +kernel
theorem dX7_coast_135 : decode cX7_coast 135 = .ok (.invokevirtual 113, 3) := by decide +kernel
theorem dX7_coast_138 : decode cX7_coast 138 = .ok (.ifCond .eq 28, 3) := by decide +kernel
theorem dX7_coast_141 : decode cX7_coast 141 = .ok (.aload_n 0, 1) := by decide +kernel
theorem dX7_coast_142 : decode cX7_coast 142 = .ok (.getfield 107, 3) := by decide +kernel
theorem dX7_coast_145 : decode cX7_coast 145 = .ok (.iconst 1, 1) := by decide +kernel
theorem dX7_coast_146 : decode cX7_coast 146 = .ok (.if_icmp .ne 20, 3) := by decide +kernel
theorem dX7_coast_149 : decode cX7_coast 149 = .ok (.aload_n 0, 1) := by decide +kernel
theorem dX7_coast_150 : decode cX7_coast 150 = .ok (.getfield 104, 3) := by decide +kernel
theorem dX7_coast_153 : decode cX7_coast 153 = .ok (.invokestatic 130, 3) := by decide +kernel
theorem dX7_coast_156 : decode cX7_coast 156 = .ok (.ifCond .le 10, 3) := by decide +kernel
theorem dX7_coast_159 : decode cX7_coast 159 = .ok (.aload_n 0, 1) := by decide +kernel
theorem dX7_coast_160 : decode cX7_coast 160 = .ok (.invokevirtual 140, 3) := by decide +kernel
theorem dX7_coast_163 : decode cX7_coast 163 = .ok (.goto (-29), 3) := by decide +kernel
theorem dX7_coast_166 : decode cX7_coast 166 = .ok (.aload_n 0, 1) := by decide +kernel
theorem dX7_coast_167 : decode cX7_coast 167 = .ok (.aload_n 0, 1) := by decide +kernel
theorem dX7_coast_168 : decode cX7_coast 168 = .ok (.getfield 107, 3) := by decide +kernel
theorem dX7_coast_171 : decode cX7_coast 171 = .ok (.ifCond .ne 7, 3) := by decide +kernel
theorem dX7_coast_174 : decode cX7_coast 174 = .ok (.iconst 1, 1) := by decide +kernel
theorem dX7_coast_175 : decode cX7_coast 175 = .ok (.goto 4, 3) := by decide +kernel
theorem dX7_coast_178 : decode cX7_coast 178 = .ok (.iconst 0, 1) := by decide +kernel
theorem dX7_coast_179 : decode cX7_coast 179 = .ok (.invokevirtual 136, 3) := by decide +kernel
theorem dX7_coast_182 : decode cX7_coast 182 = .ok (.aload_n 0, 1) := by decide +kernel
theorem dX7_coast_183 : decode cX7_coast 183 = .ok (.iconst 0, 1) := by decide +kernel
theorem dX7_coast_184 : decode cX7_coast 184 = .ok (.putfield 91, 3) := by decide +kernel
theorem dX7_coast_187 : decode cX7_coast 187 = .ok (.aload_n 0, 1) := by decide +kernel
theorem dX7_coast_188 : decode cX7_coast 188 = .ok (.invokevirtual 113, 3) := by decide +kernel
theorem dX7_coast_191 : decode cX7_coast 191 = .ok (.ifCond .ne 11, 3) := by decide +kernel
theorem dX7_coast_194 : decode cX7_coast 194 = .ok (.ldc 143, 2) := by decide +kernel
theorem dX7_coast_196 : decode cX7_coast 196 = .ok (.aload_n 0, 1) := by decide +kernel
theorem dX7_coast_197 : decode cX7_coast 197 = .ok (.getfield 110, 3) := by decide +kernel
theorem dX7_coast_200 : decode cX7_coast 200 = .ok (.isub, 1) := by decide +kernel
theorem dX7_coast_201 : decode cX7_coast 201 = .ok (.ireturn, 1) := by decide +kernel
theorem dX7_coast_202 : decode cX7_coast 202 = .ok (.aload_n 0, 1) := by decide +kernel
theorem dX7_coast_203 : decode cX7_coast 203 = .ok (.getfield 28, 3) := by decide +kernel
theorem dX7_coast_206 : decode cX7_coast 206 = .ok (.iconst 5, 1) := by decide +kernel
theorem dX7_coast_207 : decode cX7_coast 207 = .ok (.iconst 1, 1) := by decide +kernel
theorem dX7_coast_208 : decode cX7_coast 208 = .ok (.iastore, 1) := by decide +kernel
theorem dX7_coast_209 : decode cX7_coast 209 = .ok (.aload_n 0, 1) := by decide +kernel
theorem dX7_coast_210 : decode cX7_coast 210 = .ok (.getfield 28, 3) := by decide +kernel
theorem dX7_coast_213 : decode cX7_coast 213 = .ok (.iconst 0, 1) := by decide +kernel
theorem dX7_coast_214 : decode cX7_coast 214 = .ok (.aload_n 0, 1) := by decide +kernel
theorem dX7_coast_215 : decode cX7_coast 215 = .ok (.getfield 25, 3) := by decide +kernel
theorem dX7_coast_218 : decode cX7_coast 218 = .ok (.iconst 0, 1) := by decide +kernel
theorem dX7_coast_219 : decode cX7_coast 219 = .ok (.invokestatic 144, 3) := by decide +kernel
theorem dX7_coast_222 : decode cX7_coast 222 = .ok (.aload_n 0, 1) := by decide +kernel
theorem dX7_coast_223 : decode cX7_coast 223 = .ok (.iconst 0, 1) := by decide +kernel
theorem dX7_coast_224 : decode cX7_coast 224 = .ok (.putfield 148, 3) := by decide +kernel
theorem dX7_coast_227 : decode cX7_coast 227 = .ok (.aload_n 0, 1) := by decide +kernel
theorem dX7_coast_228 : decode cX7_coast 228 = .ok (.getfield 25, 3) := by decide +kernel
theorem dX7_coast_231 : decode cX7_coast 231 = .ok (.iconst 2, 1) := by decide +kernel
theorem dX7_coast_232 : decode cX7_coast 232 = .ok (.iaload, 1) := by decide +kernel
theorem dX7_coast_233 : decode cX7_coast 233 = .ok (.ireturn, 1) := by decide +kernel
theorem dX7_fault_0 : decode cX7_fault 0 = .ok (.aload_n 0, 1) := by decide +kernel
theorem dX7_fault_1 : decode cX7_fault 1 = .ok (.getfield 117, 3) := by decide +kernel
theorem dX7_fault_4 : decode cX7_fault 4 = .ok (.ireturn, 1) := by decide +kernel
theorem dX7_isCoast_0 : decode cX7_isCoast 0 = .ok (.aload_n 0, 1) := by decide +kernel
theorem dX7_isCoast_1 : decode cX7_isCoast 1 = .ok (.getfield 25, 3) := by decide +kernel
theorem dX7_isCoast_4 : decode cX7_isCoast 4 = .ok (.iconst 2, 1) := by decide +kernel
theorem dX7_isCoast_5 : decode cX7_isCoast 5 = .ok (.iaload, 1) := by decide +kernel
theorem dX7_isCoast_6 : decode cX7_isCoast 6 = .ok (.ifCond .le 7, 3) := by decide +kernel
theorem dX7_isCoast_9 : decode cX7_isCoast 9 = .ok (.iconst 1, 1) := by decide +kernel
theorem dX7_isCoast_10 : decode cX7_isCoast 10 = .ok (.goto 4, 3) := by decide +kernel
theorem dX7_isCoast_13 : decode cX7_isCoast 13 = .ok (.iconst 0, 1) := by decide +kernel
theorem dX7_isCoast_14 : decode cX7_isCoast 14 = .ok (.ireturn, 1) := by decide +kernel
set_option maxRecDepth 20000 in
theorem ggX7_isSoul_X7_in : GoodIn wsX7_isSoul wsX7_in := goodIn_r _ [5] (by decide +kernel) (by decide +kernel)
set_option maxRecDepth 20000 in
theorem gX7_isSoul_X7_in : GoodIn wsX7_isSoul (va_wsS RX7 65 yX7_in wsX7_in) := goodIn_app (goodIn_of _ (by decide +kernel)) ggX7_isSoul_X7_in
theorem dX7_isSoul_0 : decode cX7_isSoul 0 = .ok (.iload_n 1, 1) := by decide +kernel
theorem dX7_isSoul_1 : decode cX7_isSoul 1 = .ok (.iconst 0, 1) := by decide +kernel
theorem dX7_isSoul_2 : decode cX7_isSoul 2 = .ok (.aload_n 0, 1) := by decide +kernel
theorem dX7_isSoul_3 : decode cX7_isSoul 3 = .ok (.getfield 25, 3) := by decide +kernel
theorem dX7_isSoul_6 : decode cX7_isSoul 6 = .ok (.iconst 2, 1) := by decide +kernel
theorem dX7_isSoul_7 : decode cX7_isSoul 7 = .ok (.iaload, 1) := by decide +kernel
theorem dX7_isSoul_8 : decode cX7_isSoul 8 = .ok (.iconst 1, 1) := by decide +kernel
theorem dX7_isSoul_9 : decode cX7_isSoul 9 = .ok (.isub, 1) := by decide +kernel
theorem dX7_isSoul_10 : decode cX7_isSoul 10 = .ok (.invokestatic 65, 3) := by decide +kernel
theorem dX7_isSoul_13 : decode cX7_isSoul 13 = .ok (.ireturn, 1) := by decide +kernel
set_option maxRecDepth 20000 in
theorem ggX7_worthOf_X7_lesser : GoodIn wsX7_worthOf wsX7_lesser := goodIn_r _ [4] (by decide +kernel) (by decide +kernel)
set_option maxRecDepth 20000 in
theorem gX7_worthOf_X7_lesser : GoodIn wsX7_worthOf (va_wsS RX7 151 yX7_lesser wsX7_lesser) := goodIn_app (goodIn_of _ (by decide +kernel)) ggX7_worthOf_X7_lesser
theorem dX7_worthOf_0 : decode cX7_worthOf 0 = .ok (.iload_n 0, 1) := by decide +kernel
theorem dX7_worthOf_1 : decode cX7_worthOf 1 = .ok (.tableswitch 56 1 4 #[31, 33, 37, 48], 31) := by decide +kernel
theorem dX7_worthOf_32 : decode cX7_worthOf 32 = .ok (.iload_n 1, 1) := by decide +kernel
theorem dX7_worthOf_33 : decode cX7_worthOf 33 = .ok (.ireturn, 1) := by decide +kernel
theorem dX7_worthOf_34 : decode cX7_worthOf 34 = .ok (.iload_n 1, 1) := by decide +kernel
theorem dX7_worthOf_35 : decode cX7_worthOf 35 = .ok (.iconst 2, 1) := by decide +kernel
theorem dX7_worthOf_36 : decode cX7_worthOf 36 = .ok (.idiv, 1) := by decide +kernel
theorem dX7_worthOf_37 : decode cX7_worthOf 37 = .ok (.ireturn, 1) := by decide +kernel
theorem dX7_worthOf_38 : decode cX7_worthOf 38 = .ok (.bipush 20, 2) := by decide +kernel
theorem dX7_worthOf_40 : decode cX7_worthOf 40 = .ok (.iload_n 1, 1) := by decide +kernel
theorem dX7_worthOf_41 : decode cX7_worthOf 41 = .ok (.iload_n 3, 1) := by decide +kernel
theorem dX7_worthOf_42 : decode cX7_worthOf 42 = .ok (.iconst 4, 1) := by decide +kernel
theorem dX7_worthOf_43 : decode cX7_worthOf 43 = .ok (.idiv, 1) := by decide +kernel
theorem dX7_worthOf_44 : decode cX7_worthOf 44 = .ok (.iadd, 1) := by decide +kernel
theorem dX7_worthOf_45 : decode cX7_worthOf 45 = .ok (.invokestatic 151, 3) := by decide +kernel
theorem dX7_worthOf_48 : decode cX7_worthOf 48 = .ok (.ireturn, 1) := by decide +kernel
theorem dX7_worthOf_49 : decode cX7_worthOf 49 = .ok (.iload_n 1, 1) := by decide +kernel
theorem dX7_worthOf_50 : decode cX7_worthOf 50 = .ok (.iconst 2, 1) := by decide +kernel
theorem dX7_worthOf_51 : decode cX7_worthOf 51 = .ok (.idiv, 1) := by decide +kernel
theorem dX7_worthOf_52 : decode cX7_worthOf 52 = .ok (.iload_n 2, 1) := by decide +kernel
theorem dX7_worthOf_53 : decode cX7_worthOf 53 = .ok (.iconst 4, 1) := by decide +kernel
theorem dX7_worthOf_54 : decode cX7_worthOf 54 = .ok (.idiv, 1) := by decide +kernel
theorem dX7_worthOf_55 : decode cX7_worthOf 55 = .ok (.iadd, 1) := by decide +kernel
theorem dX7_worthOf_56 : decode cX7_worthOf 56 = .ok (.ireturn, 1) := by decide +kernel
theorem dX7_worthOf_57 : decode cX7_worthOf 57 = .ok (.iload_n 1, 1) := by decide +kernel
theorem dX7_worthOf_58 : decode cX7_worthOf 58 = .ok (.iconst 2, 1) := by decide +kernel
theorem dX7_worthOf_59 : decode cX7_worthOf 59 = .ok (.idiv, 1) := by decide +kernel
theorem dX7_worthOf_60 : decode cX7_worthOf 60 = .ok (.iload_n 2, 1) := by decide +kernel
theorem dX7_worthOf_61 : decode cX7_worthOf 61 = .ok (.iconst 4, 1) := by decide +kernel
theorem dX7_worthOf_62 : decode cX7_worthOf 62 = .ok (.idiv, 1) := by decide +kernel
theorem dX7_worthOf_63 : decode cX7_worthOf 63 = .ok (.iadd, 1) := by decide +kernel
theorem dX7_worthOf_64 : decode cX7_worthOf 64 = .ok (.iconst 3, 1) := by decide +kernel
theorem dX7_worthOf_65 : decode cX7_worthOf 65 = .ok (.iadd, 1) := by decide +kernel
theorem dX7_worthOf_66 : decode cX7_worthOf 66 = .ok (.ireturn, 1) := by decide +kernel
set_option maxRecDepth 20000 in
theorem ggX7_forceBy_X7_lesser : GoodIn wsX7_forceBy wsX7_lesser := goodIn_r _ [4] (by decide +kernel) (by decide +kernel)
set_option maxRecDepth 20000 in
theorem gX7_forceBy_X7_lesser : GoodIn wsX7_forceBy (va_wsS RX7 151 yX7_lesser wsX7_lesser) := goodIn_app (goodIn_of _ (by decide +kernel)) ggX7_forceBy_X7_lesser
set_option maxRecDepth 20000 in
theorem ggX7_forceBy_X7_worthOf : GoodIn wsX7_forceBy wsX7_worthOf := goodIn_r _ [7, 1, 2, 3, 4] (by decide +kernel) (by decide +kernel)
set_option maxRecDepth 20000 in
theorem gX7_forceBy_X7_worthOf : GoodIn wsX7_forceBy (va_wsS RX7 154 yX7_worthOf wsX7_worthOf) := goodIn_app (goodIn_of _ (by decide +kernel)) ggX7_forceBy_X7_worthOf
theorem dX7_forceBy_0 : decode cX7_forceBy 0 = .ok (.iload_n 1, 1) := by decide +kernel
theorem dX7_forceBy_1 : decode cX7_forceBy 1 = .ok (.iload_n 2, 1) := by decide +kernel
theorem dX7_forceBy_2 : decode cX7_forceBy 2 = .ok (.iconst 4, 1) := by decide +kernel
theorem dX7_forceBy_3 : decode cX7_forceBy 3 = .ok (.idiv, 1) := by decide +kernel
theorem dX7_forceBy_4 : decode cX7_forceBy 4 = .ok (.if_icmp .ge 12, 3) := by decide +kernel
theorem dX7_forceBy_7 : decode cX7_forceBy 7 = .ok (.bipush 60, 2) := by decide +kernel
theorem dX7_forceBy_9 : decode cX7_forceBy 9 = .ok (.iload_n 2, 1) := by decide +kernel
theorem dX7_forceBy_10 : decode cX7_forceBy 10 = .ok (.iconst 2, 1) := by decide +kernel
theorem dX7_forceBy_11 : decode cX7_forceBy 11 = .ok (.iadd, 1) := by decide +kernel
theorem dX7_forceBy_12 : decode cX7_forceBy 12 = .ok (.invokestatic 151, 3) := by decide +kernel
theorem dX7_forceBy_15 : decode cX7_forceBy 15 = .ok (.ireturn, 1) := by decide +kernel
theorem dX7_forceBy_16 : decode cX7_forceBy 16 = .ok (.iload_n 2, 1) := by decide +kernel
theorem dX7_forceBy_17 : decode cX7_forceBy 17 = .ok (.iload_n 0, 1) := by decide +kernel
theorem dX7_forceBy_18 : decode cX7_forceBy 18 = .ok (.iload_n 1, 1) := by decide +kernel
theorem dX7_forceBy_19 : decode cX7_forceBy 19 = .ok (.iload_n 2, 1) := by decide +kernel
theorem dX7_forceBy_20 : decode cX7_forceBy 20 = .ok (.iload_n 3, 1) := by decide +kernel
theorem dX7_forceBy_21 : decode cX7_forceBy 21 = .ok (.invokestatic 154, 3) := by decide +kernel
theorem dX7_forceBy_24 : decode cX7_forceBy 24 = .ok (.isub, 1) := by decide +kernel
theorem dX7_forceBy_25 : decode cX7_forceBy 25 = .ok (.istore 4, 2) := by decide +kernel
theorem dX7_forceBy_27 : decode cX7_forceBy 27 = .ok (.iload 4, 2) := by decide +kernel
theorem dX7_forceBy_29 : decode cX7_forceBy 29 = .ok (.ifCond .ge 7, 3) := by decide +kernel
theorem dX7_forceBy_32 : decode cX7_forceBy 32 = .ok (.iconst 0, 1) := by decide +kernel
theorem dX7_forceBy_33 : decode cX7_forceBy 33 = .ok (.goto 5, 3) := by decide +kernel
theorem dX7_forceBy_36 : decode cX7_forceBy 36 = .ok (.iload 4, 2) := by decide +kernel
theorem dX7_forceBy_38 : decode cX7_forceBy 38 = .ok (.ireturn, 1) := by decide +kernel
set_option maxRecDepth 20000 in
theorem ggX7_forceOf_X7_forceBy : GoodIn wsX7_forceOf wsX7_forceBy := goodIn_r _ [4, 5, 6, 3, 7, 8, 9, 10] (by decide +kernel) (by decide +kernel)
set_option maxRecDepth 20000 in
theorem gX7_forceOf_X7_forceBy : GoodIn wsX7_forceOf (va_wsS RX7 158 yX7_forceBy wsX7_forceBy) := goodIn_app (goodIn_of _ (by decide +kernel)) ggX7_forceOf_X7_forceBy
theorem dX7_forceOf_0 : decode cX7_forceOf 0 = .ok (.aload_n 0, 1) := by decide +kernel
theorem dX7_forceOf_1 : decode cX7_forceOf 1 = .ok (.bipush 7, 2) := by decide +kernel
theorem dX7_forceOf_3 : decode cX7_forceOf 3 = .ok (.iconst 3, 1) := by decide +kernel
theorem dX7_forceOf_4 : decode cX7_forceOf 4 = .ok (.iload_n 1, 1) := by decide +kernel
theorem dX7_forceOf_5 : decode cX7_forceOf 5 = .ok (.imul, 1) := by decide +kernel
theorem dX7_forceOf_6 : decode cX7_forceOf 6 = .ok (.iadd, 1) := by decide +kernel
theorem dX7_forceOf_7 : decode cX7_forceOf 7 = .ok (.iaload, 1) := by decide +kernel
theorem dX7_forceOf_8 : decode cX7_forceOf 8 = .ok (.aload_n 0, 1) := by decide +kernel
theorem dX7_forceOf_9 : decode cX7_forceOf 9 = .ok (.bipush 7, 2) := by decide +kernel
theorem dX7_forceOf_11 : decode cX7_forceOf 11 = .ok (.iconst 3, 1) := by decide +kernel
theorem dX7_forceOf_12 : decode cX7_forceOf 12 = .ok (.iload_n 1, 1) := by decide +kernel
theorem dX7_forceOf_13 : decode cX7_forceOf 13 = .ok (.imul, 1) := by decide +kernel
theorem dX7_forceOf_14 : decode cX7_forceOf 14 = .ok (.iadd, 1) := by decide +kernel
theorem dX7_forceOf_15 : decode cX7_forceOf 15 = .ok (.iconst 1, 1) := by decide +kernel
theorem dX7_forceOf_16 : decode cX7_forceOf 16 = .ok (.iadd, 1) := by decide +kernel
theorem dX7_forceOf_17 : decode cX7_forceOf 17 = .ok (.iaload, 1) := by decide +kernel
theorem dX7_forceOf_18 : decode cX7_forceOf 18 = .ok (.iload_n 2, 1) := by decide +kernel
theorem dX7_forceOf_19 : decode cX7_forceOf 19 = .ok (.aload_n 0, 1) := by decide +kernel
theorem dX7_forceOf_20 : decode cX7_forceOf 20 = .ok (.iconst 3, 1) := by decide +kernel
theorem dX7_forceOf_21 : decode cX7_forceOf 21 = .ok (.iaload, 1) := by decide +kernel
theorem dX7_forceOf_22 : decode cX7_forceOf 22 = .ok (.invokestatic 158, 3) := by decide +kernel
theorem dX7_forceOf_25 : decode cX7_forceOf 25 = .ok (.ireturn, 1) := by decide +kernel
set_option maxRecDepth 20000 in
theorem ggX7_confesses_X7_forceOf : GoodIn wsX7_confesses wsX7_forceOf := goodIn_r _ [4, 5, 6, 3, 7, 8, 9, 10, 11, 12, 13] (by decide +kernel) (by decide +kernel)
set_option maxRecDepth 20000 in
theorem gX7_confesses_X7_forceOf : GoodIn wsX7_confesses (va_wsS RX7 161 yX7_forceOf wsX7_forceOf) := goodIn_app (goodIn_of _ (by decide +kernel)) ggX7_confesses_X7_forceOf
theorem dX7_confesses_0 : decode cX7_confesses 0 = .ok (.aload_n 0, 1) := by decide +kernel
theorem dX7_confesses_1 : decode cX7_confesses 1 = .ok (.iconst 0, 1) := by decide +kernel
theorem dX7_confesses_2 : decode cX7_confesses 2 = .ok (.aload_n 0, 1) := by decide +kernel
theorem dX7_confesses_3 : decode cX7_confesses 3 = .ok (.iload_n 1, 1) := by decide +kernel
theorem dX7_confesses_4 : decode cX7_confesses 4 = .ok (.aload_n 0, 1) := by decide +kernel
theorem dX7_confesses_5 : decode cX7_confesses 5 = .ok (.iconst 0, 1) := by decide +kernel
theorem dX7_confesses_6 : decode cX7_confesses 6 = .ok (.iaload, 1) := by decide +kernel
theorem dX7_confesses_7 : decode cX7_confesses 7 = .ok (.invokestatic 161, 3) := by decide +kernel
theorem dX7_confesses_10 : decode cX7_confesses 10 = .ok (.iastore, 1) := by decide +kernel
theorem dX7_confesses_11 : decode cX7_confesses 11 = .ok (.aload_n 0, 1) := by decide +kernel
theorem dX7_confesses_12 : decode cX7_confesses 12 = .ok (.bipush 7, 2) := by decide +kernel
theorem dX7_confesses_14 : decode cX7_confesses 14 = .ok (.iconst 3, 1) := by decide +kernel
theorem dX7_confesses_15 : decode cX7_confesses 15 = .ok (.iload_n 1, 1) := by decide +kernel
theorem dX7_confesses_16 : decode cX7_confesses 16 = .ok (.imul, 1) := by decide +kernel
theorem dX7_confesses_17 : decode cX7_confesses 17 = .ok (.iadd, 1) := by decide +kernel
theorem dX7_confesses_18 : decode cX7_confesses 18 = .ok (.iconst 1, 1) := by decide +kernel
theorem dX7_confesses_19 : decode cX7_confesses 19 = .ok (.iadd, 1) := by decide +kernel
theorem dX7_confesses_20 : decode cX7_confesses 20 = .ok (.dup2, 1) := by decide +kernel
theorem dX7_confesses_21 : decode cX7_confesses 21 = .ok (.iaload, 1) := by decide +kernel
theorem dX7_confesses_22 : decode cX7_confesses 22 = .ok (.iconst 2, 1) := by decide +kernel
theorem dX7_confesses_23 : decode cX7_confesses 23 = .ok (.idiv, 1) := by decide +kernel
theorem dX7_confesses_24 : decode cX7_confesses 24 = .ok (.iastore, 1) := by decide +kernel
theorem dX7_confesses_25 : decode cX7_confesses 25 = .ok (.return_, 1) := by decide +kernel
set_option maxRecDepth 20000 in
theorem ggX7_passes_X7_lesser : GoodIn wsX7_passes wsX7_lesser := goodIn_r _ [5] (by decide +kernel) (by decide +kernel)
set_option maxRecDepth 20000 in
theorem gX7_passes_X7_lesser : GoodIn wsX7_passes (va_wsS RX7 151 yX7_lesser wsX7_lesser) := goodIn_app (goodIn_of _ (by decide +kernel)) ggX7_passes_X7_lesser
set_option maxRecDepth 20000 in
theorem ggX7_passes_X7_in : GoodIn wsX7_passes wsX7_in := goodIn_r _ [8] (by decide +kernel) (by decide +kernel)
set_option maxRecDepth 20000 in
theorem gX7_passes_X7_in : GoodIn wsX7_passes (va_wsS RX7 65 yX7_in wsX7_in) := goodIn_app (goodIn_of _ (by decide +kernel)) ggX7_passes_X7_in
theorem dX7_passes_0 : decode cX7_passes 0 = .ok (.bipush 7, 2) := by decide +kernel
theorem dX7_passes_2 : decode cX7_passes 2 = .ok (.iconst 3, 1) := by decide +kernel
theorem dX7_passes_3 : decode cX7_passes 3 = .ok (.aload_n 0, 1) := by decide +kernel
theorem dX7_passes_4 : decode cX7_passes 4 = .ok (.iconst 4, 1) := by decide +kernel
theorem dX7_passes_5 : decode cX7_passes 5 = .ok (.iaload, 1) := by decide +kernel
theorem dX7_passes_6 : decode cX7_passes 6 = .ok (.imul, 1) := by decide +kernel
theorem dX7_passes_7 : decode cX7_passes 7 = .ok (.iadd, 1) := by decide +kernel
theorem dX7_passes_8 : decode cX7_passes 8 = .ok (.iconst 2, 1) := by decide +kernel
theorem dX7_passes_9 : decode cX7_passes 9 = .ok (.iadd, 1) := by decide +kernel
theorem dX7_passes_10 : decode cX7_passes 10 = .ok (.istore_n 1, 1) := by decide +kernel
theorem dX7_passes_11 : decode cX7_passes 11 = .ok (.aload_n 0, 1) := by decide +kernel
theorem dX7_passes_12 : decode cX7_passes 12 = .ok (.iconst 0, 1) := by decide +kernel
theorem dX7_passes_13 : decode cX7_passes 13 = .ok (.iaload, 1) := by decide +kernel
theorem dX7_passes_14 : decode cX7_passes 14 = .ok (.iconst 5, 1) := by decide +kernel
theorem dX7_passes_15 : decode cX7_passes 15 = .ok (.idiv, 1) := by decide +kernel
theorem dX7_passes_16 : decode cX7_passes 16 = .ok (.aload_n 0, 1) := by decide +kernel
theorem dX7_passes_17 : decode cX7_passes 17 = .ok (.iload_n 1, 1) := by decide +kernel
theorem dX7_passes_18 : decode cX7_passes 18 = .ok (.iaload, 1) := by decide +kernel
theorem dX7_passes_19 : decode cX7_passes 19 = .ok (.invokestatic 151, 3) := by decide +kernel
theorem dX7_passes_22 : decode cX7_passes 22 = .ok (.istore_n 2, 1) := by decide +kernel
theorem dX7_passes_23 : decode cX7_passes 23 = .ok (.aload_n 0, 1) := by decide +kernel
theorem dX7_passes_24 : decode cX7_passes 24 = .ok (.iload_n 1, 1) := by decide +kernel
theorem dX7_passes_25 : decode cX7_passes 25 = .ok (.dup2, 1) := by decide +kernel
theorem dX7_passes_26 : decode cX7_passes 26 = .ok (.iaload, 1) := by decide +kernel
theorem dX7_passes_27 : decode cX7_passes 27 = .ok (.iload_n 2, 1) := by decide +kernel
theorem dX7_passes_28 : decode cX7_passes 28 = .ok (.isub, 1) := by decide +kernel
theorem dX7_passes_29 : decode cX7_passes 29 = .ok (.iastore, 1) := by decide +kernel
theorem dX7_passes_30 : decode cX7_passes 30 = .ok (.aload_n 0, 1) := by decide +kernel
theorem dX7_passes_31 : decode cX7_passes 31 = .ok (.bipush 6, 2) := by decide +kernel
theorem dX7_passes_33 : decode cX7_passes 33 = .ok (.ldc 165, 2) := by decide +kernel
theorem dX7_passes_35 : decode cX7_passes 35 = .ok (.aload_n 0, 1) := by decide +kernel
theorem dX7_passes_36 : decode cX7_passes 36 = .ok (.bipush 6, 2) := by decide +kernel
theorem dX7_passes_38 : decode cX7_passes 38 = .ok (.iaload, 1) := by decide +kernel
theorem dX7_passes_39 : decode cX7_passes 39 = .ok (.iload_n 2, 1) := by decide +kernel
theorem dX7_passes_40 : decode cX7_passes 40 = .ok (.iadd, 1) := by decide +kernel
theorem dX7_passes_41 : decode cX7_passes 41 = .ok (.invokestatic 151, 3) := by decide +kernel
theorem dX7_passes_44 : decode cX7_passes 44 = .ok (.iastore, 1) := by decide +kernel
theorem dX7_passes_45 : decode cX7_passes 45 = .ok (.aload_n 0, 1) := by decide +kernel
theorem dX7_passes_46 : decode cX7_passes 46 = .ok (.iconst 5, 1) := by decide +kernel
theorem dX7_passes_47 : decode cX7_passes 47 = .ok (.iaload, 1) := by decide +kernel
theorem dX7_passes_48 : decode cX7_passes 48 = .ok (.iconst 1, 1) := by decide +kernel
theorem dX7_passes_49 : decode cX7_passes 49 = .ok (.if_icmp .ne 11, 3) := by decide +kernel
theorem dX7_passes_52 : decode cX7_passes 52 = .ok (.aload_n 0, 1) := by decide +kernel
theorem dX7_passes_53 : decode cX7_passes 53 = .ok (.iconst 4, 1) := by decide +kernel
theorem dX7_passes_54 : decode cX7_passes 54 = .ok (.iaload, 1) := by decide +kernel
theorem dX7_passes_55 : decode cX7_passes 55 = .ok (.iconst 1, 1) := by decide +kernel
theorem dX7_passes_56 : decode cX7_passes 56 = .ok (.iadd, 1) := by decide +kernel
theorem dX7_passes_57 : decode cX7_passes 57 = .ok (.goto 8, 3) := by decide +kernel
theorem dX7_passes_60 : decode cX7_passes 60 = .ok (.aload_n 0, 1) := by decide +kernel
theorem dX7_passes_61 : decode cX7_passes 61 = .ok (.iconst 4, 1) := by decide +kernel
theorem dX7_passes_62 : decode cX7_passes 62 = .ok (.iaload, 1) := by decide +kernel
theorem dX7_passes_63 : decode cX7_passes 63 = .ok (.iconst 1, 1) := by decide +kernel
theorem dX7_passes_64 : decode cX7_passes 64 = .ok (.isub, 1) := by decide +kernel
theorem dX7_passes_65 : decode cX7_passes 65 = .ok (.istore_n 3, 1) := by decide +kernel
theorem dX7_passes_66 : decode cX7_passes 66 = .ok (.iload_n 3, 1) := by decide +kernel
theorem dX7_passes_67 : decode cX7_passes 67 = .ok (.iconst 0, 1) := by decide +kernel
theorem dX7_passes_68 : decode cX7_passes 68 = .ok (.aload_n 0, 1) := by decide +kernel
theorem dX7_passes_69 : decode cX7_passes 69 = .ok (.iconst 2, 1) := by decide +kernel
theorem dX7_passes_70 : decode cX7_passes 70 = .ok (.iaload, 1) := by decide +kernel
theorem dX7_passes_71 : decode cX7_passes 71 = .ok (.iconst 1, 1) := by decide +kernel
theorem dX7_passes_72 : decode cX7_passes 72 = .ok (.isub, 1) := by decide +kernel
theorem dX7_passes_73 : decode cX7_passes 73 = .ok (.invokestatic 65, 3) := by decide +kernel
theorem dX7_passes_76 : decode cX7_passes 76 = .ok (.ifCond .eq 10, 3) := by decide +kernel
theorem dX7_passes_79 : decode cX7_passes 79 = .ok (.aload_n 0, 1) := by decide +kernel
theorem dX7_passes_80 : decode cX7_passes 80 = .ok (.iconst 4, 1) := by decide +kernel
theorem dX7_passes_81 : decode cX7_passes 81 = .ok (.iload_n 3, 1) := by decide +kernel
theorem dX7_passes_82 : decode cX7_passes 82 = .ok (.iastore, 1) := by decide +kernel
theorem dX7_passes_83 : decode cX7_passes 83 = .ok (.goto 11, 3) := by decide +kernel
theorem dX7_passes_86 : decode cX7_passes 86 = .ok (.aload_n 0, 1) := by decide +kernel
theorem dX7_passes_87 : decode cX7_passes 87 = .ok (.iconst 5, 1) := by decide +kernel
theorem dX7_passes_88 : decode cX7_passes 88 = .ok (.iconst 1, 1) := by decide +kernel
theorem dX7_passes_89 : decode cX7_passes 89 = .ok (.aload_n 0, 1) := by decide +kernel
theorem dX7_passes_90 : decode cX7_passes 90 = .ok (.iconst 5, 1) := by decide +kernel
theorem dX7_passes_91 : decode cX7_passes 91 = .ok (.iaload, 1) := by decide +kernel
theorem dX7_passes_92 : decode cX7_passes 92 = .ok (.isub, 1) := by decide +kernel
theorem dX7_passes_93 : decode cX7_passes 93 = .ok (.iastore, 1) := by decide +kernel
theorem dX7_passes_94 : decode cX7_passes 94 = .ok (.aload_n 0, 1) := by decide +kernel
theorem dX7_passes_95 : decode cX7_passes 95 = .ok (.iconst 0, 1) := by decide +kernel
theorem dX7_passes_96 : decode cX7_passes 96 = .ok (.aload_n 0, 1) := by decide +kernel
theorem dX7_passes_97 : decode cX7_passes 97 = .ok (.iconst 0, 1) := by decide +kernel
theorem dX7_passes_98 : decode cX7_passes 98 = .ok (.iaload, 1) := by decide +kernel
theorem dX7_passes_99 : decode cX7_passes 99 = .ok (.aload_n 0, 1) := by decide +kernel
theorem dX7_passes_100 : decode cX7_passes 100 = .ok (.iconst 1, 1) := by decide +kernel
theorem dX7_passes_101 : decode cX7_passes 101 = .ok (.iaload, 1) := by decide +kernel
theorem dX7_passes_102 : decode cX7_passes 102 = .ok (.if_icmp .le 13, 3) := by decide +kernel
theorem dX7_passes_105 : decode cX7_passes 105 = .ok (.aload_n 0, 1) := by decide +kernel
theorem dX7_passes_106 : decode cX7_passes 106 = .ok (.iconst 0, 1) := by decide +kernel
theorem dX7_passes_107 : decode cX7_passes 107 = .ok (.iaload, 1) := by decide +kernel
theorem dX7_passes_108 : decode cX7_passes 108 = .ok (.aload_n 0, 1) := by decide +kernel
theorem dX7_passes_109 : decode cX7_passes 109 = .ok (.iconst 1, 1) := by decide +kernel
theorem dX7_passes_110 : decode cX7_passes 110 = .ok (.iaload, 1) := by decide +kernel
theorem dX7_passes_111 : decode cX7_passes 111 = .ok (.isub, 1) := by decide +kernel
theorem dX7_passes_112 : decode cX7_passes 112 = .ok (.goto 4, 3) := by decide +kernel
theorem dX7_passes_115 : decode cX7_passes 115 = .ok (.iconst 0, 1) := by decide +kernel
theorem dX7_passes_116 : decode cX7_passes 116 = .ok (.iastore, 1) := by decide +kernel
theorem dX7_passes_117 : decode cX7_passes 117 = .ok (.aload_n 0, 1) := by decide +kernel
theorem dX7_passes_118 : decode cX7_passes 118 = .ok (.iconst 3, 1) := by decide +kernel
theorem dX7_passes_119 : decode cX7_passes 119 = .ok (.dup2, 1) := by decide +kernel
theorem dX7_passes_120 : decode cX7_passes 120 = .ok (.iaload, 1) := by decide +kernel
theorem dX7_passes_121 : decode cX7_passes 121 = .ok (.iconst 1, 1) := by decide +kernel
theorem dX7_passes_122 : decode cX7_passes 122 = .ok (.iadd, 1) := by decide +kernel
theorem dX7_passes_123 : decode cX7_passes 123 = .ok (.iastore, 1) := by decide +kernel
theorem dX7_passes_124 : decode cX7_passes 124 = .ok (.return_, 1) := by decide +kernel
theorem dX7_bares_0 : decode cX7_bares 0 = .ok (.iconst 0, 1) := by decide +kernel
theorem dX7_bares_1 : decode cX7_bares 1 = .ok (.istore_n 1, 1) := by decide +kernel
theorem dX7_bares_2 : decode cX7_bares 2 = .ok (.iconst 0, 1) := by decide +kernel
theorem dX7_bares_3 : decode cX7_bares 3 = .ok (.istore_n 2, 1) := by decide +kernel
theorem dX7_bares_4 : decode cX7_bares 4 = .ok (.iload_n 2, 1) := by decide +kernel
theorem dX7_bares_5 : decode cX7_bares 5 = .ok (.aload_n 0, 1) := by decide +kernel
theorem dX7_bares_6 : decode cX7_bares 6 = .ok (.iconst 2, 1) := by decide +kernel
theorem dX7_bares_7 : decode cX7_bares 7 = .ok (.iaload, 1) := by decide +kernel
theorem dX7_bares_8 : decode cX7_bares 8 = .ok (.if_icmp .ge 32, 3) := by decide +kernel
theorem dX7_bares_11 : decode cX7_bares 11 = .ok (.iload_n 1, 1) := by decide +kernel
theorem dX7_bares_12 : decode cX7_bares 12 = .ok (.aload_n 0, 1) := by decide +kernel
theorem dX7_bares_13 : decode cX7_bares 13 = .ok (.bipush 7, 2) := by decide +kernel
theorem dX7_bares_15 : decode cX7_bares 15 = .ok (.iconst 3, 1) := by decide +kernel
theorem dX7_bares_16 : decode cX7_bares 16 = .ok (.iload_n 2, 1) := by decide +kernel
theorem dX7_bares_17 : decode cX7_bares 17 = .ok (.imul, 1) := by decide +kernel
theorem dX7_bares_18 : decode cX7_bares 18 = .ok (.iadd, 1) := by decide +kernel
theorem dX7_bares_19 : decode cX7_bares 19 = .ok (.iconst 2, 1) := by decide +kernel
theorem dX7_bares_20 : decode cX7_bares 20 = .ok (.iadd, 1) := by decide +kernel
theorem dX7_bares_21 : decode cX7_bares 21 = .ok (.iaload, 1) := by decide +kernel
theorem dX7_bares_22 : decode cX7_bares 22 = .ok (.ifCond .ne 9, 3) := by decide +kernel
theorem dX7_bares_25 : decode cX7_bares 25 = .ok (.iconst 1, 1) := by decide +kernel
theorem dX7_bares_26 : decode cX7_bares 26 = .ok (.iload_n 2, 1) := by decide +kernel
theorem dX7_bares_27 : decode cX7_bares 27 = .ok (.ishl, 1) := by decide +kernel
theorem dX7_bares_28 : decode cX7_bares 28 = .ok (.goto 4, 3) := by decide +kernel
theorem dX7_bares_31 : decode cX7_bares 31 = .ok (.iconst 0, 1) := by decide +kernel
theorem dX7_bares_32 : decode cX7_bares 32 = .ok (.ior, 1) := by decide +kernel
theorem dX7_bares_33 : decode cX7_bares 33 = .ok (.istore_n 1, 1) := by decide +kernel
theorem dX7_bares_34 : decode cX7_bares 34 = .ok (.iinc 2 1, 3) := by decide +kernel
theorem dX7_bares_37 : decode cX7_bares 37 = .ok (.goto (-33), 3) := by decide +kernel
theorem dX7_bares_40 : decode cX7_bares 40 = .ok (.iload_n 1, 1) := by decide +kernel
theorem dX7_bares_41 : decode cX7_bares 41 = .ok (.ireturn, 1) := by decide +kernel
set_option maxRecDepth 20000 in
theorem ggX7_notes_X7_copies : GoodIn wsX7_notes wsX7_copies := goodIn_r _ [7] (by decide +kernel) (by decide +kernel)
set_option maxRecDepth 20000 in
theorem gX7_notes_X7_copies : GoodIn wsX7_notes (va_wsS RX7 144 yX7_copies wsX7_copies) := goodIn_app (goodIn_of _ (by decide +kernel)) ggX7_notes_X7_copies
theorem dX7_notes_0 : decode cX7_notes 0 = .ok (.aload_n 0, 1) := by decide +kernel
theorem dX7_notes_1 : decode cX7_notes 1 = .ok (.getfield 148, 3) := by decide +kernel
theorem dX7_notes_4 : decode cX7_notes 4 = .ok (.bipush 24, 2) := by decide +kernel
theorem dX7_notes_6 : decode cX7_notes 6 = .ok (.if_icmp .ne 43, 3) := by decide +kernel
theorem dX7_notes_9 : decode cX7_notes 9 = .ok (.iconst 0, 1) := by decide +kernel
theorem dX7_notes_10 : decode cX7_notes 10 = .ok (.istore_n 1, 1) := by decide +kernel
theorem dX7_notes_11 : decode cX7_notes 11 = .ok (.iload_n 1, 1) := by decide +kernel
theorem dX7_notes_12 : decode cX7_notes 12 = .ok (.sipush 644, 3) := by decide +kernel
theorem dX7_notes_15 : decode cX7_notes 15 = .ok (.if_icmp .ge 24, 3) := by decide +kernel
theorem dX7_notes_18 : decode cX7_notes 18 = .ok (.aload_n 0, 1) := by decide +kernel
theorem dX7_notes_19 : decode cX7_notes 19 = .ok (.getfield 34, 3) := by decide +kernel
theorem dX7_notes_22 : decode cX7_notes 22 = .ok (.iload_n 1, 1) := by decide +kernel
theorem dX7_notes_23 : decode cX7_notes 23 = .ok (.aload_n 0, 1) := by decide +kernel
theorem dX7_notes_24 : decode cX7_notes 24 = .ok (.getfield 34, 3) := by decide +kernel
theorem dX7_notes_27 : decode cX7_notes 27 = .ok (.iload_n 1, 1) := by decide +kernel
theorem dX7_notes_28 : decode cX7_notes 28 = .ok (.bipush 28, 2) := by decide +kernel
theorem dX7_notes_30 : decode cX7_notes 30 = .ok (.iadd, 1) := by decide +kernel
theorem dX7_notes_31 : decode cX7_notes 31 = .ok (.iaload, 1) := by decide +kernel
theorem dX7_notes_32 : decode cX7_notes 32 = .ok (.iastore, 1) := by decide +kernel
theorem dX7_notes_33 : decode cX7_notes 33 = .ok (.iinc 1 1, 3) := by decide +kernel
theorem dX7_notes_36 : decode cX7_notes 36 = .ok (.goto (-25), 3) := by decide +kernel
theorem dX7_notes_39 : decode cX7_notes 39 = .ok (.aload_n 0, 1) := by decide +kernel
theorem dX7_notes_40 : decode cX7_notes 40 = .ok (.dup, 1) := by decide +kernel
theorem dX7_notes_41 : decode cX7_notes 41 = .ok (.getfield 148, 3) := by decide +kernel
theorem dX7_notes_44 : decode cX7_notes 44 = .ok (.iconst 1, 1) := by decide +kernel
theorem dX7_notes_45 : decode cX7_notes 45 = .ok (.isub, 1) := by decide +kernel
theorem dX7_notes_46 : decode cX7_notes 46 = .ok (.putfield 148, 3) := by decide +kernel
theorem dX7_notes_49 : decode cX7_notes 49 = .ok (.aload_n 0, 1) := by decide +kernel
theorem dX7_notes_50 : decode cX7_notes 50 = .ok (.getfield 25, 3) := by decide +kernel
theorem dX7_notes_53 : decode cX7_notes 53 = .ok (.iconst 0, 1) := by decide +kernel
theorem dX7_notes_54 : decode cX7_notes 54 = .ok (.aload_n 0, 1) := by decide +kernel
theorem dX7_notes_55 : decode cX7_notes 55 = .ok (.getfield 34, 3) := by decide +kernel
theorem dX7_notes_58 : decode cX7_notes 58 = .ok (.bipush 28, 2) := by decide +kernel
theorem dX7_notes_60 : decode cX7_notes 60 = .ok (.aload_n 0, 1) := by decide +kernel
theorem dX7_notes_61 : decode cX7_notes 61 = .ok (.getfield 148, 3) := by decide +kernel
theorem dX7_notes_64 : decode cX7_notes 64 = .ok (.imul, 1) := by decide +kernel
theorem dX7_notes_65 : decode cX7_notes 65 = .ok (.invokestatic 144, 3) := by decide +kernel
theorem dX7_notes_68 : decode cX7_notes 68 = .ok (.aload_n 0, 1) := by decide +kernel
theorem dX7_notes_69 : decode cX7_notes 69 = .ok (.dup, 1) := by decide +kernel
theorem dX7_notes_70 : decode cX7_notes 70 = .ok (.getfield 148, 3) := by decide +kernel
theorem dX7_notes_73 : decode cX7_notes 73 = .ok (.iconst 1, 1) := by decide +kernel
theorem dX7_notes_74 : decode cX7_notes 74 = .ok (.iadd, 1) := by decide +kernel
theorem dX7_notes_75 : decode cX7_notes 75 = .ok (.putfield 148, 3) := by decide +kernel
theorem dX7_notes_78 : decode cX7_notes 78 = .ok (.return_, 1) := by decide +kernel
set_option maxRecDepth 20000 in
theorem ggX7_hours_X7_isCoast : GoodIn wsX7_hours wsX7_isCoast := goodIn_r _ [9, 3, 29, 30, 31, 32, 33, 34, 35, 36, 37, 38, 39, 40, 41, 42, 43, 44, 45, 46, 47, 48, 49, 50, 51, 52, 53, 54, 55, 56] (by decide +kernel) (by decide +kernel)
set_option maxRecDepth 20000 in
theorem gX7_hours_X7_isCoast : GoodIn wsX7_hours (wsV RX7 166 RX7 yX7_isCoast wsX7_isCoast) := goodIn_app (goodIn_of _ (by decide +kernel)) ggX7_hours_X7_isCoast
set_option maxRecDepth 20000 in
theorem ggX7_hours_X7_in : GoodIn wsX7_hours wsX7_in := goodIn_r _ [12] (by decide +kernel) (by decide +kernel)
set_option maxRecDepth 20000 in
theorem gX7_hours_X7_in : GoodIn wsX7_hours (va_wsS RX7 65 yX7_in wsX7_in) := goodIn_app (goodIn_of _ (by decide +kernel)) ggX7_hours_X7_in
set_option maxRecDepth 20000 in
theorem ggX7_hours_X7_notes : GoodIn wsX7_hours wsX7_notes := goodIn_r _ [16, 17, 18, 3, 19, 20, 8, 21, 29, 30, 31, 32, 33, 34, 35, 36, 37, 38, 39, 40, 41, 42, 43, 44, 45, 46, 47, 48, 49, 50, 51, 52, 53, 54, 55, 56] (by decide +kernel) (by decide +kernel)
set_option maxRecDepth 20000 in
theorem gX7_hours_X7_notes : GoodIn wsX7_hours (wsV RX7 170 RX7 yX7_notes wsX7_notes) := goodIn_app (goodIn_of _ (by decide +kernel)) ggX7_hours_X7_notes
set_option maxRecDepth 20000 in
theorem ggX7_hours_X7_passes : GoodIn wsX7_hours wsX7_passes := goodIn_r _ [24, 25, 26, 27, 8, 28, 10, 11, 12] (by decide +kernel) (by decide +kernel)
set_option maxRecDepth 20000 in
theorem gX7_hours_X7_passes : GoodIn wsX7_hours (va_wsS RX7 173 yX7_passes wsX7_passes) := goodIn_app (goodIn_of _ (by decide +kernel)) ggX7_hours_X7_passes
theorem dX7_hours_0 : decode cX7_hours 0 = .ok (.aload_n 0, 1) := by decide +kernel
theorem dX7_hours_1 : decode cX7_hours 1 = .ok (.invokevirtual 166, 3) := by decide +kernel
theorem dX7_hours_4 : decode cX7_hours 4 = .ok (.ifCond .ne 6, 3) := by decide +kernel
theorem dX7_hours_7 : decode cX7_hours 7 = .ok (.ldc 169, 2) := by decide +kernel
theorem dX7_hours_9 : decode cX7_hours 9 = .ok (.ireturn, 1) := by decide +kernel
theorem dX7_hours_10 : decode cX7_hours 10 = .ok (.iload_n 1, 1) := by decide +kernel
theorem dX7_hours_11 : decode cX7_hours 11 = .ok (.iconst 1, 1) := by decide +kernel
theorem dX7_hours_12 : decode cX7_hours 12 = .ok (.bipush 24, 2) := by decide +kernel
theorem dX7_hours_14 : decode cX7_hours 14 = .ok (.invokestatic 65, 3) := by decide +kernel
theorem dX7_hours_17 : decode cX7_hours 17 = .ok (.ifCond .ne 6, 3) := by decide +kernel
theorem dX7_hours_20 : decode cX7_hours 20 = .ok (.ldc 73, 2) := by decide +kernel
theorem dX7_hours_22 : decode cX7_hours 22 = .ok (.ireturn, 1) := by decide +kernel
theorem dX7_hours_23 : decode cX7_hours 23 = .ok (.aload_n 0, 1) := by decide +kernel
theorem dX7_hours_24 : decode cX7_hours 24 = .ok (.getfield 25, 3) := by decide +kernel
theorem dX7_hours_27 : decode cX7_hours 27 = .ok (.iconst 3, 1) := by decide +kernel
theorem dX7_hours_28 : decode cX7_hours 28 = .ok (.iaload, 1) := by decide +kernel
theorem dX7_hours_29 : decode cX7_hours 29 = .ok (.iload_n 1, 1) := by decide +kernel
theorem dX7_hours_30 : decode cX7_hours 30 = .ok (.iadd, 1) := by decide +kernel
theorem dX7_hours_31 : decode cX7_hours 31 = .ok (.sipush 9999, 3) := by decide +kernel
theorem dX7_hours_34 : decode cX7_hours 34 = .ok (.if_icmp .le 6, 3) := by decide +kernel
theorem dX7_hours_37 : decode cX7_hours 37 = .ok (.ldc 94, 2) := by decide +kernel
theorem dX7_hours_39 : decode cX7_hours 39 = .ok (.ireturn, 1) := by decide +kernel
theorem dX7_hours_40 : decode cX7_hours 40 = .ok (.iconst 0, 1) := by decide +kernel
theorem dX7_hours_41 : decode cX7_hours 41 = .ok (.istore_n 2, 1) := by decide +kernel
theorem dX7_hours_42 : decode cX7_hours 42 = .ok (.iload_n 2, 1) := by decide +kernel
theorem dX7_hours_43 : decode cX7_hours 43 = .ok (.iload_n 1, 1) := by decide +kernel
theorem dX7_hours_44 : decode cX7_hours 44 = .ok (.if_icmp .ge 20, 3) := by decide +kernel
theorem dX7_hours_47 : decode cX7_hours 47 = .ok (.aload_n 0, 1) := by decide +kernel
theorem dX7_hours_48 : decode cX7_hours 48 = .ok (.invokevirtual 170, 3) := by decide +kernel
theorem dX7_hours_51 : decode cX7_hours 51 = .ok (.aload_n 0, 1) := by decide +kernel
theorem dX7_hours_52 : decode cX7_hours 52 = .ok (.getfield 25, 3) := by decide +kernel
theorem dX7_hours_55 : decode cX7_hours 55 = .ok (.invokestatic 173, 3) := by decide +kernel

theorem dX5_readSoul_51 : decode cX5_readSoul 51 = .ok (.ldc 40, 2) := by decide +kernel
theorem dX5_readSoul_53 : decode cX5_readSoul 53 = .ok (.if_icmp .eq 12, 3) := by decide +kernel
theorem dX5_readSoul_56 : decode cX5_readSoul 56 = .ok (.aload_n 0, 1) := by decide +kernel
theorem dX5_readSoul_57 : decode cX5_readSoul 57 = .ok (.bipush 44, 2) := by decide +kernel
theorem dX5_readSoul_59 : decode cX5_readSoul 59 = .ok (.invokevirtual 33, 3) := by decide +kernel
theorem dX5_readSoul_62 : decode cX5_readSoul 62 = .ok (.ifCond .ne 5, 3) := by decide +kernel
theorem dX5_readSoul_65 : decode cX5_readSoul 65 = .ok (.iconst 0, 1) := by decide +kernel
theorem dX5_readSoul_66 : decode cX5_readSoul 66 = .ok (.ireturn, 1) := by decide +kernel
theorem dX5_readSoul_67 : decode cX5_readSoul 67 = .ok (.aload_n 0, 1) := by decide +kernel
theorem dX5_readSoul_68 : decode cX5_readSoul 68 = .ok (.bipush 30, 2) := by decide +kernel
theorem dX5_readSoul_70 : decode cX5_readSoul 70 = .ok (.invokevirtual 36, 3) := by decide +kernel
theorem dX5_readSoul_73 : decode cX5_readSoul 73 = .ok (.istore 4, 2) := by decide +kernel
theorem dX5_readSoul_75 : decode cX5_readSoul 75 = .ok (.iload 4, 2) := by decide +kernel
theorem dX5_readSoul_77 : decode cX5_readSoul 77 = .ok (.ldc 40, 2) := by decide +kernel
theorem dX5_readSoul_79 : decode cX5_readSoul 79 = .ok (.if_icmp .eq 12, 3) := by decide +kernel
theorem dX5_readSoul_82 : decode cX5_readSoul 82 = .ok (.aload_n 0, 1) := by decide +kernel
theorem dX5_readSoul_83 : decode cX5_readSoul 83 = .ok (.bipush 59, 2) := by decide +kernel
theorem dX5_readSoul_85 : decode cX5_readSoul 85 = .ok (.invokevirtual 33, 3) := by decide +kernel
theorem dX5_readSoul_88 : decode cX5_readSoul 88 = .ok (.ifCond .ne 5, 3) := by decide +kernel
theorem dX5_readSoul_91 : decode cX5_readSoul 91 = .ok (.iconst 0, 1) := by decide +kernel
theorem dX5_readSoul_92 : decode cX5_readSoul 92 = .ok (.ireturn, 1) := by decide +kernel
theorem dX5_readSoul_93 : decode cX5_readSoul 93 = .ok (.aload_n 1, 1) := by decide +kernel
theorem dX5_readSoul_94 : decode cX5_readSoul 94 = .ok (.iload_n 2, 1) := by decide +kernel
theorem dX5_readSoul_95 : decode cX5_readSoul 95 = .ok (.iload_n 3, 1) := by decide +kernel
theorem dX5_readSoul_96 : decode cX5_readSoul 96 = .ok (.iload 4, 2) := by decide +kernel
theorem dX5_readSoul_98 : decode cX5_readSoul 98 = .ok (.invokevirtual 57, 3) := by decide +kernel
theorem dX5_readSoul_101 : decode cX5_readSoul 101 = .ok (.iconst 1, 1) := by decide +kernel
theorem dX5_readSoul_102 : decode cX5_readSoul 102 = .ok (.ireturn, 1) := by decide +kernel
set_option maxRecDepth 20000 in
theorem ggX5_readSign_X5_here : GoodIn wsX5_readSign wsX5_here := goodIn_r _ [6, 1, 7, 8, 9, 15, 16, 17, 18] (by decide +kernel) (by decide +kernel)
set_option maxRecDepth 20000 in
theorem gX5_readSign_X5_here : GoodIn wsX5_readSign (wsV RX5 47 RX5 yX5_here wsX5_here) := goodIn_app (goodIn_of _ (by decide +kernel)) ggX5_readSign_X5_here
set_option maxRecDepth 20000 in
theorem ggX5_readSign_X5_wrong : GoodIn wsX5_readSign wsX5_wrong := goodIn_r _ [13, 14, 15, 16, 17, 18] (by decide +kernel) (by decide +kernel)
set_option maxRecDepth 20000 in
theorem gX5_readSign_X5_wrong : GoodIn wsX5_readSign (wsV RX5 29 RX5 yX5_wrong wsX5_wrong) := goodIn_app (goodIn_of _ (by decide +kernel)) ggX5_readSign_X5_wrong
theorem dX5_readSign_0 : decode cX5_readSign 0 = .ok (.aload_n 0, 1) := by decide +kernel
theorem dX5_readSign_1 : decode cX5_readSign 1 = .ok (.invokevirtual 47, 3) := by decide +kernel
theorem dX5_readSign_4 : decode cX5_readSign 4 = .ok (.iload_n 1, 1) := by decide +kernel
theorem dX5_readSign_5 : decode cX5_readSign 5 = .ok (.if_icmp .eq 9, 3) := by decide +kernel
theorem dX5_readSign_8 : decode cX5_readSign 8 = .ok (.aload_n 0, 1) := by decide +kernel
theorem dX5_readSign_9 : decode cX5_readSign 9 = .ok (.iconst 1, 1) := by decide +kernel
theorem dX5_readSign_10 : decode cX5_readSign 10 = .ok (.invokevirtual 29, 3) := by decide +kernel
theorem dX5_readSign_13 : decode cX5_readSign 13 = .ok (.ireturn, 1) := by decide +kernel
theorem dX5_readSign_14 : decode cX5_readSign 14 = .ok (.aload_n 0, 1) := by decide +kernel
theorem dX5_readSign_15 : decode cX5_readSign 15 = .ok (.dup, 1) := by decide +kernel
theorem dX5_readSign_16 : decode cX5_readSign 16 = .ok (.getfield 19, 3) := by decide +kernel
theorem dX5_readSign_19 : decode cX5_readSign 19 = .ok (.iconst 1, 1) := by decide +kernel
theorem dX5_readSign_20 : decode cX5_readSign 20 = .ok (.iadd, 1) := by decide +kernel
theorem dX5_readSign_21 : decode cX5_readSign 21 = .ok (.putfield 19, 3) := by decide +kernel
theorem dX5_readSign_24 : decode cX5_readSign 24 = .ok (.iconst 1, 1) := by decide +kernel
theorem dX5_readSign_25 : decode cX5_readSign 25 = .ok (.ireturn, 1) := by decide +kernel
set_option maxRecDepth 20000 in
theorem ggX5_readNumber_X5_isFigure : GoodIn wsX5_readNumber wsX5_isFigure := goodIn_r _ [8] (by decide +kernel) (by decide +kernel)
set_option maxRecDepth 20000 in
theorem gX5_readNumber_X5_isFigure : GoodIn wsX5_readNumber (va_wsS RX5 61 yX5_isFigure wsX5_isFigure) := goodIn_app (goodIn_of _ (by decide +kernel)) ggX5_readNumber_X5_isFigure
set_option maxRecDepth 20000 in
theorem ggX5_readNumber_X5_wrong : GoodIn wsX5_readNumber wsX5_wrong := goodIn_r _ [12, 13, 14, 15, 16, 17] (by decide +kernel) (by decide +kernel)
set_option maxRecDepth 20000 in
theorem gX5_readNumber_X5_wrong : GoodIn wsX5_readNumber (wsV RX5 29 RX5 yX5_wrong wsX5_wrong) := goodIn_app (goodIn_of _ (by decide +kernel)) ggX5_readNumber_X5_wrong
theorem dX5_readNumber_0 : decode cX5_readNumber 0 = .ok (.iconst 0, 1) := by decide +kernel
theorem dX5_readNumber_1 : decode cX5_readNumber 1 = .ok (.istore_n 2, 1) := by decide +kernel
theorem dX5_readNumber_2 : decode cX5_readNumber 2 = .ok (.iconst 0, 1) := by decide +kernel
theorem dX5_readNumber_3 : decode cX5_readNumber 3 = .ok (.istore_n 3, 1) := by decide +kernel
theorem dX5_readNumber_4 : decode cX5_readNumber 4 = .ok (.aload_n 0, 1) := by decide +kernel
theorem dX5_readNumber_5 : decode cX5_readNumber 5 = .ok (.getfield 19, 3) := by decide +kernel
theorem dX5_readNumber_8 : decode cX5_readNumber 8 = .ok (.iload_n 2, 1) := by decide +kernel
theorem dX5_readNumber_9 : decode cX5_readNumber 9 = .ok (.iadd, 1) := by decide +kernel
theorem dX5_readNumber_10 : decode cX5_readNumber 10 = .ok (.aload_n 0, 1) := by decide +kernel
theorem dX5_readNumber_11 : decode cX5_readNumber 11 = .ok (.getfield 15, 3) := by decide +kernel
theorem dX5_readNumber_14 : decode cX5_readNumber 14 = .ok (.if_icmp .ge 46, 3) := by decide +kernel
theorem dX5_readNumber_17 : decode cX5_readNumber 17 = .ok (.aload_n 0, 1) := by decide +kernel
theorem dX5_readNumber_18 : decode cX5_readNumber 18 = .ok (.getfield 9, 3) := by decide +kernel
theorem dX5_readNumber_21 : decode cX5_readNumber 21 = .ok (.aload_n 0, 1) := by decide +kernel
theorem dX5_readNumber_22 : decode cX5_readNumber 22 = .ok (.getfield 19, 3) := by decide +kernel
theorem dX5_readNumber_25 : decode cX5_readNumber 25 = .ok (.iload_n 2, 1) := by decide +kernel
theorem dX5_readNumber_26 : decode cX5_readNumber 26 = .ok (.iadd, 1) := by decide +kernel
theorem dX5_readNumber_27 : decode cX5_readNumber 27 = .ok (.iaload, 1) := by decide +kernel
theorem dX5_readNumber_28 : decode cX5_readNumber 28 = .ok (.invokestatic 61, 3) := by decide +kernel
theorem dX5_readNumber_31 : decode cX5_readNumber 31 = .ok (.ifCond .eq 29, 3) := by decide +kernel
theorem dX5_readNumber_34 : decode cX5_readNumber 34 = .ok (.iload_n 3, 1) := by decide +kernel
theorem dX5_readNumber_35 : decode cX5_readNumber 35 = .ok (.bipush 10, 2) := by decide +kernel
theorem dX5_readNumber_37 : decode cX5_readNumber 37 = .ok (.imul, 1) := by decide +kernel
theorem dX5_readNumber_38 : decode cX5_readNumber 38 = .ok (.aload_n 0, 1) := by decide +kernel
theorem dX5_readNumber_39 : decode cX5_readNumber 39 = .ok (.getfield 9, 3) := by decide +kernel
theorem dX5_readNumber_42 : decode cX5_readNumber 42 = .ok (.aload_n 0, 1) := by decide +kernel
theorem dX5_readNumber_43 : decode cX5_readNumber 43 = .ok (.getfield 19, 3) := by decide +kernel
theorem dX5_readNumber_46 : decode cX5_readNumber 46 = .ok (.iload_n 2, 1) := by decide +kernel
theorem dX5_readNumber_47 : decode cX5_readNumber 47 = .ok (.iadd, 1) := by decide +kernel
theorem dX5_readNumber_48 : decode cX5_readNumber 48 = .ok (.iaload, 1) := by decide +kernel
theorem dX5_readNumber_49 : decode cX5_readNumber 49 = .ok (.iadd, 1) := by decide +kernel
theorem dX5_readNumber_50 : decode cX5_readNumber 50 = .ok (.bipush 48, 2) := by decide +kernel
theorem dX5_readNumber_52 : decode cX5_readNumber 52 = .ok (.isub, 1) := by decide +kernel
theorem dX5_readNumber_53 : decode cX5_readNumber 53 = .ok (.istore_n 3, 1) := by decide +kernel
theorem dX5_readNumber_54 : decode cX5_readNumber 54 = .ok (.iinc 2 1, 3) := by decide +kernel
theorem dX5_readNumber_57 : decode cX5_readNumber 57 = .ok (.goto (-53), 3) := by decide +kernel
theorem dX5_readNumber_60 : decode cX5_readNumber 60 = .ok (.iload_n 2, 1) := by decide +kernel
theorem dX5_readNumber_61 : decode cX5_readNumber 61 = .ok (.iconst 1, 1) := by decide +kernel
theorem dX5_readNumber_62 : decode cX5_readNumber 62 = .ok (.if_icmp .lt 8, 3) := by decide +kernel
theorem dX5_readNumber_65 : decode cX5_readNumber 65 = .ok (.iload_n 2, 1) := by decide +kernel
theorem dX5_readNumber_66 : decode cX5_readNumber 66 = .ok (.iconst 2, 1) := by decide +kernel
theorem dX5_readNumber_67 : decode cX5_readNumber 67 = .ok (.if_icmp .le 12, 3) := by decide +kernel
theorem dX5_readNumber_70 : decode cX5_readNumber 70 = .ok (.aload_n 0, 1) := by decide +kernel
theorem dX5_readNumber_71 : decode cX5_readNumber 71 = .ok (.iconst 1, 1) := by decide +kernel
theorem dX5_readNumber_72 : decode cX5_readNumber 72 = .ok (.invokevirtual 29, 3) := by decide +kernel
theorem dX5_readNumber_75 : decode cX5_readNumber 75 = .ok (.pop, 1) := by decide +kernel
theorem dX5_readNumber_76 : decode cX5_readNumber 76 = .ok (.ldc 40, 2) := by decide +kernel
theorem dX5_readNumber_78 : decode cX5_readNumber 78 = .ok (.ireturn, 1) := by decide +kernel
theorem dX5_readNumber_79 : decode cX5_readNumber 79 = .ok (.iload_n 3, 1) := by decide +kernel
theorem dX5_readNumber_80 : decode cX5_readNumber 80 = .ok (.iload_n 1, 1) := by decide +kernel
theorem dX5_readNumber_81 : decode cX5_readNumber 81 = .ok (.if_icmp .le 12, 3) := by decide +kernel
theorem dX5_readNumber_84 : decode cX5_readNumber 84 = .ok (.aload_n 0, 1) := by decide +kernel
theorem dX5_readNumber_85 : decode cX5_readNumber 85 = .ok (.iconst 2, 1) := by decide +kernel
theorem dX5_readNumber_86 : decode cX5_readNumber 86 = .ok (.invokevirtual 29, 3) := by decide +kernel
theorem dX5_readNumber_89 : decode cX5_readNumber 89 = .ok (.pop, 1) := by decide +kernel
theorem dX5_readNumber_90 : decode cX5_readNumber 90 = .ok (.ldc 40, 2) := by decide +kernel
theorem dX5_readNumber_92 : decode cX5_readNumber 92 = .ok (.ireturn, 1) := by decide +kernel
theorem dX5_readNumber_93 : decode cX5_readNumber 93 = .ok (.aload_n 0, 1) := by decide +kernel
theorem dX5_readNumber_94 : decode cX5_readNumber 94 = .ok (.dup, 1) := by decide +kernel
theorem dX5_readNumber_95 : decode cX5_readNumber 95 = .ok (.getfield 19, 3) := by decide +kernel
theorem dX5_readNumber_98 : decode cX5_readNumber 98 = .ok (.iload_n 2, 1) := by decide +kernel
theorem dX5_readNumber_99 : decode cX5_readNumber 99 = .ok (.iadd, 1) := by decide +kernel
theorem dX5_readNumber_100 : decode cX5_readNumber 100 = .ok (.putfield 19, 3) := by decide +kernel
theorem dX5_readNumber_103 : decode cX5_readNumber 103 = .ok (.iload_n 3, 1) := by decide +kernel
theorem dX5_readNumber_104 : decode cX5_readNumber 104 = .ok (.ireturn, 1) := by decide +kernel
theorem dX5_here_0 : decode cX5_here 0 = .ok (.aload_n 0, 1) := by decide +kernel
theorem dX5_here_1 : decode cX5_here 1 = .ok (.getfield 19, 3) := by decide +kernel
theorem dX5_here_4 : decode cX5_here 4 = .ok (.aload_n 0, 1) := by decide +kernel
theorem dX5_here_5 : decode cX5_here 5 = .ok (.getfield 15, 3) := by decide +kernel
theorem dX5_here_8 : decode cX5_here 8 = .ok (.if_icmp .ge 15, 3) := by decide +kernel
theorem dX5_here_11 : decode cX5_here 11 = .ok (.aload_n 0, 1) := by decide +kernel
theorem dX5_here_12 : decode cX5_here 12 = .ok (.getfield 9, 3) := by decide +kernel
theorem dX5_here_15 : decode cX5_here 15 = .ok (.aload_n 0, 1) := by decide +kernel
theorem dX5_here_16 : decode cX5_here 16 = .ok (.getfield 19, 3) := by decide +kernel
theorem dX5_here_19 : decode cX5_here 19 = .ok (.iaload, 1) := by decide +kernel
theorem dX5_here_20 : decode cX5_here 20 = .ok (.goto 5, 3) := by decide +kernel
theorem dX5_here_23 : decode cX5_here 23 = .ok (.ldc 40, 2) := by decide +kernel
theorem dX5_here_25 : decode cX5_here 25 = .ok (.ireturn, 1) := by decide +kernel
theorem dX5_wrong_0 : decode cX5_wrong 0 = .ok (.aload_n 0, 1) := by decide +kernel
theorem dX5_wrong_1 : decode cX5_wrong 1 = .ok (.iload_n 1, 1) := by decide +kernel
theorem dX5_wrong_2 : decode cX5_wrong 2 = .ok (.putfield 64, 3) := by decide +kernel
theorem dX5_wrong_5 : decode cX5_wrong 5 = .ok (.iconst 0, 1) := by decide +kernel
theorem dX5_wrong_6 : decode cX5_wrong 6 = .ok (.ireturn, 1) := by decide +kernel
theorem dX5_isFigure_0 : decode cX5_isFigure 0 = .ok (.iload_n 0, 1) := by decide +kernel
theorem dX5_isFigure_1 : decode cX5_isFigure 1 = .ok (.bipush 48, 2) := by decide +kernel
theorem dX5_isFigure_3 : decode cX5_isFigure 3 = .ok (.if_icmp .lt 13, 3) := by decide +kernel
theorem dX5_isFigure_6 : decode cX5_isFigure 6 = .ok (.iload_n 0, 1) := by decide +kernel
theorem dX5_isFigure_7 : decode cX5_isFigure 7 = .ok (.bipush 57, 2) := by decide +kernel
theorem dX5_isFigure_9 : decode cX5_isFigure 9 = .ok (.if_icmp .gt 7, 3) := by decide +kernel
theorem dX5_isFigure_12 : decode cX5_isFigure 12 = .ok (.iconst 1, 1) := by decide +kernel
theorem dX5_isFigure_13 : decode cX5_isFigure 13 = .ok (.goto 4, 3) := by decide +kernel
theorem dX5_isFigure_16 : decode cX5_isFigure 16 = .ok (.iconst 0, 1) := by decide +kernel
theorem dX5_isFigure_17 : decode cX5_isFigure 17 = .ok (.ireturn, 1) := by decide +kernel
theorem dX5_kindOf_0 : decode cX5_kindOf 0 = .ok (.iload_n 0, 1) := by decide +kernel
theorem dX5_kindOf_1 : decode cX5_kindOf 1 = .ok (.tableswitch 73 108 119 #[65, 63, 73, 71, 67, 73, 73, 73, 73, 73, 73, 69], 63) := by decide +kernel
theorem dX5_kindOf_64 : decode cX5_kindOf 64 = .ok (.iconst 1, 1) := by decide +kernel
theorem dX5_kindOf_65 : decode cX5_kindOf 65 = .ok (.ireturn, 1) := by decide +kernel
theorem dX5_kindOf_66 : decode cX5_kindOf 66 = .ok (.iconst 2, 1) := by decide +kernel
theorem dX5_kindOf_67 : decode cX5_kindOf 67 = .ok (.ireturn, 1) := by decide +kernel
theorem dX5_kindOf_68 : decode cX5_kindOf 68 = .ok (.iconst 3, 1) := by decide +kernel
theorem dX5_kindOf_69 : decode cX5_kindOf 69 = .ok (.ireturn, 1) := by decide +kernel
theorem dX5_kindOf_70 : decode cX5_kindOf 70 = .ok (.iconst 4, 1) := by decide +kernel
theorem dX5_kindOf_71 : decode cX5_kindOf 71 = .ok (.ireturn, 1) := by decide +kernel
theorem dX5_kindOf_72 : decode cX5_kindOf 72 = .ok (.iconst 5, 1) := by decide +kernel
theorem dX5_kindOf_73 : decode cX5_kindOf 73 = .ok (.ireturn, 1) := by decide +kernel
theorem dX5_kindOf_74 : decode cX5_kindOf 74 = .ok (.iconst 0, 1) := by decide +kernel
theorem dX5_kindOf_75 : decode cX5_kindOf 75 = .ok (.ireturn, 1) := by decide +kernel
set_option maxRecDepth 20000 in
theorem ggX6_init_X4_init : GoodIn wsX6_init wsX4_init := goodIn_r _ [32, 33, 2, 3, 34, 35, 36, 37, 38, 39, 40, 68, 69, 70, 71] (by decide +kernel) (by decide +kernel)
set_option maxRecDepth 20000 in
theorem gX6_init_X4_init_n9 : GoodIn wsX6_init (wsX4_init) := ggX6_init_X4_init
set_option maxRecDepth 20000 in
theorem ggX6_init_X5_init : GoodIn wsX6_init wsX5_init := goodIn_r _ [42, 43, 2, 3, 36, 44, 82, 83, 84, 85] (by decide +kernel) (by decide +kernel)
set_option maxRecDepth 20000 in
theorem gX6_init_X5_init_n18 : GoodIn wsX6_init (wsX5_init) := ggX6_init_X5_init
set_option maxRecDepth 20000 in
theorem ggX6_init_X2_init : GoodIn wsX6_init wsX2_init := goodIn_r _ [46, 47, 2, 3, 36, 48, 49, 50, 86, 87, 88, 89, 90, 91, 92, 93, 94, 95] (by decide +kernel) (by decide +kernel)
set_option maxRecDepth 20000 in
theorem gX6_init_X2_init_n25 : GoodIn wsX6_init (wsX2_init) := ggX6_init_X2_init
set_option maxRecDepth 20000 in
theorem ggX6_init_X0_init : GoodIn wsX6_init wsX0_init := goodIn_r _ [53, 54, 2, 3, 55, 56, 13, 14, 45, 46, 47, 36, 48, 49, 50, 96, 97, 98, 86, 87, 88, 89, 90, 91, 92, 93, 94, 95] (by decide +kernel) (by decide +kernel)
set_option maxRecDepth 20000 in
theorem gX6_init_X0_init : GoodIn wsX6_init (wsX0_init) := ggX6_init_X0_init
set_option maxRecDepth 20000 in
theorem ggX6_init_X3_init : GoodIn wsX6_init wsX3_init := goodIn_r _ [58, 59, 2, 3, 36, 60, 61, 62, 63, 99, 100, 101, 102, 103] (by decide +kernel) (by decide +kernel)
set_option maxRecDepth 20000 in
theorem gX6_init_X3_init_n48 : GoodIn wsX6_init (wsX3_init) := ggX6_init_X3_init
set_option maxRecDepth 20000 in
theorem ggX6_init_X1_init : GoodIn wsX6_init wsX1_init := goodIn_r _ [65, 66, 2, 3, 36, 67, 104, 105] (by decide +kernel) (by decide +kernel)
set_option maxRecDepth 20000 in
theorem gX6_init_X1_init_n55 : GoodIn wsX6_init (wsX1_init) := ggX6_init_X1_init
theorem dX6_init_0 : decode cX6_init 0 = .ok (.aload_n 0, 1) := by decide +kernel
theorem dX6_init_1 : decode cX6_init 1 = .ok (.invokespecial 1, 3) := by decide +kernel
theorem dX6_init_4 : decode cX6_init 4 = .ok (.aload_n 0, 1) := by decide +kernel
theorem dX6_init_5 : decode cX6_init 5 = .ok (.new 7, 3) := by decide +kernel
theorem dX6_init_8 : decode cX6_init 8 = .ok (.dup, 1) := by decide +kernel
theorem dX6_init_9 : decode cX6_init 9 = .ok (.invokespecial 9, 3) := by decide +kernel
theorem dX6_init_12 : decode cX6_init 12 = .ok (.putfield 10, 3) := by decide +kernel
theorem dX6_init_15 : decode cX6_init 15 = .ok (.aload_n 0, 1) := by decide +kernel
theorem dX6_init_16 : decode cX6_init 16 = .ok (.new 16, 3) := by decide +kernel
theorem dX6_init_19 : decode cX6_init 19 = .ok (.dup, 1) := by decide +kernel
theorem dX6_init_20 : decode cX6_init 20 = .ok (.invokespecial 18, 3) := by decide +kernel
theorem dX6_init_23 : decode cX6_init 23 = .ok (.putfield 19, 3) := by decide +kernel
theorem dX6_init_26 : decode cX6_init 26 = .ok (.aload_n 0, 1) := by decide +kernel
theorem dX6_init_27 : decode cX6_init 27 = .ok (.new 23, 3) := by decide +kernel
theorem dX6_init_30 : decode cX6_init 30 = .ok (.dup, 1) := by decide +kernel
theorem dX6_init_31 : decode cX6_init 31 = .ok (.invokespecial 25, 3) := by decide +kernel
theorem dX6_init_34 : decode cX6_init 34 = .ok (.putfield 26, 3) := by decide +kernel
theorem dX6_init_37 : decode cX6_init 37 = .ok (.aload_n 0, 1) := by decide +kernel
theorem dX6_init_38 : decode cX6_init 38 = .ok (.new 23, 3) := by decide +kernel
theorem dX6_init_41 : decode cX6_init 41 = .ok (.dup, 1) := by decide +kernel
theorem dX6_init_42 : decode cX6_init 42 = .ok (.invokespecial 25, 3) := by decide +kernel
theorem dX6_init_45 : decode cX6_init 45 = .ok (.putfield 30, 3) := by decide +kernel
theorem dX6_init_48 : decode cX6_init 48 = .ok (.aload_n 0, 1) := by decide +kernel
theorem dX6_init_49 : decode cX6_init 49 = .ok (.new 23, 3) := by decide +kernel
theorem dX6_init_52 : decode cX6_init 52 = .ok (.dup, 1) := by decide +kernel
theorem dX6_init_53 : decode cX6_init 53 = .ok (.invokespecial 25, 3) := by decide +kernel
theorem dX6_init_56 : decode cX6_init 56 = .ok (.putfield 33, 3) := by decide +kernel
theorem dX6_init_59 : decode cX6_init 59 = .ok (.aload_n 0, 1) := by decide +kernel
theorem dX6_init_60 : decode cX6_init 60 = .ok (.new 23, 3) := by decide +kernel
theorem dX6_init_63 : decode cX6_init 63 = .ok (.dup, 1) := by decide +kernel
theorem dX6_init_64 : decode cX6_init 64 = .ok (.invokespecial 25, 3) := by decide +kernel
theorem dX6_init_67 : decode cX6_init 67 = .ok (.putfield 36, 3) := by decide +kernel
theorem dX6_init_70 : decode cX6_init 70 = .ok (.aload_n 0, 1) := by decide +kernel
theorem dX6_init_71 : decode cX6_init 71 = .ok (.new 39, 3) := by decide +kernel
theorem dX6_init_74 : decode cX6_init 74 = .ok (.dup, 1) := by decide +kernel
theorem dX6_init_75 : decode cX6_init 75 = .ok (.invokespecial 41, 3) := by decide +kernel
theorem dX6_init_78 : decode cX6_init 78 = .ok (.putfield 42, 3) := by decide +kernel
theorem dX6_init_81 : decode cX6_init 81 = .ok (.aload_n 0, 1) := by decide +kernel
theorem dX6_init_82 : decode cX6_init 82 = .ok (.new 46, 3) := by decide +kernel
theorem dX6_init_85 : decode cX6_init 85 = .ok (.dup, 1) := by decide +kernel
theorem dX6_init_86 : decode cX6_init 86 = .ok (.invokespecial 48, 3) := by decide +kernel
theorem dX6_init_89 : decode cX6_init 89 = .ok (.putfield 49, 3) := by decide +kernel
theorem dX6_init_92 : decode cX6_init 92 = .ok (.aload_n 0, 1) := by decide +kernel
theorem dX6_init_93 : decode cX6_init 93 = .ok (.new 53, 3) := by decide +kernel
theorem dX6_init_96 : decode cX6_init 96 = .ok (.dup, 1) := by decide +kernel
theorem dX6_init_97 : decode cX6_init 97 = .ok (.invokespecial 55, 3) := by decide +kernel
theorem dX6_init_100 : decode cX6_init 100 = .ok (.putfield 56, 3) := by decide +kernel
theorem dX6_init_103 : decode cX6_init 103 = .ok (.return_, 1) := by decide +kernel
set_option maxRecDepth 20000 in
theorem ggX6_row_X6_outside : GoodIn wsX6_row wsX6_outside := goodIn_r _ [6] (by decide +kernel) (by decide +kernel)
set_option maxRecDepth 20000 in
theorem gX6_row_X6_outside : GoodIn wsX6_row (va_wsS RX6 60 yX6_outside wsX6_outside) := goodIn_app (goodIn_of _ (by decide +kernel)) ggX6_row_X6_outside
set_option maxRecDepth 20000 in
theorem ggX6_row_X6_found : GoodIn wsX6_row wsX6_found := goodIn_r _ [10, 11, 12, 30, 31, 32, 33, 34, 35, 36, 37, 38, 39] (by decide +kernel) (by decide +kernel)
set_option maxRecDepth 20000 in
theorem gX6_row_X6_found : GoodIn wsX6_row (wsV RX6 65 RX6 yX6_found wsX6_found) := goodIn_app (goodIn_of _ (by decide +kernel)) ggX6_row_X6_found
set_option maxRecDepth 20000 in
theorem ggX6_row_X4_begin : GoodIn wsX6_row wsX4_begin := goodIn_r _ [17, 18, 19, 20, 21, 22, 23, 24, 25, 40, 41, 42, 43] (by decide +kernel) (by decide +kernel)
set_option maxRecDepth 20000 in
theorem gX6_row_X4_begin : GoodIn wsX6_row (wsV RX6 69 RX4 yX4_begin wsX4_begin) := goodIn_app (goodIn_of _ (by decide +kernel)) ggX6_row_X4_begin
set_option maxRecDepth 20000 in
theorem ggX6_row_X6_fine : GoodIn wsX6_row wsX6_fine := goodIn_r _ [29, 11, 30, 31, 32, 33, 34, 35, 36, 37, 38, 39] (by decide +kernel) (by decide +kernel)
set_option maxRecDepth 20000 in
theorem gX6_row_X6_fine : GoodIn wsX6_row (wsV RX6 73 RX6 yX6_fine wsX6_fine) := goodIn_app (goodIn_of _ (by decide +kernel)) ggX6_row_X6_fine
theorem dX6_row_0 : decode cX6_row 0 = .ok (.iload_n 1, 1) := by decide +kernel
theorem dX6_row_1 : decode cX6_row 1 = .ok (.iconst 0, 1) := by decide +kernel
theorem dX6_row_2 : decode cX6_row 2 = .ok (.bipush 7, 2) := by decide +kernel
theorem dX6_row_4 : decode cX6_row 4 = .ok (.invokestatic 60, 3) := by decide +kernel
theorem dX6_row_7 : decode cX6_row 7 = .ok (.ifCond .ne 18, 3) := by decide +kernel
theorem dX6_row_10 : decode cX6_row 10 = .ok (.iload_n 2, 1) := by decide +kernel
theorem dX6_row_11 : decode cX6_row 11 = .ok (.iconst 0, 1) := by decide +kernel
theorem dX6_row_12 : decode cX6_row 12 = .ok (.iconst 2, 1) := by decide +kernel
theorem dX6_row_13 : decode cX6_row 13 = .ok (.invokestatic 60, 3) := by decide +kernel
theorem dX6_row_16 : decode cX6_row 16 = .ok (.ifCond .ne 9, 3) := by decide +kernel
theorem dX6_row_19 : decode cX6_row 19 = .ok (.iload_n 3, 1) := by decide +kernel
theorem dX6_row_20 : decode cX6_row 20 = .ok (.bipush 40, 2) := by decide +kernel
theorem dX6_row_22 : decode cX6_row 22 = .ok (.if_icmp .le 6, 3) := by decide +kernel
theorem dX6_row_25 : decode cX6_row 25 = .ok (.ldc 64, 2) := by decide +kernel
theorem dX6_row_27 : decode cX6_row 27 = .ok (.ireturn, 1) := by decide +kernel
theorem dX6_row_28 : decode cX6_row 28 = .ok (.iload_n 3, 1) := by decide +kernel
theorem dX6_row_29 : decode cX6_row 29 = .ok (.ifCond .ge 9, 3) := by decide +kernel
theorem dX6_row_32 : decode cX6_row 32 = .ok (.aload_n 0, 1) := by decide +kernel
theorem dX6_row_33 : decode cX6_row 33 = .ok (.iconst 4, 1) := by decide +kernel
theorem dX6_row_34 : decode cX6_row 34 = .ok (.invokevirtual 65, 3) := by decide +kernel
theorem dX6_row_37 : decode cX6_row 37 = .ok (.ireturn, 1) := by decide +kernel
theorem dX6_row_38 : decode cX6_row 38 = .ok (.aload_n 0, 1) := by decide +kernel
theorem dX6_row_39 : decode cX6_row 39 = .ok (.getfield 10, 3) := by decide +kernel
theorem dX6_row_42 : decode cX6_row 42 = .ok (.iload_n 1, 1) := by decide +kernel
theorem dX6_row_43 : decode cX6_row 43 = .ok (.iload_n 2, 1) := by decide +kernel
theorem dX6_row_44 : decode cX6_row 44 = .ok (.iload_n 3, 1) := by decide +kernel
theorem dX6_row_45 : decode cX6_row 45 = .ok (.invokevirtual 69, 3) := by decide +kernel
theorem dX6_row_48 : decode cX6_row 48 = .ok (.aload_n 0, 1) := by decide +kernel
theorem dX6_row_49 : decode cX6_row 49 = .ok (.iload_n 3, 1) := by decide +kernel
theorem dX6_row_50 : decode cX6_row 50 = .ok (.invokevirtual 73, 3) := by decide +kernel
theorem dX6_row_53 : decode cX6_row 53 = .ok (.ireturn, 1) := by decide +kernel
set_option maxRecDepth 20000 in
theorem ggX6_set_X6_outside : GoodIn wsX6_set wsX6_outside := goodIn_r _ [8] (by decide +kernel) (by decide +kernel)
set_option maxRecDepth 20000 in
theorem gX6_set_X6_outside : GoodIn wsX6_set (va_wsS RX6 60 yX6_outside wsX6_outside) := goodIn_app (goodIn_of _ (by decide +kernel)) ggX6_set_X6_outside
set_option maxRecDepth 20000 in
theorem ggX6_set_X6_found : GoodIn wsX6_set wsX6_found := goodIn_r _ [12, 13, 14, 30, 31, 32, 33, 34, 35, 36, 37, 38, 39] (by decide +kernel) (by decide +kernel)
set_option maxRecDepth 20000 in
theorem gX6_set_X6_found : GoodIn wsX6_set (wsV RX6 65 RX6 yX6_found wsX6_found) := goodIn_app (goodIn_of _ (by decide +kernel)) ggX6_set_X6_found
set_option maxRecDepth 20000 in
theorem ggX6_set_X4_spans : GoodIn wsX6_set wsX4_spans := goodIn_r _ [19, 20, 40, 41, 42, 43] (by decide +kernel) (by decide +kernel)
set_option maxRecDepth 20000 in
theorem gX6_set_X4_spans : GoodIn wsX6_set (wsV RX6 80 RX4 yX4_spans wsX4_spans) := goodIn_app (goodIn_of _ (by decide +kernel)) ggX6_set_X4_spans
set_option maxRecDepth 20000 in
theorem ggX6_set_X4_cut : GoodIn wsX6_set wsX4_cut := goodIn_r _ [24, 25, 40, 41, 42, 43] (by decide +kernel) (by decide +kernel)
set_option maxRecDepth 20000 in
theorem gX6_set_X4_cut : GoodIn wsX6_set (wsV RX6 87 RX4 yX4_cut wsX4_cut) := goodIn_app (goodIn_of _ (by decide +kernel)) ggX6_set_X4_cut
set_option maxRecDepth 20000 in
theorem ggX6_set_X6_fine : GoodIn wsX6_set wsX6_fine := goodIn_r _ [29, 13, 30, 31, 32, 33, 34, 35, 36, 37, 38, 39] (by decide +kernel) (by decide +kernel)
set_option maxRecDepth 20000 in
theorem gX6_set_X6_fine : GoodIn wsX6_set (wsV RX6 73 RX6 yX6_fine wsX6_fine) := goodIn_app (goodIn_of _ (by decide +kernel)) ggX6_set_X6_fine
theorem dX6_set_0 : decode cX6_set 0 = .ok (.iload_n 1, 1) := by decide +kernel
theorem dX6_set_1 : decode cX6_set 1 = .ok (.iconst 0, 1) := by decide +kernel
theorem dX6_set_2 : decode cX6_set 2 = .ok (.bipush 7, 2) := by decide +kernel
theorem dX6_set_4 : decode cX6_set 4 = .ok (.invokestatic 60, 3) := by decide +kernel
theorem dX6_set_7 : decode cX6_set 7 = .ok (.ifCond .eq 6, 3) := by decide +kernel
theorem dX6_set_10 : decode cX6_set 10 = .ok (.ldc 64, 2) := by decide +kernel
theorem dX6_set_12 : decode cX6_set 12 = .ok (.ireturn, 1) := by decide +kernel
theorem dX6_set_13 : decode cX6_set 13 = .ok (.aload_n 0, 1) := by decide +kernel
theorem dX6_set_14 : decode cX6_set 14 = .ok (.getfield 10, 3) := by decide +kernel
theorem dX6_set_17 : decode cX6_set 17 = .ok (.getfield 76, 3) := by decide +kernel
theorem dX6_set_20 : decode cX6_set 20 = .ok (.iload_n 1, 1) := by decide +kernel
theorem dX6_set_21 : decode cX6_set 21 = .ok (.baload, 1) := by decide +kernel
theorem dX6_set_22 : decode cX6_set 22 = .ok (.ifCond .ne 9, 3) := by decide +kernel
theorem dX6_set_25 : decode cX6_set 25 = .ok (.aload_n 0, 1) := by decide +kernel
theorem dX6_set_26 : decode cX6_set 26 = .ok (.iconst 1, 1) := by decide +kernel
theorem dX6_set_27 : decode cX6_set 27 = .ok (.invokevirtual 65, 3) := by decide +kernel
theorem dX6_set_30 : decode cX6_set 30 = .ok (.ireturn, 1) := by decide +kernel
theorem dX6_set_31 : decode cX6_set 31 = .ok (.aload_n 0, 1) := by decide +kernel
theorem dX6_set_32 : decode cX6_set 32 = .ok (.getfield 10, 3) := by decide +kernel
theorem dX6_set_35 : decode cX6_set 35 = .ok (.iload_n 1, 1) := by decide +kernel
theorem dX6_set_36 : decode cX6_set 36 = .ok (.iload_n 2, 1) := by decide +kernel
theorem dX6_set_37 : decode cX6_set 37 = .ok (.iconst 1, 1) := by decide +kernel
theorem dX6_set_38 : decode cX6_set 38 = .ok (.invokevirtual 80, 3) := by decide +kernel
theorem dX6_set_41 : decode cX6_set 41 = .ok (.ifCond .ne 9, 3) := by decide +kernel
theorem dX6_set_44 : decode cX6_set 44 = .ok (.aload_n 0, 1) := by decide +kernel
theorem dX6_set_45 : decode cX6_set 45 = .ok (.iconst 2, 1) := by decide +kernel
theorem dX6_set_46 : decode cX6_set 46 = .ok (.invokevirtual 65, 3) := by decide +kernel
theorem dX6_set_49 : decode cX6_set 49 = .ok (.ireturn, 1) := by decide +kernel
theorem dX6_set_50 : decode cX6_set 50 = .ok (.aload_n 0, 1) := by decide +kernel
theorem dX6_set_51 : decode cX6_set 51 = .ok (.getfield 10, 3) := by decide +kernel
theorem dX6_set_54 : decode cX6_set 54 = .ok (.getfield 83, 3) := by decide +kernel
theorem dX6_set_57 : decode cX6_set 57 = .ok (.iload_n 1, 1) := by decide +kernel
theorem dX6_set_58 : decode cX6_set 58 = .ok (.aaload, 1) := by decide +kernel
theorem dX6_set_59 : decode cX6_set 59 = .ok (.iload_n 2, 1) := by decide +kernel
theorem dX6_set_60 : decode cX6_set 60 = .ok (.aload_n 0, 1) := by decide +kernel
theorem dX6_set_61 : decode cX6_set 61 = .ok (.getfield 10, 3) := by decide +kernel
theorem dX6_set_64 : decode cX6_set 64 = .ok (.iload_n 1, 1) := by decide +kernel
theorem dX6_set_65 : decode cX6_set 65 = .ok (.iload_n 3, 1) := by decide +kernel
theorem dX6_set_66 : decode cX6_set 66 = .ok (.invokevirtual 87, 3) := by decide +kernel
theorem dX6_set_69 : decode cX6_set 69 = .ok (.iastore, 1) := by decide +kernel
theorem dX6_set_70 : decode cX6_set 70 = .ok (.aload_n 0, 1) := by decide +kernel
theorem dX6_set_71 : decode cX6_set 71 = .ok (.aload_n 0, 1) := by decide +kernel
theorem dX6_set_72 : decode cX6_set 72 = .ok (.getfield 10, 3) := by decide +kernel
theorem dX6_set_75 : decode cX6_set 75 = .ok (.getfield 83, 3) := by decide +kernel
theorem dX6_set_78 : decode cX6_set 78 = .ok (.iload_n 1, 1) := by decide +kernel
theorem dX6_set_79 : decode cX6_set 79 = .ok (.aaload, 1) := by decide +kernel
theorem dX6_set_80 : decode cX6_set 80 = .ok (.iload_n 2, 1) := by decide +kernel
theorem dX6_set_81 : decode cX6_set 81 = .ok (.iaload, 1) := by decide +kernel
theorem dX6_set_82 : decode cX6_set 82 = .ok (.invokevirtual 73, 3) := by decide +kernel
theorem dX6_set_85 : decode cX6_set 85 = .ok (.ireturn, 1) := by decide +kernel
set_option maxRecDepth 20000 in
theorem ggX6_copy_X6_outside : GoodIn wsX6_copy wsX6_outside := goodIn_r _ [13] (by decide +kernel) (by decide +kernel)
set_option maxRecDepth 20000 in
theorem gX6_copy_X6_outside : GoodIn wsX6_copy (va_wsS RX6 60 yX6_outside wsX6_outside) := goodIn_app (goodIn_of _ (by decide +kernel)) ggX6_copy_X6_outside
set_option maxRecDepth 20000 in
theorem ggX6_copy_X6_found : GoodIn wsX6_copy wsX6_found := goodIn_r _ [17, 18, 19, 30, 31, 32, 33, 34, 35, 36, 37, 38, 39] (by decide +kernel) (by decide +kernel)
set_option maxRecDepth 20000 in
theorem gX6_copy_X6_found : GoodIn wsX6_copy (wsV RX6 65 RX6 yX6_found wsX6_found) := goodIn_app (goodIn_of _ (by decide +kernel)) ggX6_copy_X6_found
set_option maxRecDepth 20000 in
theorem ggX6_copy_X4_spans : GoodIn wsX6_copy wsX4_spans := goodIn_r _ [24, 25, 40, 41, 42, 43] (by decide +kernel) (by decide +kernel)
set_option maxRecDepth 20000 in
theorem gX6_copy_X4_spans : GoodIn wsX6_copy (wsV RX6 80 RX4 yX4_spans wsX4_spans) := goodIn_app (goodIn_of _ (by decide +kernel)) ggX6_copy_X4_spans
set_option maxRecDepth 20000 in
theorem ggX6_copy_X6_fine : GoodIn wsX6_copy wsX6_fine := goodIn_r _ [29, 18, 30, 31, 32, 33, 34, 35, 36, 37, 38, 39] (by decide +kernel) (by decide +kernel)
set_option maxRecDepth 20000 in
theorem gX6_copy_X6_fine : GoodIn wsX6_copy (wsV RX6 73 RX6 yX6_fine wsX6_fine) := goodIn_app (goodIn_of _ (by decide +kernel)) ggX6_copy_X6_fine
theorem dX6_copy_0 : decode cX6_copy 0 = .ok (.iload_n 1, 1) := by decide +kernel
theorem dX6_copy_1 : decode cX6_copy 1 = .ok (.iconst 0, 1) := by decide +kernel
theorem dX6_copy_2 : decode cX6_copy 2 = .ok (.bipush 7, 2) := by decide +kernel
theorem dX6_copy_4 : decode cX6_copy 4 = .ok (.invokestatic 60, 3) := by decide +kernel
theorem dX6_copy_7 : decode cX6_copy 7 = .ok (.ifCond .ne 13, 3) := by decide +kernel
theorem dX6_copy_10 : decode cX6_copy 10 = .ok (.iload_n 3, 1) := by decide +kernel
theorem dX6_copy_11 : decode cX6_copy 11 = .ok (.iconst 0, 1) := by decide +kernel
theorem dX6_copy_12 : decode cX6_copy 12 = .ok (.bipush 7, 2) := by decide +kernel
theorem dX6_copy_14 : decode cX6_copy 14 = .ok (.invokestatic 60, 3) := by decide +kernel
theorem dX6_copy_17 : decode cX6_copy 17 = .ok (.ifCond .eq 6, 3) := by decide +kernel
theorem dX6_copy_20 : decode cX6_copy 20 = .ok (.ldc 64, 2) := by decide +kernel
theorem dX6_copy_22 : decode cX6_copy 22 = .ok (.ireturn, 1) := by decide +kernel
theorem dX6_copy_23 : decode cX6_copy 23 = .ok (.aload_n 0, 1) := by decide +kernel
theorem dX6_copy_24 : decode cX6_copy 24 = .ok (.getfield 10, 3) := by decide +kernel
theorem dX6_copy_27 : decode cX6_copy 27 = .ok (.getfield 76, 3) := by decide +kernel
theorem dX6_copy_30 : decode cX6_copy 30 = .ok (.iload_n 1, 1) := by decide +kernel
theorem dX6_copy_31 : decode cX6_copy 31 = .ok (.baload, 1) := by decide +kernel
theorem dX6_copy_32 : decode cX6_copy 32 = .ok (.ifCond .eq 15, 3) := by decide +kernel
theorem dX6_copy_35 : decode cX6_copy 35 = .ok (.aload_n 0, 1) := by decide +kernel
theorem dX6_copy_36 : decode cX6_copy 36 = .ok (.getfield 10, 3) := by decide +kernel
theorem dX6_copy_39 : decode cX6_copy 39 = .ok (.getfield 76, 3) := by decide +kernel
theorem dX6_copy_42 : decode cX6_copy 42 = .ok (.iload_n 3, 1) := by decide +kernel
theorem dX6_copy_43 : decode cX6_copy 43 = .ok (.baload, 1) := by decide +kernel
theorem dX6_copy_44 : decode cX6_copy 44 = .ok (.ifCond .ne 9, 3) := by decide +kernel
theorem dX6_copy_47 : decode cX6_copy 47 = .ok (.aload_n 0, 1) := by decide +kernel
theorem dX6_copy_48 : decode cX6_copy 48 = .ok (.iconst 1, 1) := by decide +kernel
theorem dX6_copy_49 : decode cX6_copy 49 = .ok (.invokevirtual 65, 3) := by decide +kernel
theorem dX6_copy_52 : decode cX6_copy 52 = .ok (.ireturn, 1) := by decide +kernel
theorem dX6_copy_53 : decode cX6_copy 53 = .ok (.aload_n 0, 1) := by decide +kernel
theorem dX6_copy_54 : decode cX6_copy 54 = .ok (.getfield 10, 3) := by decide +kernel
theorem dX6_copy_57 : decode cX6_copy 57 = .ok (.getfield 91, 3) := by decide +kernel
theorem dX6_copy_60 : decode cX6_copy 60 = .ok (.iload_n 1, 1) := by decide +kernel
theorem dX6_copy_61 : decode cX6_copy 61 = .ok (.iaload, 1) := by decide +kernel
theorem dX6_copy_62 : decode cX6_copy 62 = .ok (.aload_n 0, 1) := by decide +kernel
theorem dX6_copy_63 : decode cX6_copy 63 = .ok (.getfield 10, 3) := by decide +kernel
theorem dX6_copy_66 : decode cX6_copy 66 = .ok (.getfield 91, 3) := by decide +kernel
theorem dX6_copy_69 : decode cX6_copy 69 = .ok (.iload_n 3, 1) := by decide +kernel
theorem dX6_copy_70 : decode cX6_copy 70 = .ok (.iaload, 1) := by decide +kernel
theorem dX6_copy_71 : decode cX6_copy 71 = .ok (.if_icmp .eq 9, 3) := by decide +kernel
theorem dX6_copy_74 : decode cX6_copy 74 = .ok (.aload_n 0, 1) := by decide +kernel
theorem dX6_copy_75 : decode cX6_copy 75 = .ok (.iconst 5, 1) := by decide +kernel
theorem dX6_copy_76 : decode cX6_copy 76 = .ok (.invokevirtual 65, 3) := by decide +kernel
theorem dX6_copy_79 : decode cX6_copy 79 = .ok (.ireturn, 1) := by decide +kernel
theorem dX6_copy_80 : decode cX6_copy 80 = .ok (.aload_n 0, 1) := by decide +kernel
theorem dX6_copy_81 : decode cX6_copy 81 = .ok (.getfield 10, 3) := by decide +kernel
theorem dX6_copy_84 : decode cX6_copy 84 = .ok (.iload_n 1, 1) := by decide +kernel
theorem dX6_copy_85 : decode cX6_copy 85 = .ok (.iload_n 2, 1) := by decide +kernel
theorem dX6_copy_86 : decode cX6_copy 86 = .ok (.iload 5, 2) := by decide +kernel
theorem dX6_copy_88 : decode cX6_copy 88 = .ok (.invokevirtual 80, 3) := by decide +kernel
theorem dX6_copy_91 : decode cX6_copy 91 = .ok (.ifCond .eq 18, 3) := by decide +kernel
theorem dX6_copy_94 : decode cX6_copy 94 = .ok (.aload_n 0, 1) := by decide +kernel
theorem dX6_copy_95 : decode cX6_copy 95 = .ok (.getfield 10, 3) := by decide +kernel
theorem dX6_copy_98 : decode cX6_copy 98 = .ok (.iload_n 3, 1) := by decide +kernel
theorem dX6_copy_99 : decode cX6_copy 99 = .ok (.iload 4, 2) := by decide +kernel
theorem dX6_copy_101 : decode cX6_copy 101 = .ok (.iload 5, 2) := by decide +kernel
theorem dX6_copy_103 : decode cX6_copy 103 = .ok (.invokevirtual 80, 3) := by decide +kernel
theorem dX6_copy_106 : decode cX6_copy 106 = .ok (.ifCond .ne 9, 3) := by decide +kernel
theorem dX6_copy_109 : decode cX6_copy 109 = .ok (.aload_n 0, 1) := by decide +kernel
theorem dX6_copy_110 : decode cX6_copy 110 = .ok (.iconst 2, 1) := by decide +kernel
theorem dX6_copy_111 : decode cX6_copy 111 = .ok (.invokevirtual 65, 3) := by decide +kernel
theorem dX6_copy_114 : decode cX6_copy 114 = .ok (.ireturn, 1) := by decide +kernel
theorem dX6_copy_115 : decode cX6_copy 115 = .ok (.aload_n 0, 1) := by decide +kernel
theorem dX6_copy_116 : decode cX6_copy 116 = .ok (.getfield 10, 3) := by decide +kernel
theorem dX6_copy_119 : decode cX6_copy 119 = .ok (.getfield 83, 3) := by decide +kernel
theorem dX6_copy_122 : decode cX6_copy 122 = .ok (.iload_n 1, 1) := by decide +kernel
theorem dX6_copy_123 : decode cX6_copy 123 = .ok (.aaload, 1) := by decide +kernel
theorem dX6_copy_124 : decode cX6_copy 124 = .ok (.iload_n 2, 1) := by decide +kernel
theorem dX6_copy_125 : decode cX6_copy 125 = .ok (.aload_n 0, 1) := by decide +kernel
theorem dX6_copy_126 : decode cX6_copy 126 = .ok (.getfield 10, 3) := by decide +kernel
theorem dX6_copy_129 : decode cX6_copy 129 = .ok (.getfield 83, 3) := by decide +kernel
theorem dX6_copy_132 : decode cX6_copy 132 = .ok (.iload_n 3, 1) := by decide +kernel
theorem dX6_copy_133 : decode cX6_copy 133 = .ok (.aaload, 1) := by decide +kernel
theorem dX6_copy_134 : decode cX6_copy 134 = .ok (.iload 4, 2) := by decide +kernel
theorem dX6_copy_136 : decode cX6_copy 136 = .ok (.iload 5, 2) := by decide +kernel
theorem dX6_copy_138 : decode cX6_copy 138 = .ok (.invokestatic 95, 3) := by decide +kernel
theorem dX6_copy_141 : decode cX6_copy 141 = .ok (.aload_n 0, 1) := by decide +kernel
theorem dX6_copy_142 : decode cX6_copy 142 = .ok (.iload 5, 2) := by decide +kernel
theorem dX6_copy_144 : decode cX6_copy 144 = .ok (.invokevirtual 73, 3) := by decide +kernel
theorem dX6_copy_147 : decode cX6_copy 147 = .ok (.ireturn, 1) := by decide +kernel
set_option maxRecDepth 20000 in
theorem ggX6_drop_X6_outside : GoodIn wsX6_drop wsX6_outside := goodIn_r _ [8] (by decide +kernel) (by decide +kernel)
set_option maxRecDepth 20000 in
theorem gX6_drop_X6_outside : GoodIn wsX6_drop (va_wsS RX6 60 yX6_outside wsX6_outside) := goodIn_app (goodIn_of _ (by decide +kernel)) ggX6_drop_X6_outside
set_option maxRecDepth 20000 in
theorem ggX6_drop_X6_found : GoodIn wsX6_drop wsX6_found := goodIn_r _ [12, 13, 14, 19, 20, 21, 22, 23, 24, 25, 26, 27, 28] (by decide +kernel) (by decide +kernel)
set_option maxRecDepth 20000 in
theorem gX6_drop_X6_found : GoodIn wsX6_drop (wsV RX6 65 RX6 yX6_found wsX6_found) := goodIn_app (goodIn_of _ (by decide +kernel)) ggX6_drop_X6_found
set_option maxRecDepth 20000 in
theorem ggX6_drop_X6_fine : GoodIn wsX6_drop wsX6_fine := goodIn_r _ [18, 13, 19, 20, 21, 22, 23, 24, 25, 26, 27, 28] (by decide +kernel) (by decide +kernel)
set_option maxRecDepth 20000 in
theorem gX6_drop_X6_fine : GoodIn wsX6_drop (wsV RX6 73 RX6 yX6_fine wsX6_fine) := goodIn_app (goodIn_of _ (by decide +kernel)) ggX6_drop_X6_fine
theorem dX6_drop_0 : decode cX6_drop 0 = .ok (.iload_n 1, 1) := by decide +kernel
theorem dX6_drop_1 : decode cX6_drop 1 = .ok (.iconst 0, 1) := by decide +kernel
theorem dX6_drop_2 : decode cX6_drop 2 = .ok (.bipush 7, 2) := by decide +kernel
theorem dX6_drop_4 : decode cX6_drop 4 = .ok (.invokestatic 60, 3) := by decide +kernel
theorem dX6_drop_7 : decode cX6_drop 7 = .ok (.ifCond .eq 6, 3) := by decide +kernel
theorem dX6_drop_10 : decode cX6_drop 10 = .ok (.ldc 64, 2) := by decide +kernel
theorem dX6_drop_12 : decode cX6_drop 12 = .ok (.ireturn, 1) := by decide +kernel
theorem dX6_drop_13 : decode cX6_drop 13 = .ok (.aload_n 0, 1) := by decide +kernel
theorem dX6_drop_14 : decode cX6_drop 14 = .ok (.getfield 10, 3) := by decide +kernel
theorem dX6_drop_17 : decode cX6_drop 17 = .ok (.getfield 76, 3) := by decide +kernel
theorem dX6_drop_20 : decode cX6_drop 20 = .ok (.iload_n 1, 1) := by decide +kernel
theorem dX6_drop_21 : decode cX6_drop 21 = .ok (.baload, 1) := by decide +kernel
theorem dX6_drop_22 : decode cX6_drop 22 = .ok (.ifCond .ne 9, 3) := by decide +kernel
theorem dX6_drop_25 : decode cX6_drop 25 = .ok (.aload_n 0, 1) := by decide +kernel
theorem dX6_drop_26 : decode cX6_drop 26 = .ok (.iconst 1, 1) := by decide +kernel
theorem dX6_drop_27 : decode cX6_drop 27 = .ok (.invokevirtual 65, 3) := by decide +kernel
theorem dX6_drop_30 : decode cX6_drop 30 = .ok (.ireturn, 1) := by decide +kernel
theorem dX6_drop_31 : decode cX6_drop 31 = .ok (.aload_n 0, 1) := by decide +kernel
theorem dX6_drop_32 : decode cX6_drop 32 = .ok (.getfield 10, 3) := by decide +kernel
theorem dX6_drop_35 : decode cX6_drop 35 = .ok (.getfield 76, 3) := by decide +kernel
theorem dX6_drop_38 : decode cX6_drop 38 = .ok (.iload_n 1, 1) := by decide +kernel
theorem dX6_drop_39 : decode cX6_drop 39 = .ok (.iconst 0, 1) := by decide +kernel
theorem dX6_drop_40 : decode cX6_drop 40 = .ok (.bastore, 1) := by decide +kernel
theorem dX6_drop_41 : decode cX6_drop 41 = .ok (.aload_n 0, 1) := by decide +kernel
theorem dX6_drop_42 : decode cX6_drop 42 = .ok (.aload_n 0, 1) := by decide +kernel
theorem dX6_drop_43 : decode cX6_drop 43 = .ok (.getfield 10, 3) := by decide +kernel
theorem dX6_drop_46 : decode cX6_drop 46 = .ok (.getfield 101, 3) := by decide +kernel
theorem dX6_drop_49 : decode cX6_drop 49 = .ok (.iload_n 1, 1) := by decide +kernel
theorem dX6_drop_50 : decode cX6_drop 50 = .ok (.iaload, 1) := by decide +kernel
theorem dX6_drop_51 : decode cX6_drop 51 = .ok (.invokevirtual 73, 3) := by decide +kernel
theorem dX6_drop_54 : decode cX6_drop 54 = .ok (.ireturn, 1) := by decide +kernel
set_option maxRecDepth 20000 in
theorem ggX6_feed_X6_outside : GoodIn wsX6_feed wsX6_outside := goodIn_r _ [8] (by decide +kernel) (by decide +kernel)
set_option maxRecDepth 20000 in
theorem gX6_feed_X6_outside : GoodIn wsX6_feed (va_wsS RX6 60 yX6_outside wsX6_outside) := goodIn_app (goodIn_of _ (by decide +kernel)) ggX6_feed_X6_outside
set_option maxRecDepth 20000 in
theorem ggX6_feed_X5_add : GoodIn wsX6_feed wsX5_add := goodIn_r _ [13, 14, 15, 26, 27, 28, 29] (by decide +kernel) (by decide +kernel)
set_option maxRecDepth 20000 in
theorem gX6_feed_X5_add : GoodIn wsX6_feed (wsV RX6 109 RX5 yX5_add wsX5_add) := goodIn_app (goodIn_of _ (by decide +kernel)) ggX6_feed_X5_add
theorem dX6_feed_0 : decode cX6_feed 0 = .ok (.iload_n 1, 1) := by decide +kernel
theorem dX6_feed_1 : decode cX6_feed 1 = .ok (.iconst 0, 1) := by decide +kernel
theorem dX6_feed_2 : decode cX6_feed 2 = .ok (.sipush 255, 3) := by decide +kernel
theorem dX6_feed_5 : decode cX6_feed 5 = .ok (.invokestatic 60, 3) := by decide +kernel
theorem dX6_feed_8 : decode cX6_feed 8 = .ok (.ifCond .eq 6, 3) := by decide +kernel
theorem dX6_feed_11 : decode cX6_feed 11 = .ok (.ldc 64, 2) := by decide +kernel
theorem dX6_feed_13 : decode cX6_feed 13 = .ok (.ireturn, 1) := by decide +kernel
theorem dX6_feed_14 : decode cX6_feed 14 = .ok (.aload_n 0, 1) := by decide +kernel
theorem dX6_feed_15 : decode cX6_feed 15 = .ok (.getfield 19, 3) := by decide +kernel
theorem dX6_feed_18 : decode cX6_feed 18 = .ok (.getfield 104, 3) := by decide +kernel
theorem dX6_feed_21 : decode cX6_feed 21 = .ok (.bipush 100, 2) := by decide +kernel
theorem dX6_feed_23 : decode cX6_feed 23 = .ok (.if_icmp .lt 6, 3) := by decide +kernel
theorem dX6_feed_26 : decode cX6_feed 26 = .ok (.ldc 108, 2) := by decide +kernel
theorem dX6_feed_28 : decode cX6_feed 28 = .ok (.ireturn, 1) := by decide +kernel
theorem dX6_feed_29 : decode cX6_feed 29 = .ok (.aload_n 0, 1) := by decide +kernel
theorem dX6_feed_30 : decode cX6_feed 30 = .ok (.getfield 19, 3) := by decide +kernel
theorem dX6_feed_33 : decode cX6_feed 33 = .ok (.iload_n 1, 1) := by decide +kernel
theorem dX6_feed_34 : decode cX6_feed 34 = .ok (.invokevirtual 109, 3) := by decide +kernel
theorem dX6_feed_37 : decode cX6_feed 37 = .ok (.ireturn, 1) := by decide +kernel
set_option maxRecDepth 20000 in
theorem ggX6_coast_X5_readInto : GoodIn wsX6_coast wsX5_readInto := goodIn_r _ [13, 14, 15, 16, 17, 18, 12, 19, 20, 21, 22, 23, 24, 25, 26, 27, 28, 29, 30, 31, 32, 33, 34, 35, 36, 37, 38, 39, 40, 41, 42, 43, 44, 45, 46, 47, 48, 49, 50, 51, 52, 53, 54, 55, 56, 57, 58, 59, 60, 61, 62, 63, 64, 65, 66, 67, 68, 93, 94, 95, 96, 97, 98, 99, 100, 101, 102, 103, 104, 105, 106] (by decide +kernel) (by decide +kernel)
set_option maxRecDepth 20000 in
theorem gX6_coast_X5_readInto : GoodIn wsX6_coast (wsV RX6 112 RX5 yX5_readInto wsX5_readInto) := goodIn_app (goodIn_of _ (by decide +kernel)) ggX6_coast_X5_readInto
set_option maxRecDepth 20000 in
theorem ggX6_coast_X2_take : GoodIn wsX6_coast wsX2_take := goodIn_r _ [72, 66, 73, 74, 75, 76, 67, 68, 47, 48, 49, 50, 51, 52, 53, 97, 98, 99, 100, 101, 102, 103, 104, 105, 106] (by decide +kernel) (by decide +kernel)
set_option maxRecDepth 20000 in
theorem gX6_coast_X2_take : GoodIn wsX6_coast (wsV RX6 120 RX2 yX2_take wsX2_take) := goodIn_app (goodIn_of _ (by decide +kernel)) ggX6_coast_X2_take
set_option maxRecDepth 20000 in
theorem ggX6_coast_X0_forget : GoodIn wsX6_coast wsX0_forget := goodIn_r _ [81, 82, 107, 108, 109] (by decide +kernel) (by decide +kernel)
set_option maxRecDepth 20000 in
theorem gX6_coast_X0_forget : GoodIn wsX6_coast (wsV RX6 124 RX0 yX0_forget wsX0_forget) := goodIn_app (goodIn_of _ (by decide +kernel)) ggX6_coast_X0_forget
theorem dX6_coast_0 : decode cX6_coast 0 = .ok (.aload_n 0, 1) := by decide +kernel
theorem dX6_coast_1 : decode cX6_coast 1 = .ok (.getfield 19, 3) := by decide +kernel
theorem dX6_coast_4 : decode cX6_coast 4 = .ok (.aload_n 0, 1) := by decide +kernel
theorem dX6_coast_5 : decode cX6_coast 5 = .ok (.getfield 30, 3) := by decide +kernel
theorem dX6_coast_8 : decode cX6_coast 8 = .ok (.invokevirtual 112, 3) := by decide +kernel
theorem dX6_coast_11 : decode cX6_coast 11 = .ok (.istore_n 1, 1) := by decide +kernel
theorem dX6_coast_12 : decode cX6_coast 12 = .ok (.aload_n 0, 1) := by decide +kernel
theorem dX6_coast_13 : decode cX6_coast 13 = .ok (.getfield 19, 3) := by decide +kernel
theorem dX6_coast_16 : decode cX6_coast 16 = .ok (.iconst 0, 1) := by decide +kernel
theorem dX6_coast_17 : decode cX6_coast 17 = .ok (.putfield 104, 3) := by decide +kernel
theorem dX6_coast_20 : decode cX6_coast 20 = .ok (.iload_n 1, 1) := by decide +kernel
theorem dX6_coast_21 : decode cX6_coast 21 = .ok (.ifCond .ne 14, 3) := by decide +kernel
theorem dX6_coast_24 : decode cX6_coast 24 = .ok (.ldc 116, 2) := by decide +kernel
theorem dX6_coast_26 : decode cX6_coast 26 = .ok (.aload_n 0, 1) := by decide +kernel
theorem dX6_coast_27 : decode cX6_coast 27 = .ok (.getfield 19, 3) := by decide +kernel
theorem dX6_coast_30 : decode cX6_coast 30 = .ok (.getfield 117, 3) := by decide +kernel
theorem dX6_coast_33 : decode cX6_coast 33 = .ok (.isub, 1) := by decide +kernel
theorem dX6_coast_34 : decode cX6_coast 34 = .ok (.ireturn, 1) := by decide +kernel
theorem dX6_coast_35 : decode cX6_coast 35 = .ok (.aload_n 0, 1) := by decide +kernel
theorem dX6_coast_36 : decode cX6_coast 36 = .ok (.getfield 26, 3) := by decide +kernel
theorem dX6_coast_39 : decode cX6_coast 39 = .ok (.aload_n 0, 1) := by decide +kernel
theorem dX6_coast_40 : decode cX6_coast 40 = .ok (.getfield 30, 3) := by decide +kernel
theorem dX6_coast_43 : decode cX6_coast 43 = .ok (.invokevirtual 120, 3) := by decide +kernel
theorem dX6_coast_46 : decode cX6_coast 46 = .ok (.aload_n 0, 1) := by decide +kernel
theorem dX6_coast_47 : decode cX6_coast 47 = .ok (.getfield 42, 3) := by decide +kernel
theorem dX6_coast_50 : decode cX6_coast 50 = .ok (.invokevirtual 124, 3) := by decide +kernel
theorem dX6_coast_53 : decode cX6_coast 53 = .ok (.aload_n 0, 1) := by decide +kernel
theorem dX6_coast_54 : decode cX6_coast 54 = .ok (.getfield 26, 3) := by decide +kernel
theorem dX6_coast_57 : decode cX6_coast 57 = .ok (.getfield 127, 3) := by decide +kernel
theorem dX6_coast_60 : decode cX6_coast 60 = .ok (.ireturn, 1) := by decide +kernel
theorem dX6_fault_0 : decode cX6_fault 0 = .ok (.aload_n 0, 1) := by decide +kernel
theorem dX6_fault_1 : decode cX6_fault 1 = .ok (.getfield 19, 3) := by decide +kernel
theorem dX6_fault_4 : decode cX6_fault 4 = .ok (.getfield 130, 3) := by decide +kernel
theorem dX6_fault_7 : decode cX6_fault 7 = .ok (.ireturn, 1) := by decide +kernel
set_option maxRecDepth 20000 in
theorem ggX6_hours_X6_outside : GoodIn wsX6_hours wsX6_outside := goodIn_r _ [12] (by decide +kernel) (by decide +kernel)
set_option maxRecDepth 20000 in
theorem gX6_hours_X6_outside : GoodIn wsX6_hours (va_wsS RX6 60 yX6_outside wsX6_outside) := goodIn_app (goodIn_of _ (by decide +kernel)) ggX6_hours_X6_outside
set_option maxRecDepth 20000 in
theorem ggX6_hours_X0_keep : GoodIn wsX6_hours wsX0_keep := goodIn_r _ [17, 18, 19, 20, 21, 22, 23, 24, 25, 26, 27, 28, 29, 30, 31, 32, 33, 34, 35, 36, 37, 38, 39, 40, 41, 42, 43, 73, 74, 75, 63, 64, 65, 66, 67, 68, 69, 70, 71, 72] (by decide +kernel) (by decide +kernel)
set_option maxRecDepth 20000 in
theorem gX6_hours_X0_keep : GoodIn wsX6_hours (wsV RX6 137 RX0 yX0_keep wsX0_keep) := goodIn_app (goodIn_of _ (by decide +kernel)) ggX6_hours_X0_keep
set_option maxRecDepth 20000 in
theorem ggX6_hours_X2_passHour : GoodIn wsX6_hours wsX2_passHour := goodIn_r _ [47, 38, 36, 41, 48, 22, 23, 24, 49, 43, 42, 37, 39, 50, 51, 52, 40, 63, 64, 65, 66, 67, 68, 69, 70, 71, 72] (by decide +kernel) (by decide +kernel)
set_option maxRecDepth 20000 in
theorem gX6_hours_X2_passHour : GoodIn wsX6_hours (wsV RX6 140 RX2 yX2_passHour wsX2_passHour) := goodIn_app (goodIn_of _ (by decide +kernel)) ggX6_hours_X2_passHour
theorem dX6_hours_0 : decode cX6_hours 0 = .ok (.aload_n 0, 1) := by decide +kernel
theorem dX6_hours_1 : decode cX6_hours 1 = .ok (.getfield 26, 3) := by decide +kernel
theorem dX6_hours_4 : decode cX6_hours 4 = .ok (.getfield 127, 3) := by decide +kernel
theorem dX6_hours_7 : decode cX6_hours 7 = .ok (.ifCond .ne 6, 3) := by decide +kernel
theorem dX6_hours_10 : decode cX6_hours 10 = .ok (.ldc 133, 2) := by decide +kernel
theorem dX6_hours_12 : decode cX6_hours 12 = .ok (.ireturn, 1) := by decide +kernel
theorem dX6_hours_13 : decode cX6_hours 13 = .ok (.iload_n 1, 1) := by decide +kernel
theorem dX6_hours_14 : decode cX6_hours 14 = .ok (.iconst 1, 1) := by decide +kernel
theorem dX6_hours_15 : decode cX6_hours 15 = .ok (.bipush 24, 2) := by decide +kernel
theorem dX6_hours_17 : decode cX6_hours 17 = .ok (.invokestatic 60, 3) := by decide +kernel
theorem dX6_hours_20 : decode cX6_hours 20 = .ok (.ifCond .eq 6, 3) := by decide +kernel
theorem dX6_hours_23 : decode cX6_hours 23 = .ok (.ldc 64, 2) := by decide +kernel
theorem dX6_hours_25 : decode cX6_hours 25 = .ok (.ireturn, 1) := by decide +kernel
theorem dX6_hours_26 : decode cX6_hours 26 = .ok (.aload_n 0, 1) := by decide +kernel
theorem dX6_hours_27 : decode cX6_hours 27 = .ok (.getfield 26, 3) := by decide +kernel
theorem dX6_hours_30 : decode cX6_hours 30 = .ok (.getfield 134, 3) := by decide +kernel
theorem dX6_hours_33 : decode cX6_hours 33 = .ok (.iload_n 1, 1) := by decide +kernel
theorem dX6_hours_34 : decode cX6_hours 34 = .ok (.iadd, 1) := by decide +kernel
theorem dX6_hours_35 : decode cX6_hours 35 = .ok (.sipush 9999, 3) := by decide +kernel
theorem dX6_hours_38 : decode cX6_hours 38 = .ok (.if_icmp .le 6, 3) := by decide +kernel
theorem dX6_hours_41 : decode cX6_hours 41 = .ok (.ldc 108, 2) := by decide +kernel
theorem dX6_hours_43 : decode cX6_hours 43 = .ok (.ireturn, 1) := by decide +kernel
theorem dX6_hours_44 : decode cX6_hours 44 = .ok (.iconst 0, 1) := by decide +kernel
theorem dX6_hours_45 : decode cX6_hours 45 = .ok (.istore_n 2, 1) := by decide +kernel
theorem dX6_hours_46 : decode cX6_hours 46 = .ok (.iload_n 2, 1) := by decide +kernel
theorem dX6_hours_47 : decode cX6_hours 47 = .ok (.iload_n 1, 1) := by decide +kernel
theorem dX6_hours_48 : decode cX6_hours 48 = .ok (.if_icmp .ge 27, 3) := by decide +kernel
theorem dX6_hours_51 : decode cX6_hours 51 = .ok (.aload_n 0, 1) := by decide +kernel
theorem dX6_hours_52 : decode cX6_hours 52 = .ok (.getfield 42, 3) := by decide +kernel
theorem dX6_hours_55 : decode cX6_hours 55 = .ok (.aload_n 0, 1) := by decide +kernel
theorem dX6_hours_56 : decode cX6_hours 56 = .ok (.getfield 26, 3) := by decide +kernel
theorem dX6_hours_59 : decode cX6_hours 59 = .ok (.invokevirtual 137, 3) := by decide +kernel
theorem dX6_hours_62 : decode cX6_hours 62 = .ok (.aload_n 0, 1) := by decide +kernel
theorem dX6_hours_63 : decode cX6_hours 63 = .ok (.getfield 26, 3) := by decide +kernel
theorem dX6_hours_66 : decode cX6_hours 66 = .ok (.invokevirtual 140, 3) := by decide +kernel
theorem dX6_hours_69 : decode cX6_hours 69 = .ok (.iinc 2 1, 3) := by decide +kernel
theorem dX6_hours_72 : decode cX6_hours 72 = .ok (.goto (-26), 3) := by decide +kernel
theorem dX6_hours_75 : decode cX6_hours 75 = .ok (.aload_n 0, 1) := by decide +kernel
theorem dX6_hours_76 : decode cX6_hours 76 = .ok (.getfield 26, 3) := by decide +kernel
theorem dX6_hours_79 : decode cX6_hours 79 = .ok (.getfield 143, 3) := by decide +kernel
theorem dX6_hours_82 : decode cX6_hours 82 = .ok (.ireturn, 1) := by decide +kernel
set_option maxRecDepth 20000 in
theorem ggX6_confess_X6_noSoul : GoodIn wsX6_confess wsX6_noSoul := goodIn_r _ [9, 3, 10, 11, 12, 8, 13, 65, 66, 67, 68, 69, 70, 71, 72, 73, 74, 75, 76, 77, 78, 79, 80, 81, 82, 83, 84] (by decide +kernel) (by decide +kernel)
set_option maxRecDepth 20000 in
theorem gX6_confess_X6_noSoul : GoodIn wsX6_confess (wsV RX6 146 RX6 yX6_noSoul wsX6_noSoul) := goodIn_app (goodIn_of _ (by decide +kernel)) ggX6_confess_X6_noSoul
set_option maxRecDepth 20000 in
theorem ggX6_confess_X0_keep : GoodIn wsX6_confess wsX0_keep := goodIn_r _ [18, 19, 20, 21, 22, 23, 24, 25, 26, 27, 28, 29, 30, 31, 32, 33, 34, 35, 36, 37, 38, 39, 40, 41, 42, 43, 44, 85, 86, 87, 75, 76, 77, 78, 79, 80, 81, 82, 83, 84] (by decide +kernel) (by decide +kernel)
set_option maxRecDepth 20000 in
theorem gX6_confess_X0_keep : GoodIn wsX6_confess (wsV RX6 137 RX0 yX0_keep wsX0_keep) := goodIn_app (goodIn_of _ (by decide +kernel)) ggX6_confess_X0_keep
set_option maxRecDepth 20000 in
theorem ggX6_confess_X2_ownUp : GoodIn wsX6_confess wsX2_ownUp := goodIn_r _ [48, 39, 36, 49, 50, 51, 29, 52, 31, 53, 54, 55, 56, 57, 58, 24, 59, 60, 23, 25, 61, 62, 63, 64, 41, 75, 76, 77, 78, 79, 80, 81, 82, 83, 84] (by decide +kernel) (by decide +kernel)
set_option maxRecDepth 20000 in
theorem gX6_confess_X2_ownUp : GoodIn wsX6_confess (wsV RX6 150 RX2 yX2_ownUp wsX2_ownUp) := goodIn_app (goodIn_of _ (by decide +kernel)) ggX6_confess_X2_ownUp
theorem dX6_confess_0 : decode cX6_confess 0 = .ok (.aload_n 0, 1) := by decide +kernel
theorem dX6_confess_1 : decode cX6_confess 1 = .ok (.iload_n 1, 1) := by decide +kernel
theorem dX6_confess_2 : decode cX6_confess 2 = .ok (.invokevirtual 146, 3) := by decide +kernel
theorem dX6_confess_5 : decode cX6_confess 5 = .ok (.ifCond .eq 6, 3) := by decide +kernel
theorem dX6_confess_8 : decode cX6_confess 8 = .ok (.ldc 64, 2) := by decide +kernel
theorem dX6_confess_10 : decode cX6_confess 10 = .ok (.ireturn, 1) := by decide +kernel
theorem dX6_confess_11 : decode cX6_confess 11 = .ok (.aload_n 0, 1) := by decide +kernel
theorem dX6_confess_12 : decode cX6_confess 12 = .ok (.getfield 42, 3) := by decide +kernel
theorem dX6_confess_15 : decode cX6_confess 15 = .ok (.aload_n 0, 1) := by decide +kernel
theorem dX6_confess_16 : decode cX6_confess 16 = .ok (.getfield 26, 3) := by decide +kernel
theorem dX6_confess_19 : decode cX6_confess 19 = .ok (.invokevirtual 137, 3) := by decide +kernel
theorem dX6_confess_22 : decode cX6_confess 22 = .ok (.aload_n 0, 1) := by decide +kernel
theorem dX6_confess_23 : decode cX6_confess 23 = .ok (.getfield 26, 3) := by decide +kernel
theorem dX6_confess_26 : decode cX6_confess 26 = .ok (.iload_n 1, 1) := by decide +kernel
theorem dX6_confess_27 : decode cX6_confess 27 = .ok (.invokevirtual 150, 3) := by decide +kernel
theorem dX6_confess_30 : decode cX6_confess 30 = .ok (.aload_n 0, 1) := by decide +kernel
theorem dX6_confess_31 : decode cX6_confess 31 = .ok (.getfield 26, 3) := by decide +kernel
theorem dX6_confess_34 : decode cX6_confess 34 = .ok (.getfield 143, 3) := by decide +kernel
theorem dX6_confess_37 : decode cX6_confess 37 = .ok (.ireturn, 1) := by decide +kernel
set_option maxRecDepth 20000 in
theorem ggX6_mend_X6_noSoul : GoodIn wsX6_mend wsX6_noSoul := goodIn_r _ [13, 3, 14, 15, 16, 12, 17, 46, 47, 48, 49, 50, 51, 52, 53, 54, 55, 56, 57, 58, 59, 60, 61, 62, 63, 64, 65] (by decide +kernel) (by decide +kernel)
set_option maxRecDepth 20000 in
theorem gX6_mend_X6_noSoul : GoodIn wsX6_mend (wsV RX6 146 RX6 yX6_noSoul wsX6_noSoul) := goodIn_app (goodIn_of _ (by decide +kernel)) ggX6_mend_X6_noSoul
set_option maxRecDepth 20000 in
theorem ggX6_mend_X6_outside : GoodIn wsX6_mend wsX6_outside := goodIn_r _ [17] (by decide +kernel) (by decide +kernel)
set_option maxRecDepth 20000 in
theorem gX6_mend_X6_outside : GoodIn wsX6_mend (va_wsS RX6 60 yX6_outside wsX6_outside) := goodIn_app (goodIn_of _ (by decide +kernel)) ggX6_mend_X6_outside
set_option maxRecDepth 20000 in
theorem ggX6_mend_X0_keep : GoodIn wsX6_mend wsX0_keep := goodIn_r _ [22, 23, 24, 25, 26, 6, 7, 8, 27, 28, 29, 30, 31, 32, 33, 34, 35, 36, 37, 38, 39, 40, 41, 42, 43, 44, 45, 66, 67, 68, 56, 57, 58, 59, 60, 61, 62, 63, 64, 65] (by decide +kernel) (by decide +kernel)
set_option maxRecDepth 20000 in
theorem gX6_mend_X0_keep : GoodIn wsX6_mend (wsV RX6 137 RX0 yX0_keep wsX0_keep) := goodIn_app (goodIn_of _ (by decide +kernel)) ggX6_mend_X0_keep
theorem dX6_mend_0 : decode cX6_mend 0 = .ok (.aload_n 0, 1) := by decide +kernel
theorem dX6_mend_1 : decode cX6_mend 1 = .ok (.iload_n 1, 1) := by decide +kernel
theorem dX6_mend_2 : decode cX6_mend 2 = .ok (.invokevirtual 146, 3) := by decide +kernel
theorem dX6_mend_5 : decode cX6_mend 5 = .ok (.ifCond .ne 13, 3) := by decide +kernel
theorem dX6_mend_8 : decode cX6_mend 8 = .ok (.iload_n 2, 1) := by decide +kernel
theorem dX6_mend_9 : decode cX6_mend 9 = .ok (.iconst 1, 1) := by decide +kernel
theorem dX6_mend_10 : decode cX6_mend 10 = .ok (.bipush 30, 2) := by decide +kernel
theorem dX6_mend_12 : decode cX6_mend 12 = .ok (.invokestatic 60, 3) := by decide +kernel
theorem dX6_mend_15 : decode cX6_mend 15 = .ok (.ifCond .eq 6, 3) := by decide +kernel
theorem dX6_mend_18 : decode cX6_mend 18 = .ok (.ldc 64, 2) := by decide +kernel
theorem dX6_mend_20 : decode cX6_mend 20 = .ok (.ireturn, 1) := by decide +kernel
theorem dX6_mend_21 : decode cX6_mend 21 = .ok (.aload_n 0, 1) := by decide +kernel
theorem dX6_mend_22 : decode cX6_mend 22 = .ok (.getfield 42, 3) := by decide +kernel
theorem dX6_mend_25 : decode cX6_mend 25 = .ok (.aload_n 0, 1) := by decide +kernel
theorem dX6_mend_26 : decode cX6_mend 26 = .ok (.getfield 26, 3) := by decide +kernel
theorem dX6_mend_29 : decode cX6_mend 29 = .ok (.invokevirtual 137, 3) := by decide +kernel
theorem dX6_mend_32 : decode cX6_mend 32 = .ok (.aload_n 0, 1) := by decide +kernel
theorem dX6_mend_33 : decode cX6_mend 33 = .ok (.getfield 26, 3) := by decide +kernel
theorem dX6_mend_36 : decode cX6_mend 36 = .ok (.getfield 154, 3) := by decide +kernel
theorem dX6_mend_39 : decode cX6_mend 39 = .ok (.iload_n 1, 1) := by decide +kernel
theorem dX6_mend_40 : decode cX6_mend 40 = .ok (.bipush 30, 2) := by decide +kernel
theorem dX6_mend_42 : decode cX6_mend 42 = .ok (.aload_n 0, 1) := by decide +kernel
theorem dX6_mend_43 : decode cX6_mend 43 = .ok (.getfield 26, 3) := by decide +kernel
theorem dX6_mend_46 : decode cX6_mend 46 = .ok (.getfield 154, 3) := by decide +kernel
theorem dX6_mend_49 : decode cX6_mend 49 = .ok (.iload_n 1, 1) := by decide +kernel
theorem dX6_mend_50 : decode cX6_mend 50 = .ok (.iaload, 1) := by decide +kernel
theorem dX6_mend_51 : decode cX6_mend 51 = .ok (.iload_n 2, 1) := by decide +kernel
theorem dX6_mend_52 : decode cX6_mend 52 = .ok (.iadd, 1) := by decide +kernel
theorem dX6_mend_53 : decode cX6_mend 53 = .ok (.invokestatic 157, 3) := by decide +kernel
theorem dX6_mend_56 : decode cX6_mend 56 = .ok (.iastore, 1) := by decide +kernel
theorem dX6_mend_57 : decode cX6_mend 57 = .ok (.aload_n 0, 1) := by decide +kernel
theorem dX6_mend_58 : decode cX6_mend 58 = .ok (.getfield 26, 3) := by decide +kernel
theorem dX6_mend_61 : decode cX6_mend 61 = .ok (.getfield 154, 3) := by decide +kernel
theorem dX6_mend_64 : decode cX6_mend 64 = .ok (.iload_n 1, 1) := by decide +kernel
theorem dX6_mend_65 : decode cX6_mend 65 = .ok (.iaload, 1) := by decide +kernel
theorem dX6_mend_66 : decode cX6_mend 66 = .ok (.ireturn, 1) := by decide +kernel
set_option maxRecDepth 20000 in
theorem ggX6_raise_X6_outside : GoodIn wsX6_raise wsX6_outside := goodIn_r _ [11] (by decide +kernel) (by decide +kernel)
set_option maxRecDepth 20000 in
theorem gX6_raise_X6_outside : GoodIn wsX6_raise (va_wsS RX6 60 yX6_outside wsX6_outside) := goodIn_app (goodIn_of _ (by decide +kernel)) ggX6_raise_X6_outside
set_option maxRecDepth 20000 in
theorem ggX6_raise_X6_noSoul : GoodIn wsX6_raise wsX6_noSoul := goodIn_r _ [15, 1, 2, 8, 9, 10, 11, 47, 48, 49, 50, 51, 52, 53, 54, 55, 56, 57, 58, 59, 60, 61, 62, 63, 64, 65, 66] (by decide +kernel) (by decide +kernel)
set_option maxRecDepth 20000 in
theorem gX6_raise_X6_noSoul : GoodIn wsX6_raise (wsV RX6 146 RX6 yX6_noSoul wsX6_noSoul) := goodIn_app (goodIn_of _ (by decide +kernel)) ggX6_raise_X6_noSoul
set_option maxRecDepth 20000 in
theorem ggX6_raise_X0_keep : GoodIn wsX6_raise wsX0_keep := goodIn_r _ [20, 21, 22, 23, 24, 25, 26, 27, 28, 29, 30, 31, 32, 33, 34, 35, 36, 37, 38, 39, 40, 41, 42, 43, 44, 45, 46, 67, 68, 69, 57, 58, 59, 60, 61, 62, 63, 64, 65, 66] (by decide +kernel) (by decide +kernel)
set_option maxRecDepth 20000 in
theorem gX6_raise_X0_keep : GoodIn wsX6_raise (wsV RX6 137 RX0 yX0_keep wsX0_keep) := goodIn_app (goodIn_of _ (by decide +kernel)) ggX6_raise_X0_keep
theorem dX6_raise_0 : decode cX6_raise 0 = .ok (.aload_n 0, 1) := by decide +kernel
theorem dX6_raise_1 : decode cX6_raise 1 = .ok (.getfield 26, 3) := by decide +kernel
theorem dX6_raise_4 : decode cX6_raise 4 = .ok (.getfield 127, 3) := by decide +kernel
theorem dX6_raise_7 : decode cX6_raise 7 = .ok (.ifCond .ne 6, 3) := by decide +kernel
theorem dX6_raise_10 : decode cX6_raise 10 = .ok (.ldc 133, 2) := by decide +kernel
theorem dX6_raise_12 : decode cX6_raise 12 = .ok (.ireturn, 1) := by decide +kernel
theorem dX6_raise_13 : decode cX6_raise 13 = .ok (.iload_n 1, 1) := by decide +kernel
theorem dX6_raise_14 : decode cX6_raise 14 = .ok (.iconst 0, 1) := by decide +kernel
theorem dX6_raise_15 : decode cX6_raise 15 = .ok (.bipush 60, 2) := by decide +kernel
theorem dX6_raise_17 : decode cX6_raise 17 = .ok (.invokestatic 60, 3) := by decide +kernel
theorem dX6_raise_20 : decode cX6_raise 20 = .ok (.ifCond .ne 11, 3) := by decide +kernel
theorem dX6_raise_23 : decode cX6_raise 23 = .ok (.aload_n 0, 1) := by decide +kernel
theorem dX6_raise_24 : decode cX6_raise 24 = .ok (.iload_n 2, 1) := by decide +kernel
theorem dX6_raise_25 : decode cX6_raise 25 = .ok (.invokevirtual 146, 3) := by decide +kernel
theorem dX6_raise_28 : decode cX6_raise 28 = .ok (.ifCond .eq 6, 3) := by decide +kernel
theorem dX6_raise_31 : decode cX6_raise 31 = .ok (.ldc 64, 2) := by decide +kernel
theorem dX6_raise_33 : decode cX6_raise 33 = .ok (.ireturn, 1) := by decide +kernel
theorem dX6_raise_34 : decode cX6_raise 34 = .ok (.aload_n 0, 1) := by decide +kernel
theorem dX6_raise_35 : decode cX6_raise 35 = .ok (.getfield 42, 3) := by decide +kernel
theorem dX6_raise_38 : decode cX6_raise 38 = .ok (.aload_n 0, 1) := by decide +kernel
theorem dX6_raise_39 : decode cX6_raise 39 = .ok (.getfield 26, 3) := by decide +kernel
theorem dX6_raise_42 : decode cX6_raise 42 = .ok (.invokevirtual 137, 3) := by decide +kernel
theorem dX6_raise_45 : decode cX6_raise 45 = .ok (.aload_n 0, 1) := by decide +kernel
theorem dX6_raise_46 : decode cX6_raise 46 = .ok (.getfield 26, 3) := by decide +kernel
theorem dX6_raise_49 : decode cX6_raise 49 = .ok (.getfield 143, 3) := by decide +kernel
theorem dX6_raise_52 : decode cX6_raise 52 = .ok (.istore_n 3, 1) := by decide +kernel
theorem dX6_raise_53 : decode cX6_raise 53 = .ok (.aload_n 0, 1) := by decide +kernel
theorem dX6_raise_54 : decode cX6_raise 54 = .ok (.getfield 26, 3) := by decide +kernel
theorem dX6_raise_57 : decode cX6_raise 57 = .ok (.iload_n 1, 1) := by decide +kernel
theorem dX6_raise_58 : decode cX6_raise 58 = .ok (.putfield 143, 3) := by decide +kernel
theorem dX6_raise_61 : decode cX6_raise 61 = .ok (.aload_n 0, 1) := by decide +kernel
theorem dX6_raise_62 : decode cX6_raise 62 = .ok (.getfield 26, 3) := by decide +kernel
theorem dX6_raise_65 : decode cX6_raise 65 = .ok (.iload_n 2, 1) := by decide +kernel
theorem dX6_raise_66 : decode cX6_raise 66 = .ok (.putfield 162, 3) := by decide +kernel
theorem dX6_raise_69 : decode cX6_raise 69 = .ok (.iload_n 3, 1) := by decide +kernel
theorem dX6_raise_70 : decode cX6_raise 70 = .ok (.ireturn, 1) := by decide +kernel
set_option maxRecDepth 20000 in
theorem ggX6_veer_X0_keep : GoodIn wsX6_veer wsX0_keep := goodIn_r _ [10, 11, 12, 13, 14, 15, 16, 17, 18, 19, 20, 21, 22, 23, 24, 25, 26, 27, 28, 29, 30, 31, 32, 33, 34, 35, 36, 57, 58, 59, 47, 48, 49, 50, 51, 52, 53, 54, 55, 56] (by decide +kernel) (by decide +kernel)
set_option maxRecDepth 20000 in
theorem gX6_veer_X0_keep : GoodIn wsX6_veer (wsV RX6 137 RX0 yX0_keep wsX0_keep) := goodIn_app (goodIn_of _ (by decide +kernel)) ggX6_veer_X0_keep
theorem dX6_veer_0 : decode cX6_veer 0 = .ok (.aload_n 0, 1) := by decide +kernel
theorem dX6_veer_1 : decode cX6_veer 1 = .ok (.getfield 26, 3) := by decide +kernel
theorem dX6_veer_4 : decode cX6_veer 4 = .ok (.getfield 127, 3) := by decide +kernel
theorem dX6_veer_7 : decode cX6_veer 7 = .ok (.ifCond .ne 6, 3) := by decide +kernel
theorem dX6_veer_10 : decode cX6_veer 10 = .ok (.ldc 133, 2) := by decide +kernel
theorem dX6_veer_12 : decode cX6_veer 12 = .ok (.ireturn, 1) := by decide +kernel
theorem dX6_veer_13 : decode cX6_veer 13 = .ok (.aload_n 0, 1) := by decide +kernel
theorem dX6_veer_14 : decode cX6_veer 14 = .ok (.getfield 42, 3) := by decide +kernel
theorem dX6_veer_17 : decode cX6_veer 17 = .ok (.aload_n 0, 1) := by decide +kernel
theorem dX6_veer_18 : decode cX6_veer 18 = .ok (.getfield 26, 3) := by decide +kernel
theorem dX6_veer_21 : decode cX6_veer 21 = .ok (.invokevirtual 137, 3) := by decide +kernel
theorem dX6_veer_24 : decode cX6_veer 24 = .ok (.aload_n 0, 1) := by decide +kernel
theorem dX6_veer_25 : decode cX6_veer 25 = .ok (.getfield 26, 3) := by decide +kernel
theorem dX6_veer_28 : decode cX6_veer 28 = .ok (.iconst 1, 1) := by decide +kernel
theorem dX6_veer_29 : decode cX6_veer 29 = .ok (.aload_n 0, 1) := by decide +kernel
theorem dX6_veer_30 : decode cX6_veer 30 = .ok (.getfield 26, 3) := by decide +kernel
theorem dX6_veer_33 : decode cX6_veer 33 = .ok (.getfield 165, 3) := by decide +kernel
theorem dX6_veer_36 : decode cX6_veer 36 = .ok (.isub, 1) := by decide +kernel
theorem dX6_veer_37 : decode cX6_veer 37 = .ok (.putfield 165, 3) := by decide +kernel
theorem dX6_veer_40 : decode cX6_veer 40 = .ok (.aload_n 0, 1) := by decide +kernel
theorem dX6_veer_41 : decode cX6_veer 41 = .ok (.getfield 26, 3) := by decide +kernel
theorem dX6_veer_44 : decode cX6_veer 44 = .ok (.getfield 165, 3) := by decide +kernel
theorem dX6_veer_47 : decode cX6_veer 47 = .ok (.ireturn, 1) := by decide +kernel
set_option maxRecDepth 20000 in
theorem ggX6_undo_X0_giveBack : GoodIn wsX6_undo wsX0_giveBack := goodIn_r _ [9, 10, 11, 12, 13, 14, 15, 16, 17, 18, 19, 20, 21, 22, 23, 24, 25, 26, 27, 28, 29, 30, 31, 42, 43, 44, 45, 46, 47, 48, 49, 50, 51, 52, 53, 54] (by decide +kernel) (by decide +kernel)
set_option maxRecDepth 20000 in
theorem gX6_undo_X0_giveBack : GoodIn wsX6_undo (wsV RX6 171 RX0 yX0_giveBack wsX0_giveBack) := goodIn_app (goodIn_of _ (by decide +kernel)) ggX6_undo_X0_giveBack
theorem dX6_undo_0 : decode cX6_undo 0 = .ok (.aload_n 0, 1) := by decide +kernel
theorem dX6_undo_1 : decode cX6_undo 1 = .ok (.getfield 42, 3) := by decide +kernel
theorem dX6_undo_4 : decode cX6_undo 4 = .ok (.getfield 168, 3) := by decide +kernel
theorem dX6_undo_7 : decode cX6_undo 7 = .ok (.ifCond .ne 6, 3) := by decide +kernel
theorem dX6_undo_10 : decode cX6_undo 10 = .ok (.ldc 133, 2) := by decide +kernel
theorem dX6_undo_12 : decode cX6_undo 12 = .ok (.ireturn, 1) := by decide +kernel
theorem dX6_undo_13 : decode cX6_undo 13 = .ok (.aload_n 0, 1) := by decide +kernel
theorem dX6_undo_14 : decode cX6_undo 14 = .ok (.getfield 42, 3) := by decide +kernel
theorem dX6_undo_17 : decode cX6_undo 17 = .ok (.aload_n 0, 1) := by decide +kernel
theorem dX6_undo_18 : decode cX6_undo 18 = .ok (.getfield 26, 3) := by decide +kernel
theorem dX6_undo_21 : decode cX6_undo 21 = .ok (.invokevirtual 171, 3) := by decide +kernel
theorem dX6_undo_24 : decode cX6_undo 24 = .ok (.aload_n 0, 1) := by decide +kernel
theorem dX6_undo_25 : decode cX6_undo 25 = .ok (.getfield 42, 3) := by decide +kernel
theorem dX6_undo_28 : decode cX6_undo 28 = .ok (.getfield 168, 3) := by decide +kernel
theorem dX6_undo_31 : decode cX6_undo 31 = .ok (.ireturn, 1) := by decide +kernel
set_option maxRecDepth 20000 in
theorem ggX6_soul_X6_noSoul : GoodIn wsX6_soul wsX6_noSoul := goodIn_r _ [11, 2, 12, 13, 14, 10, 15, 39, 40, 41, 42, 43, 44, 45, 46, 47, 48, 49, 50, 51, 52, 53, 54, 55, 56, 57, 58] (by decide +kernel) (by decide +kernel)
set_option maxRecDepth 20000 in
theorem gX6_soul_X6_noSoul : GoodIn wsX6_soul (wsV RX6 146 RX6 yX6_noSoul wsX6_noSoul) := goodIn_app (goodIn_of _ (by decide +kernel)) ggX6_soul_X6_noSoul
set_option maxRecDepth 20000 in
theorem ggX6_soul_X2_worth : GoodIn wsX6_soul wsX2_worth := goodIn_r _ [20, 21, 22, 23, 24, 25, 49, 50, 51, 52, 53, 54, 55, 56, 57, 58] (by decide +kernel) (by decide +kernel)
set_option maxRecDepth 20000 in
theorem gX6_soul_X2_worth : GoodIn wsX6_soul (wsV RX6 180 RX2 yX2_worth wsX2_worth) := goodIn_app (goodIn_of _ (by decide +kernel)) ggX6_soul_X2_worth
set_option maxRecDepth 20000 in
theorem ggX6_soul_X2_fall : GoodIn wsX6_soul wsX2_fall := goodIn_r _ [29, 30, 31, 32, 33, 19, 34, 35, 36, 24, 37, 22, 23, 25, 38, 17, 18, 20, 21, 49, 50, 51, 52, 53, 54, 55, 56, 57, 58] (by decide +kernel) (by decide +kernel)
set_option maxRecDepth 20000 in
theorem gX6_soul_X2_fall : GoodIn wsX6_soul (wsV RX6 184 RX2 yX2_fall wsX2_fall) := goodIn_app (goodIn_of _ (by decide +kernel)) ggX6_soul_X2_fall
theorem dX6_soul_0 : decode cX6_soul 0 = .ok (.aload_n 0, 1) := by decide +kernel
theorem dX6_soul_1 : decode cX6_soul 1 = .ok (.iload_n 1, 1) := by decide +kernel
theorem dX6_soul_2 : decode cX6_soul 2 = .ok (.invokevirtual 146, 3) := by decide +kernel
theorem dX6_soul_5 : decode cX6_soul 5 = .ok (.ifCond .eq 6, 3) := by decide +kernel
theorem dX6_soul_8 : decode cX6_soul 8 = .ok (.ldc 64, 2) := by decide +kernel
theorem dX6_soul_10 : decode cX6_soul 10 = .ok (.ireturn, 1) := by decide +kernel
theorem dX6_soul_11 : decode cX6_soul 11 = .ok (.iload_n 2, 1) := by decide +kernel
theorem dX6_soul_12 : decode cX6_soul 12 = .ok (.tableswitch 111 0 3 #[32, 42, 52, 85], 32) := by decide +kernel
theorem dX6_soul_44 : decode cX6_soul 44 = .ok (.aload_n 0, 1) := by decide +kernel
theorem dX6_soul_45 : decode cX6_soul 45 = .ok (.getfield 26, 3) := by decide +kernel
theorem dX6_soul_48 : decode cX6_soul 48 = .ok (.getfield 174, 3) := by decide +kernel
theorem dX6_soul_51 : decode cX6_soul 51 = .ok (.iload_n 1, 1) := by decide +kernel
theorem dX6_soul_52 : decode cX6_soul 52 = .ok (.iaload, 1) := by decide +kernel
theorem dX6_soul_53 : decode cX6_soul 53 = .ok (.ireturn, 1) := by decide +kernel
theorem dX6_soul_54 : decode cX6_soul 54 = .ok (.aload_n 0, 1) := by decide +kernel
theorem dX6_soul_55 : decode cX6_soul 55 = .ok (.getfield 26, 3) := by decide +kernel
theorem dX6_soul_58 : decode cX6_soul 58 = .ok (.getfield 154, 3) := by decide +kernel
theorem dX6_soul_61 : decode cX6_soul 61 = .ok (.iload_n 1, 1) := by decide +kernel
theorem dX6_soul_62 : decode cX6_soul 62 = .ok (.iaload, 1) := by decide +kernel
theorem dX6_soul_63 : decode cX6_soul 63 = .ok (.ireturn, 1) := by decide +kernel
theorem dX6_soul_64 : decode cX6_soul 64 = .ok (.aload_n 0, 1) := by decide +kernel
theorem dX6_soul_65 : decode cX6_soul 65 = .ok (.getfield 26, 3) := by decide +kernel
theorem dX6_soul_68 : decode cX6_soul 68 = .ok (.aload_n 0, 1) := by decide +kernel
theorem dX6_soul_69 : decode cX6_soul 69 = .ok (.getfield 26, 3) := by decide +kernel
theorem dX6_soul_72 : decode cX6_soul 72 = .ok (.getfield 177, 3) := by decide +kernel
theorem dX6_soul_75 : decode cX6_soul 75 = .ok (.iload_n 1, 1) := by decide +kernel
theorem dX6_soul_76 : decode cX6_soul 76 = .ok (.iaload, 1) := by decide +kernel
theorem dX6_soul_77 : decode cX6_soul 77 = .ok (.aload_n 0, 1) := by decide +kernel
theorem dX6_soul_78 : decode cX6_soul 78 = .ok (.getfield 26, 3) := by decide +kernel
theorem dX6_soul_81 : decode cX6_soul 81 = .ok (.getfield 174, 3) := by decide +kernel
theorem dX6_soul_84 : decode cX6_soul 84 = .ok (.iload_n 1, 1) := by decide +kernel
theorem dX6_soul_85 : decode cX6_soul 85 = .ok (.iaload, 1) := by decide +kernel
theorem dX6_soul_86 : decode cX6_soul 86 = .ok (.aload_n 0, 1) := by decide +kernel
theorem dX6_soul_87 : decode cX6_soul 87 = .ok (.getfield 26, 3) := by decide +kernel
theorem dX6_soul_90 : decode cX6_soul 90 = .ok (.getfield 143, 3) := by decide +kernel
theorem dX6_soul_93 : decode cX6_soul 93 = .ok (.invokevirtual 180, 3) := by decide +kernel
theorem dX6_soul_96 : decode cX6_soul 96 = .ok (.ireturn, 1) := by decide +kernel
theorem dX6_soul_97 : decode cX6_soul 97 = .ok (.aload_n 0, 1) := by decide +kernel
theorem dX6_soul_98 : decode cX6_soul 98 = .ok (.getfield 26, 3) := by decide +kernel
theorem dX6_soul_101 : decode cX6_soul 101 = .ok (.aload_n 0, 1) := by decide +kernel
theorem dX6_soul_102 : decode cX6_soul 102 = .ok (.getfield 26, 3) := by decide +kernel
theorem dX6_soul_105 : decode cX6_soul 105 = .ok (.getfield 177, 3) := by decide +kernel
theorem dX6_soul_108 : decode cX6_soul 108 = .ok (.iload_n 1, 1) := by decide +kernel
theorem dX6_soul_109 : decode cX6_soul 109 = .ok (.iaload, 1) := by decide +kernel
theorem dX6_soul_110 : decode cX6_soul 110 = .ok (.aload_n 0, 1) := by decide +kernel
theorem dX6_soul_111 : decode cX6_soul 111 = .ok (.getfield 26, 3) := by decide +kernel
theorem dX6_soul_114 : decode cX6_soul 114 = .ok (.getfield 174, 3) := by decide +kernel
theorem dX6_soul_117 : decode cX6_soul 117 = .ok (.iload_n 1, 1) := by decide +kernel
theorem dX6_soul_118 : decode cX6_soul 118 = .ok (.iaload, 1) := by decide +kernel
theorem dX6_soul_119 : decode cX6_soul 119 = .ok (.invokevirtual 184, 3) := by decide +kernel
theorem dX6_soul_122 : decode cX6_soul 122 = .ok (.ireturn, 1) := by decide +kernel
theorem dX6_soul_123 : decode cX6_soul 123 = .ok (.ldc 64, 2) := by decide +kernel
theorem dX6_soul_125 : decode cX6_soul 125 = .ok (.ireturn, 1) := by decide +kernel
set_option maxRecDepth 20000 in
theorem ggX6_roofs_X6_noSoul : GoodIn wsX6_roofs wsX6_noSoul := goodIn_r _ [8, 9, 10, 11, 12, 7, 13, 49, 50, 51, 52, 53, 54, 55, 56, 57, 58, 59, 60, 61, 62, 63, 64, 65, 66, 67, 68] (by decide +kernel) (by decide +kernel)
set_option maxRecDepth 20000 in
theorem gX6_roofs_X6_noSoul : GoodIn wsX6_roofs (wsV RX6 146 RX6 yX6_noSoul wsX6_noSoul) := goodIn_app (goodIn_of _ (by decide +kernel)) ggX6_roofs_X6_noSoul
set_option maxRecDepth 20000 in
theorem ggX6_roofs_X6_outside : GoodIn wsX6_roofs wsX6_outside := goodIn_r _ [13] (by decide +kernel) (by decide +kernel)
set_option maxRecDepth 20000 in
theorem gX6_roofs_X6_outside : GoodIn wsX6_roofs (va_wsS RX6 60 yX6_outside wsX6_outside) := goodIn_app (goodIn_of _ (by decide +kernel)) ggX6_roofs_X6_outside
set_option maxRecDepth 20000 in
theorem ggX6_roofs_X6_foretell : GoodIn wsX6_roofs wsX6_foretell := goodIn_r _ [17, 2, 9, 18, 19, 20, 21, 22, 23, 24, 25, 26, 27, 28, 29, 30, 31, 32, 33, 34, 35, 36, 37, 38, 39, 40, 41, 42, 43, 44, 45, 46, 47, 48, 49, 50, 51, 52, 53, 54, 55, 56, 57, 58, 59, 60, 61, 62, 63, 64, 65, 66, 67, 68] (by decide +kernel) (by decide +kernel)
set_option maxRecDepth 20000 in
theorem gX6_roofs_X6_foretell : GoodIn wsX6_roofs (wsV RX6 187 RX6 yX6_foretell wsX6_foretell) := goodIn_app (goodIn_of _ (by decide +kernel)) ggX6_roofs_X6_foretell
theorem dX6_roofs_0 : decode cX6_roofs 0 = .ok (.aload_n 0, 1) := by decide +kernel
theorem dX6_roofs_1 : decode cX6_roofs 1 = .ok (.iload_n 1, 1) := by decide +kernel
theorem dX6_roofs_2 : decode cX6_roofs 2 = .ok (.invokevirtual 146, 3) := by decide +kernel
theorem dX6_roofs_5 : decode cX6_roofs 5 = .ok (.ifCond .ne 13, 3) := by decide +kernel
theorem dX6_roofs_8 : decode cX6_roofs 8 = .ok (.iload_n 2, 1) := by decide +kernel
theorem dX6_roofs_9 : decode cX6_roofs 9 = .ok (.iconst 0, 1) := by decide +kernel
theorem dX6_roofs_10 : decode cX6_roofs 10 = .ok (.bipush 60, 2) := by decide +kernel
theorem dX6_roofs_12 : decode cX6_roofs 12 = .ok (.invokestatic 60, 3) := by decide +kernel
theorem dX6_roofs_15 : decode cX6_roofs 15 = .ok (.ifCond .eq 6, 3) := by decide +kernel
theorem dX6_roofs_18 : decode cX6_roofs 18 = .ok (.ldc 64, 2) := by decide +kernel
theorem dX6_roofs_20 : decode cX6_roofs 20 = .ok (.ireturn, 1) := by decide +kernel
theorem dX6_roofs_21 : decode cX6_roofs 21 = .ok (.aload_n 0, 1) := by decide +kernel
theorem dX6_roofs_22 : decode cX6_roofs 22 = .ok (.iload_n 2, 1) := by decide +kernel
theorem dX6_roofs_23 : decode cX6_roofs 23 = .ok (.invokevirtual 187, 3) := by decide +kernel
theorem dX6_roofs_26 : decode cX6_roofs 26 = .ok (.aload_n 0, 1) := by decide +kernel
theorem dX6_roofs_27 : decode cX6_roofs 27 = .ok (.getfield 30, 3) := by decide +kernel
theorem dX6_roofs_30 : decode cX6_roofs 30 = .ok (.getfield 154, 3) := by decide +kernel
theorem dX6_roofs_33 : decode cX6_roofs 33 = .ok (.iload_n 1, 1) := by decide +kernel
theorem dX6_roofs_34 : decode cX6_roofs 34 = .ok (.iaload, 1) := by decide +kernel
theorem dX6_roofs_35 : decode cX6_roofs 35 = .ok (.ireturn, 1) := by decide +kernel
set_option maxRecDepth 20000 in
theorem ggX6_later_X6_outside : GoodIn wsX6_later wsX6_outside := goodIn_r _ [12] (by decide +kernel) (by decide +kernel)
set_option maxRecDepth 20000 in
theorem gX6_later_X6_outside : GoodIn wsX6_later (va_wsS RX6 60 yX6_outside wsX6_outside) := goodIn_app (goodIn_of _ (by decide +kernel)) ggX6_later_X6_outside
set_option maxRecDepth 20000 in
theorem ggX6_later_X6_foretell : GoodIn wsX6_later wsX6_foretell := goodIn_r _ [16, 5, 1, 17, 18, 19, 20, 21, 22, 23, 24, 25, 26, 27, 28, 29, 30, 31, 32, 33, 34, 35, 36, 37, 38, 39, 40, 41, 42, 43, 44, 45, 46, 47, 48, 49, 50, 51, 52, 53, 54, 55, 56, 57, 58, 59, 60, 61, 62, 63, 64, 65, 66, 67] (by decide +kernel) (by decide +kernel)
set_option maxRecDepth 20000 in
theorem gX6_later_X6_foretell : GoodIn wsX6_later (wsV RX6 187 RX6 yX6_foretell wsX6_foretell) := goodIn_app (goodIn_of _ (by decide +kernel)) ggX6_later_X6_foretell
theorem dX6_later_0 : decode cX6_later 0 = .ok (.aload_n 0, 1) := by decide +kernel
theorem dX6_later_1 : decode cX6_later 1 = .ok (.getfield 26, 3) := by decide +kernel
theorem dX6_later_4 : decode cX6_later 4 = .ok (.getfield 127, 3) := by decide +kernel
theorem dX6_later_7 : decode cX6_later 7 = .ok (.ifCond .ne 6, 3) := by decide +kernel
theorem dX6_later_10 : decode cX6_later 10 = .ok (.ldc 133, 2) := by decide +kernel
theorem dX6_later_12 : decode cX6_later 12 = .ok (.ireturn, 1) := by decide +kernel
theorem dX6_later_13 : decode cX6_later 13 = .ok (.iload_n 1, 1) := by decide +kernel
theorem dX6_later_14 : decode cX6_later 14 = .ok (.iconst 0, 1) := by decide +kernel
theorem dX6_later_15 : decode cX6_later 15 = .ok (.bipush 60, 2) := by decide +kernel
theorem dX6_later_17 : decode cX6_later 17 = .ok (.invokestatic 60, 3) := by decide +kernel
theorem dX6_later_20 : decode cX6_later 20 = .ok (.ifCond .ne 12, 3) := by decide +kernel
theorem dX6_later_23 : decode cX6_later 23 = .ok (.iload_n 2, 1) := by decide +kernel
theorem dX6_later_24 : decode cX6_later 24 = .ok (.iconst 0, 1) := by decide +kernel
theorem dX6_later_25 : decode cX6_later 25 = .ok (.iconst 2, 1) := by decide +kernel
theorem dX6_later_26 : decode cX6_later 26 = .ok (.invokestatic 60, 3) := by decide +kernel
theorem dX6_later_29 : decode cX6_later 29 = .ok (.ifCond .eq 6, 3) := by decide +kernel
theorem dX6_later_32 : decode cX6_later 32 = .ok (.ldc 64, 2) := by decide +kernel
theorem dX6_later_34 : decode cX6_later 34 = .ok (.ireturn, 1) := by decide +kernel
theorem dX6_later_35 : decode cX6_later 35 = .ok (.aload_n 0, 1) := by decide +kernel
theorem dX6_later_36 : decode cX6_later 36 = .ok (.iload_n 1, 1) := by decide +kernel
theorem dX6_later_37 : decode cX6_later 37 = .ok (.invokevirtual 187, 3) := by decide +kernel
theorem dX6_later_40 : decode cX6_later 40 = .ok (.iload_n 2, 1) := by decide +kernel
theorem dX6_later_41 : decode cX6_later 41 = .ok (.ifCond .ne 11, 3) := by decide +kernel
theorem dX6_later_44 : decode cX6_later 44 = .ok (.aload_n 0, 1) := by decide +kernel
theorem dX6_later_45 : decode cX6_later 45 = .ok (.getfield 30, 3) := by decide +kernel
theorem dX6_later_48 : decode cX6_later 48 = .ok (.getfield 143, 3) := by decide +kernel
theorem dX6_later_51 : decode cX6_later 51 = .ok (.ireturn, 1) := by decide +kernel
theorem dX6_later_52 : decode cX6_later 52 = .ok (.iload_n 2, 1) := by decide +kernel
theorem dX6_later_53 : decode cX6_later 53 = .ok (.iconst 1, 1) := by decide +kernel
theorem dX6_later_54 : decode cX6_later 54 = .ok (.if_icmp .ne 13, 3) := by decide +kernel
theorem dX6_later_57 : decode cX6_later 57 = .ok (.aload_n 0, 1) := by decide +kernel
theorem dX6_later_58 : decode cX6_later 58 = .ok (.getfield 30, 3) := by decide +kernel
theorem dX6_later_61 : decode cX6_later 61 = .ok (.getfield 162, 3) := by decide +kernel
theorem dX6_later_64 : decode cX6_later 64 = .ok (.goto 10, 3) := by decide +kernel
theorem dX6_later_67 : decode cX6_later 67 = .ok (.aload_n 0, 1) := by decide +kernel
theorem dX6_later_68 : decode cX6_later 68 = .ok (.getfield 30, 3) := by decide +kernel
theorem dX6_later_71 : decode cX6_later 71 = .ok (.getfield 190, 3) := by decide +kernel
theorem dX6_later_74 : decode cX6_later 74 = .ok (.ireturn, 1) := by decide +kernel
set_option maxRecDepth 20000 in
theorem ggX6_still_X6_foretell : GoodIn wsX6_still wsX6_foretell := goodIn_r _ [11, 4, 1, 12, 13, 14, 15, 16, 17, 18, 19, 20, 21, 22, 23, 24, 25, 26, 27, 28, 29, 30, 31, 32, 33, 34, 35, 36, 37, 38, 39, 40, 41, 42, 43, 44, 45, 46, 47, 48, 49, 50, 51, 52, 53, 54, 55, 56, 57, 58, 59, 60, 61, 62] (by decide +kernel) (by decide +kernel)
set_option maxRecDepth 20000 in
theorem gX6_still_X6_foretell : GoodIn wsX6_still (wsV RX6 187 RX6 yX6_foretell wsX6_foretell) := goodIn_app (goodIn_of _ (by decide +kernel)) ggX6_still_X6_foretell
set_option maxRecDepth 20000 in
theorem ggX6_still_X2_passHour : GoodIn wsX6_still wsX2_passHour := goodIn_r _ [34, 25, 23, 28, 35, 36, 37, 38, 39, 30, 29, 24, 26, 40, 41, 42, 27, 53, 54, 55, 56, 57, 58, 59, 60, 61, 62] (by decide +kernel) (by decide +kernel)
set_option maxRecDepth 20000 in
theorem gX6_still_X2_passHour : GoodIn wsX6_still (wsV RX6 140 RX2 yX2_passHour wsX2_passHour) := goodIn_app (goodIn_of _ (by decide +kernel)) ggX6_still_X2_passHour
theorem dX6_still_0 : decode cX6_still 0 = .ok (.aload_n 0, 1) := by decide +kernel
theorem dX6_still_1 : decode cX6_still 1 = .ok (.getfield 26, 3) := by decide +kernel
theorem dX6_still_4 : decode cX6_still 4 = .ok (.getfield 127, 3) := by decide +kernel
theorem dX6_still_7 : decode cX6_still 7 = .ok (.ifCond .ne 6, 3) := by decide +kernel
theorem dX6_still_10 : decode cX6_still 10 = .ok (.ldc 133, 2) := by decide +kernel
theorem dX6_still_12 : decode cX6_still 12 = .ok (.ireturn, 1) := by decide +kernel
theorem dX6_still_13 : decode cX6_still 13 = .ok (.aload_n 0, 1) := by decide +kernel
theorem dX6_still_14 : decode cX6_still 14 = .ok (.iconst 0, 1) := by decide +kernel
theorem dX6_still_15 : decode cX6_still 15 = .ok (.invokevirtual 187, 3) := by decide +kernel
theorem dX6_still_18 : decode cX6_still 18 = .ok (.iconst 0, 1) := by decide +kernel
theorem dX6_still_19 : decode cX6_still 19 = .ok (.istore_n 1, 1) := by decide +kernel
theorem dX6_still_20 : decode cX6_still 20 = .ok (.iload_n 1, 1) := by decide +kernel
theorem dX6_still_21 : decode cX6_still 21 = .ok (.bipush 60, 2) := by decide +kernel
theorem dX6_still_23 : decode cX6_still 23 = .ok (.if_icmp .gt 28, 3) := by decide +kernel
theorem dX6_still_26 : decode cX6_still 26 = .ok (.aload_n 0, 1) := by decide +kernel
theorem dX6_still_27 : decode cX6_still 27 = .ok (.getfield 30, 3) := by decide +kernel
theorem dX6_still_30 : decode cX6_still 30 = .ok (.getfield 143, 3) := by decide +kernel
theorem dX6_still_33 : decode cX6_still 33 = .ok (.ifCond .ne 5, 3) := by decide +kernel
theorem dX6_still_36 : decode cX6_still 36 = .ok (.iload_n 1, 1) := by decide +kernel
theorem dX6_still_37 : decode cX6_still 37 = .ok (.ireturn, 1) := by decide +kernel
theorem dX6_still_38 : decode cX6_still 38 = .ok (.aload_n 0, 1) := by decide +kernel
theorem dX6_still_39 : decode cX6_still 39 = .ok (.getfield 30, 3) := by decide +kernel
theorem dX6_still_42 : decode cX6_still 42 = .ok (.invokevirtual 140, 3) := by decide +kernel
theorem dX6_still_45 : decode cX6_still 45 = .ok (.iinc 1 1, 3) := by decide +kernel
theorem dX6_still_48 : decode cX6_still 48 = .ok (.goto (-28), 3) := by decide +kernel
theorem dX6_still_51 : decode cX6_still 51 = .ok (.ldc 193, 2) := by decide +kernel
theorem dX6_still_53 : decode cX6_still 53 = .ok (.ireturn, 1) := by decide +kernel
set_option maxRecDepth 20000 in
theorem ggX6_bare_X6_outside : GoodIn wsX6_bare wsX6_outside := goodIn_r _ [10] (by decide +kernel) (by decide +kernel)
set_option maxRecDepth 20000 in
theorem gX6_bare_X6_outside : GoodIn wsX6_bare (va_wsS RX6 60 yX6_outside wsX6_outside) := goodIn_app (goodIn_of _ (by decide +kernel)) ggX6_bare_X6_outside
set_option maxRecDepth 20000 in
theorem ggX6_bare_X6_foretell : GoodIn wsX6_bare wsX6_foretell := goodIn_r _ [14, 5, 1, 15, 16, 17, 18, 19, 20, 21, 22, 23, 24, 25, 26, 27, 28, 29, 30, 31, 32, 33, 34, 35, 36, 37, 38, 39, 40, 41, 42, 43, 44, 45, 51, 52, 53, 54, 55, 56, 57, 58, 59, 60, 61, 62, 63, 64, 65, 66, 67, 68, 69, 70] (by decide +kernel) (by decide +kernel)
set_option maxRecDepth 20000 in
theorem gX6_bare_X6_foretell : GoodIn wsX6_bare (wsV RX6 187 RX6 yX6_foretell wsX6_foretell) := goodIn_app (goodIn_of _ (by decide +kernel)) ggX6_bare_X6_foretell
set_option maxRecDepth 20000 in
theorem ggX6_bare_X2_firstBare : GoodIn wsX6_bare wsX2_firstBare := goodIn_r _ [49, 27, 26, 50, 61, 62, 63, 64, 65, 66, 67, 68, 69, 70] (by decide +kernel) (by decide +kernel)
set_option maxRecDepth 20000 in
theorem gX6_bare_X2_firstBare : GoodIn wsX6_bare (wsV RX6 194 RX2 yX2_firstBare wsX2_firstBare) := goodIn_app (goodIn_of _ (by decide +kernel)) ggX6_bare_X2_firstBare
set_option maxRecDepth 20000 in
theorem ggX6_bare_X2_passHour : GoodIn wsX6_bare wsX2_passHour := goodIn_r _ [37, 28, 26, 31, 38, 39, 40, 41, 42, 33, 32, 27, 29, 43, 44, 45, 30, 61, 62, 63, 64, 65, 66, 67, 68, 69, 70] (by decide +kernel) (by decide +kernel)
set_option maxRecDepth 20000 in
theorem gX6_bare_X2_passHour : GoodIn wsX6_bare (wsV RX6 140 RX2 yX2_passHour wsX2_passHour) := goodIn_app (goodIn_of _ (by decide +kernel)) ggX6_bare_X2_passHour
theorem dX6_bare_0 : decode cX6_bare 0 = .ok (.aload_n 0, 1) := by decide +kernel
theorem dX6_bare_1 : decode cX6_bare 1 = .ok (.getfield 26, 3) := by decide +kernel
theorem dX6_bare_4 : decode cX6_bare 4 = .ok (.getfield 127, 3) := by decide +kernel
theorem dX6_bare_7 : decode cX6_bare 7 = .ok (.ifCond .ne 6, 3) := by decide +kernel
theorem dX6_bare_10 : decode cX6_bare 10 = .ok (.ldc 133, 2) := by decide +kernel
theorem dX6_bare_12 : decode cX6_bare 12 = .ok (.ireturn, 1) := by decide +kernel
theorem dX6_bare_13 : decode cX6_bare 13 = .ok (.iload_n 1, 1) := by decide +kernel
theorem dX6_bare_14 : decode cX6_bare 14 = .ok (.iconst 0, 1) := by decide +kernel
theorem dX6_bare_15 : decode cX6_bare 15 = .ok (.iconst 1, 1) := by decide +kernel
theorem dX6_bare_16 : decode cX6_bare 16 = .ok (.invokestatic 60, 3) := by decide +kernel
theorem dX6_bare_19 : decode cX6_bare 19 = .ok (.ifCond .eq 6, 3) := by decide +kernel
theorem dX6_bare_22 : decode cX6_bare 22 = .ok (.ldc 64, 2) := by decide +kernel
theorem dX6_bare_24 : decode cX6_bare 24 = .ok (.ireturn, 1) := by decide +kernel
theorem dX6_bare_25 : decode cX6_bare 25 = .ok (.aload_n 0, 1) := by decide +kernel
theorem dX6_bare_26 : decode cX6_bare 26 = .ok (.iconst 0, 1) := by decide +kernel
theorem dX6_bare_27 : decode cX6_bare 27 = .ok (.invokevirtual 187, 3) := by decide +kernel
theorem dX6_bare_30 : decode cX6_bare 30 = .ok (.iconst 0, 1) := by decide +kernel
theorem dX6_bare_31 : decode cX6_bare 31 = .ok (.istore_n 2, 1) := by decide +kernel
theorem dX6_bare_32 : decode cX6_bare 32 = .ok (.iload_n 2, 1) := by decide +kernel
theorem dX6_bare_33 : decode cX6_bare 33 = .ok (.bipush 60, 2) := by decide +kernel
theorem dX6_bare_35 : decode cX6_bare 35 = .ok (.if_icmp .gt 40, 3) := by decide +kernel
theorem dX6_bare_38 : decode cX6_bare 38 = .ok (.aload_n 0, 1) := by decide +kernel
theorem dX6_bare_39 : decode cX6_bare 39 = .ok (.getfield 30, 3) := by decide +kernel
theorem dX6_bare_42 : decode cX6_bare 42 = .ok (.invokevirtual 194, 3) := by decide +kernel
theorem dX6_bare_45 : decode cX6_bare 45 = .ok (.istore_n 3, 1) := by decide +kernel
theorem dX6_bare_46 : decode cX6_bare 46 = .ok (.iload_n 3, 1) := by decide +kernel
theorem dX6_bare_47 : decode cX6_bare 47 = .ok (.ldc 193, 2) := by decide +kernel
theorem dX6_bare_49 : decode cX6_bare 49 = .ok (.if_icmp .eq 13, 3) := by decide +kernel
theorem dX6_bare_52 : decode cX6_bare 52 = .ok (.iload_n 1, 1) := by decide +kernel
theorem dX6_bare_53 : decode cX6_bare 53 = .ok (.ifCond .ne 7, 3) := by decide +kernel
theorem dX6_bare_56 : decode cX6_bare 56 = .ok (.iload_n 3, 1) := by decide +kernel
theorem dX6_bare_57 : decode cX6_bare 57 = .ok (.goto 4, 3) := by decide +kernel
theorem dX6_bare_60 : decode cX6_bare 60 = .ok (.iload_n 2, 1) := by decide +kernel
theorem dX6_bare_61 : decode cX6_bare 61 = .ok (.ireturn, 1) := by decide +kernel
theorem dX6_bare_62 : decode cX6_bare 62 = .ok (.aload_n 0, 1) := by decide +kernel
theorem dX6_bare_63 : decode cX6_bare 63 = .ok (.getfield 30, 3) := by decide +kernel
theorem dX6_bare_66 : decode cX6_bare 66 = .ok (.invokevirtual 140, 3) := by decide +kernel
theorem dX6_bare_69 : decode cX6_bare 69 = .ok (.iinc 2 1, 3) := by decide +kernel
theorem dX6_bare_72 : decode cX6_bare 72 = .ok (.goto (-40), 3) := by decide +kernel
theorem dX6_bare_75 : decode cX6_bare 75 = .ok (.ldc 193, 2) := by decide +kernel
theorem dX6_bare_77 : decode cX6_bare 77 = .ok (.ireturn, 1) := by decide +kernel
set_option maxRecDepth 20000 in
theorem ggX6_list_X6_outside : GoodIn wsX6_list wsX6_outside := goodIn_r _ [9] (by decide +kernel) (by decide +kernel)
set_option maxRecDepth 20000 in
theorem gX6_list_X6_outside : GoodIn wsX6_list (va_wsS RX6 60 yX6_outside wsX6_outside) := goodIn_app (goodIn_of _ (by decide +kernel)) ggX6_list_X6_outside
set_option maxRecDepth 20000 in
theorem ggX6_list_J6_bitCount_0f7a4 : GoodIn wsX6_list wsJ6_bitCount_0f7a4 := goodIn_r _ [13, 14, 15, 16] (by decide +kernel) (by decide +kernel)
set_option maxRecDepth 20000 in
theorem gX6_list_J6_bitCount_0f7a4 : GoodIn wsX6_list (va_wsS RX6 198 yJ6_bitCount_0f7a4 wsJ6_bitCount_0f7a4) := goodIn_app (goodIn_of _ (by decide +kernel)) ggX6_list_J6_bitCount_0f7a4
set_option maxRecDepth 20000 in
theorem ggX6_list_X2_forceBehindAll : GoodIn wsX6_list wsX2_forceBehindAll := goodIn_r _ [21, 22, 23, 24, 25, 26, 20, 27, 28, 29, 30, 31, 32, 33, 34, 35, 36, 37, 38, 39, 40, 41, 42, 43, 44, 45, 56, 57, 58, 59, 60, 61, 62, 63, 64, 65] (by decide +kernel) (by decide +kernel)
set_option maxRecDepth 20000 in
theorem gX6_list_X2_forceBehindAll : GoodIn wsX6_list (wsV RX6 203 RX2 yX2_forceBehindAll wsX2_forceBehindAll) := goodIn_app (goodIn_of _ (by decide +kernel)) ggX6_list_X2_forceBehindAll
theorem dX6_list_0 : decode cX6_list 0 = .ok (.aload_n 0, 1) := by decide +kernel
theorem dX6_list_1 : decode cX6_list 1 = .ok (.getfield 26, 3) := by decide +kernel
theorem dX6_list_4 : decode cX6_list 4 = .ok (.getfield 127, 3) := by decide +kernel
theorem dX6_list_7 : decode cX6_list 7 = .ok (.ifCond .ne 6, 3) := by decide +kernel
theorem dX6_list_10 : decode cX6_list 10 = .ok (.ldc 133, 2) := by decide +kernel
theorem dX6_list_12 : decode cX6_list 12 = .ok (.ireturn, 1) := by decide +kernel
theorem dX6_list_13 : decode cX6_list 13 = .ok (.iload_n 1, 1) := by decide +kernel
theorem dX6_list_14 : decode cX6_list 14 = .ok (.iconst 0, 1) := by decide +kernel
theorem dX6_list_15 : decode cX6_list 15 = .ok (.bipush 60, 2) := by decide +kernel
theorem dX6_list_17 : decode cX6_list 17 = .ok (.invokestatic 60, 3) := by decide +kernel
theorem dX6_list_20 : decode cX6_list 20 = .ok (.ifCond .ne 12, 3) := by decide +kernel
theorem dX6_list_23 : decode cX6_list 23 = .ok (.iload_n 2, 1) := by decide +kernel
theorem dX6_list_24 : decode cX6_list 24 = .ok (.iconst 0, 1) := by decide +kernel
theorem dX6_list_25 : decode cX6_list 25 = .ok (.iconst 1, 1) := by decide +kernel
theorem dX6_list_26 : decode cX6_list 26 = .ok (.invokestatic 60, 3) := by decide +kernel
theorem dX6_list_29 : decode cX6_list 29 = .ok (.ifCond .eq 6, 3) := by decide +kernel
theorem dX6_list_32 : decode cX6_list 32 = .ok (.ldc 64, 2) := by decide +kernel
theorem dX6_list_34 : decode cX6_list 34 = .ok (.ireturn, 1) := by decide +kernel
theorem dX6_list_35 : decode cX6_list 35 = .ok (.ldc 193, 2) := by decide +kernel
theorem dX6_list_37 : decode cX6_list 37 = .ok (.istore_n 3, 1) := by decide +kernel
theorem dX6_list_38 : decode cX6_list 38 = .ok (.ldc 193, 2) := by decide +kernel
theorem dX6_list_40 : decode cX6_list 40 = .ok (.istore 4, 2) := by decide +kernel
theorem dX6_list_42 : decode cX6_list 42 = .ok (.iconst 0, 1) := by decide +kernel
theorem dX6_list_43 : decode cX6_list 43 = .ok (.istore 5, 2) := by decide +kernel
theorem dX6_list_45 : decode cX6_list 45 = .ok (.iload 5, 2) := by decide +kernel
theorem dX6_list_47 : decode cX6_list 47 = .ok (.iconst 1, 1) := by decide +kernel
theorem dX6_list_48 : decode cX6_list 48 = .ok (.aload_n 0, 1) := by decide +kernel
theorem dX6_list_49 : decode cX6_list 49 = .ok (.getfield 26, 3) := by decide +kernel
theorem dX6_list_52 : decode cX6_list 52 = .ok (.getfield 127, 3) := by decide +kernel
theorem dX6_list_55 : decode cX6_list 55 = .ok (.ishl, 1) := by decide +kernel
theorem dX6_list_56 : decode cX6_list 56 = .ok (.if_icmp .ge 48, 3) := by decide +kernel
theorem dX6_list_59 : decode cX6_list 59 = .ok (.iload 5, 2) := by decide +kernel
theorem dX6_list_61 : decode cX6_list 61 = .ok (.invokestatic 198, 3) := by decide +kernel
theorem dX6_list_64 : decode cX6_list 64 = .ok (.istore 6, 2) := by decide +kernel
theorem dX6_list_66 : decode cX6_list 66 = .ok (.iload_n 3, 1) := by decide +kernel
theorem dX6_list_67 : decode cX6_list 67 = .ok (.ldc 193, 2) := by decide +kernel
theorem dX6_list_69 : decode cX6_list 69 = .ok (.if_icmp .eq 9, 3) := by decide +kernel
theorem dX6_list_72 : decode cX6_list 72 = .ok (.iload 6, 2) := by decide +kernel
theorem dX6_list_74 : decode cX6_list 74 = .ok (.iload_n 3, 1) := by decide +kernel
theorem dX6_list_75 : decode cX6_list 75 = .ok (.if_icmp .ge 23, 3) := by decide +kernel
theorem dX6_list_78 : decode cX6_list 78 = .ok (.aload_n 0, 1) := by decide +kernel
theorem dX6_list_79 : decode cX6_list 79 = .ok (.getfield 26, 3) := by decide +kernel
theorem dX6_list_82 : decode cX6_list 82 = .ok (.iload 5, 2) := by decide +kernel
theorem dX6_list_84 : decode cX6_list 84 = .ok (.invokevirtual 203, 3) := by decide +kernel
theorem dX6_list_87 : decode cX6_list 87 = .ok (.iload_n 1, 1) := by decide +kernel
theorem dX6_list_88 : decode cX6_list 88 = .ok (.if_icmp .gt 10, 3) := by decide +kernel
theorem dX6_list_91 : decode cX6_list 91 = .ok (.iload 6, 2) := by decide +kernel
theorem dX6_list_93 : decode cX6_list 93 = .ok (.istore_n 3, 1) := by decide +kernel
theorem dX6_list_94 : decode cX6_list 94 = .ok (.iload 5, 2) := by decide +kernel
theorem dX6_list_96 : decode cX6_list 96 = .ok (.istore 4, 2) := by decide +kernel
theorem dX6_list_98 : decode cX6_list 98 = .ok (.iinc 5 1, 3) := by decide +kernel
theorem dX6_list_101 : decode cX6_list 101 = .ok (.goto (-56), 3) := by decide +kernel
theorem dX6_list_104 : decode cX6_list 104 = .ok (.iload_n 2, 1) := by decide +kernel
theorem dX6_list_105 : decode cX6_list 105 = .ok (.ifCond .ne 7, 3) := by decide +kernel
theorem dX6_list_108 : decode cX6_list 108 = .ok (.iload_n 3, 1) := by decide +kernel
theorem dX6_list_109 : decode cX6_list 109 = .ok (.goto 5, 3) := by decide +kernel
theorem dX6_list_112 : decode cX6_list 112 = .ok (.iload 4, 2) := by decide +kernel
theorem dX6_list_114 : decode cX6_list 114 = .ok (.ireturn, 1) := by decide +kernel
set_option maxRecDepth 20000 in
theorem ggX6_order_X3_seek : GoodIn wsX6_order wsX3_seek := goodIn_r _ [14, 15, 16, 17, 18, 19, 20, 21, 22, 23, 24, 25, 13, 26, 27, 28, 29, 30, 31, 32, 33, 34, 35, 36, 37, 38, 39, 40, 41, 42, 43, 44, 45, 46, 47, 48, 49, 50, 51, 52, 53, 54, 55, 56, 57, 58, 59, 60, 61, 62, 63, 64, 85, 86, 87, 88, 89, 75, 76, 77, 78, 79, 80, 81, 82, 83, 84] (by decide +kernel) (by decide +kernel)
set_option maxRecDepth 20000 in
theorem gX6_order_X3_seek : GoodIn wsX6_order (wsV RX6 206 RX3 yX3_seek wsX3_seek) := goodIn_app (goodIn_of _ (by decide +kernel)) ggX6_order_X3_seek
theorem dX6_order_0 : decode cX6_order 0 = .ok (.aload_n 0, 1) := by decide +kernel
theorem dX6_order_1 : decode cX6_order 1 = .ok (.getfield 26, 3) := by decide +kernel
theorem dX6_order_4 : decode cX6_order 4 = .ok (.getfield 127, 3) := by decide +kernel
theorem dX6_order_7 : decode cX6_order 7 = .ok (.ifCond .ne 6, 3) := by decide +kernel
theorem dX6_order_10 : decode cX6_order 10 = .ok (.ldc 133, 2) := by decide +kernel
theorem dX6_order_12 : decode cX6_order 12 = .ok (.ireturn, 1) := by decide +kernel
theorem dX6_order_13 : decode cX6_order 13 = .ok (.iload_n 1, 1) := by decide +kernel
theorem dX6_order_14 : decode cX6_order 14 = .ok (.iconst (-1), 1) := by decide +kernel
theorem dX6_order_15 : decode cX6_order 15 = .ok (.if_icmp .ge 6, 3) := by decide +kernel
theorem dX6_order_18 : decode cX6_order 18 = .ok (.ldc 64, 2) := by decide +kernel
theorem dX6_order_20 : decode cX6_order 20 = .ok (.ireturn, 1) := by decide +kernel
theorem dX6_order_21 : decode cX6_order 21 = .ok (.aload_n 0, 1) := by decide +kernel
theorem dX6_order_22 : decode cX6_order 22 = .ok (.getfield 49, 3) := by decide +kernel
theorem dX6_order_25 : decode cX6_order 25 = .ok (.aload_n 0, 1) := by decide +kernel
theorem dX6_order_26 : decode cX6_order 26 = .ok (.getfield 26, 3) := by decide +kernel
theorem dX6_order_29 : decode cX6_order 29 = .ok (.invokevirtual 206, 3) := by decide +kernel
theorem dX6_order_32 : decode cX6_order 32 = .ok (.iload_n 1, 1) := by decide +kernel
theorem dX6_order_33 : decode cX6_order 33 = .ok (.iconst (-1), 1) := by decide +kernel
theorem dX6_order_34 : decode cX6_order 34 = .ok (.if_icmp .ne 11, 3) := by decide +kernel
theorem dX6_order_37 : decode cX6_order 37 = .ok (.aload_n 0, 1) := by decide +kernel
theorem dX6_order_38 : decode cX6_order 38 = .ok (.getfield 49, 3) := by decide +kernel
theorem dX6_order_41 : decode cX6_order 41 = .ok (.getfield 209, 3) := by decide +kernel
theorem dX6_order_44 : decode cX6_order 44 = .ok (.ireturn, 1) := by decide +kernel
theorem dX6_order_45 : decode cX6_order 45 = .ok (.iload_n 1, 1) := by decide +kernel
theorem dX6_order_46 : decode cX6_order 46 = .ok (.aload_n 0, 1) := by decide +kernel
theorem dX6_order_47 : decode cX6_order 47 = .ok (.getfield 49, 3) := by decide +kernel
theorem dX6_order_50 : decode cX6_order 50 = .ok (.getfield 212, 3) := by decide +kernel
theorem dX6_order_53 : decode cX6_order 53 = .ok (.if_icmp .ge 15, 3) := by decide +kernel
theorem dX6_order_56 : decode cX6_order 56 = .ok (.aload_n 0, 1) := by decide +kernel
theorem dX6_order_57 : decode cX6_order 57 = .ok (.getfield 49, 3) := by decide +kernel
theorem dX6_order_60 : decode cX6_order 60 = .ok (.getfield 213, 3) := by decide +kernel
theorem dX6_order_63 : decode cX6_order 63 = .ok (.iload_n 1, 1) := by decide +kernel
theorem dX6_order_64 : decode cX6_order 64 = .ok (.iaload, 1) := by decide +kernel
theorem dX6_order_65 : decode cX6_order 65 = .ok (.goto 5, 3) := by decide +kernel
theorem dX6_order_68 : decode cX6_order 68 = .ok (.ldc 193, 2) := by decide +kernel
theorem dX6_order_70 : decode cX6_order 70 = .ok (.ireturn, 1) := by decide +kernel
set_option maxRecDepth 20000 in
theorem ggX6_named_X6_outside : GoodIn wsX6_named wsX6_outside := goodIn_r _ [9] (by decide +kernel) (by decide +kernel)
set_option maxRecDepth 20000 in
theorem gX6_named_X6_outside : GoodIn wsX6_named (va_wsS RX6 60 yX6_outside wsX6_outside) := goodIn_app (goodIn_of _ (by decide +kernel)) ggX6_named_X6_outside
set_option maxRecDepth 20000 in
theorem ggX6_named_X6_lostIn : GoodIn wsX6_named wsX6_lostIn := goodIn_r _ [13, 14, 1, 15, 5, 16, 17, 18, 19, 20, 21, 22, 23, 24, 25, 26, 27, 28, 29, 30, 31, 32, 33, 34, 35, 36, 37, 38, 39, 40, 41, 42, 43, 44, 45, 46, 47, 48, 49, 50, 51, 52, 53, 54, 55, 56, 57, 58, 59, 60, 61, 62, 63, 64, 65, 66, 67, 68, 69, 70, 71, 72, 73, 74, 75, 76, 77, 78, 79, 80, 81, 82] (by decide +kernel) (by decide +kernel)
set_option maxRecDepth 20000 in
theorem gX6_named_X6_lostIn : GoodIn wsX6_named (wsV RX6 216 RX6 yX6_lostIn wsX6_lostIn) := goodIn_app (goodIn_of _ (by decide +kernel)) ggX6_named_X6_lostIn
theorem dX6_named_0 : decode cX6_named 0 = .ok (.aload_n 0, 1) := by decide +kernel
theorem dX6_named_1 : decode cX6_named 1 = .ok (.getfield 26, 3) := by decide +kernel
theorem dX6_named_4 : decode cX6_named 4 = .ok (.getfield 127, 3) := by decide +kernel
theorem dX6_named_7 : decode cX6_named 7 = .ok (.ifCond .ne 6, 3) := by decide +kernel
theorem dX6_named_10 : decode cX6_named 10 = .ok (.ldc 133, 2) := by decide +kernel
theorem dX6_named_12 : decode cX6_named 12 = .ok (.ireturn, 1) := by decide +kernel
theorem dX6_named_13 : decode cX6_named 13 = .ok (.iload_n 1, 1) := by decide +kernel
theorem dX6_named_14 : decode cX6_named 14 = .ok (.iconst 1, 1) := by decide +kernel
theorem dX6_named_15 : decode cX6_named 15 = .ok (.bipush 30, 2) := by decide +kernel
theorem dX6_named_17 : decode cX6_named 17 = .ok (.invokestatic 60, 3) := by decide +kernel
theorem dX6_named_20 : decode cX6_named 20 = .ok (.ifCond .ne 12, 3) := by decide +kernel
theorem dX6_named_23 : decode cX6_named 23 = .ok (.iload_n 2, 1) := by decide +kernel
theorem dX6_named_24 : decode cX6_named 24 = .ok (.iconst 0, 1) := by decide +kernel
theorem dX6_named_25 : decode cX6_named 25 = .ok (.iconst 1, 1) := by decide +kernel
theorem dX6_named_26 : decode cX6_named 26 = .ok (.invokestatic 60, 3) := by decide +kernel
theorem dX6_named_29 : decode cX6_named 29 = .ok (.ifCond .eq 6, 3) := by decide +kernel
theorem dX6_named_32 : decode cX6_named 32 = .ok (.ldc 64, 2) := by decide +kernel
theorem dX6_named_34 : decode cX6_named 34 = .ok (.ireturn, 1) := by decide +kernel
theorem dX6_named_35 : decode cX6_named 35 = .ok (.aload_n 0, 1) := by decide +kernel
theorem dX6_named_36 : decode cX6_named 36 = .ok (.iload_n 1, 1) := by decide +kernel
theorem dX6_named_37 : decode cX6_named 37 = .ok (.ldc 193, 2) := by decide +kernel
theorem dX6_named_39 : decode cX6_named 39 = .ok (.invokevirtual 216, 3) := by decide +kernel
theorem dX6_named_42 : decode cX6_named 42 = .ok (.istore_n 3, 1) := by decide +kernel
theorem dX6_named_43 : decode cX6_named 43 = .ok (.ldc 193, 2) := by decide +kernel
theorem dX6_named_45 : decode cX6_named 45 = .ok (.istore 4, 2) := by decide +kernel
theorem dX6_named_47 : decode cX6_named 47 = .ok (.iconst 0, 1) := by decide +kernel
theorem dX6_named_48 : decode cX6_named 48 = .ok (.istore 5, 2) := by decide +kernel
theorem dX6_named_50 : decode cX6_named 50 = .ok (.iload 5, 2) := by decide +kernel
theorem dX6_named_52 : decode cX6_named 52 = .ok (.aload_n 0, 1) := by decide +kernel
theorem dX6_named_53 : decode cX6_named 53 = .ok (.getfield 26, 3) := by decide +kernel
theorem dX6_named_56 : decode cX6_named 56 = .ok (.getfield 127, 3) := by decide +kernel
theorem dX6_named_59 : decode cX6_named 59 = .ok (.if_icmp .ge 31, 3) := by decide +kernel
theorem dX6_named_62 : decode cX6_named 62 = .ok (.aload_n 0, 1) := by decide +kernel
theorem dX6_named_63 : decode cX6_named 63 = .ok (.iload_n 1, 1) := by decide +kernel
theorem dX6_named_64 : decode cX6_named 64 = .ok (.iload 5, 2) := by decide +kernel
theorem dX6_named_66 : decode cX6_named 66 = .ok (.invokevirtual 216, 3) := by decide +kernel
theorem dX6_named_69 : decode cX6_named 69 = .ok (.istore 6, 2) := by decide +kernel
theorem dX6_named_71 : decode cX6_named 71 = .ok (.iload 6, 2) := by decide +kernel
theorem dX6_named_73 : decode cX6_named 73 = .ok (.iload_n 3, 1) := by decide +kernel
theorem dX6_named_74 : decode cX6_named 74 = .ok (.if_icmp .ge 10, 3) := by decide +kernel
theorem dX6_named_77 : decode cX6_named 77 = .ok (.iload 6, 2) := by decide +kernel
theorem dX6_named_79 : decode cX6_named 79 = .ok (.istore_n 3, 1) := by decide +kernel
theorem dX6_named_80 : decode cX6_named 80 = .ok (.iload 5, 2) := by decide +kernel
theorem dX6_named_82 : decode cX6_named 82 = .ok (.istore 4, 2) := by decide +kernel
theorem dX6_named_84 : decode cX6_named 84 = .ok (.iinc 5 1, 3) := by decide +kernel
theorem dX6_named_87 : decode cX6_named 87 = .ok (.goto (-37), 3) := by decide +kernel
theorem dX6_named_90 : decode cX6_named 90 = .ok (.iload_n 2, 1) := by decide +kernel
theorem dX6_named_91 : decode cX6_named 91 = .ok (.ifCond .eq 10, 3) := by decide +kernel
theorem dX6_named_94 : decode cX6_named 94 = .ok (.iload 4, 2) := by decide +kernel
theorem dX6_named_96 : decode cX6_named 96 = .ok (.ldc 193, 2) := by decide +kernel
theorem dX6_named_98 : decode cX6_named 98 = .ok (.if_icmp .ne 8, 3) := by decide +kernel
theorem dX6_named_101 : decode cX6_named 101 = .ok (.iload 4, 2) := by decide +kernel
theorem dX6_named_103 : decode cX6_named 103 = .ok (.goto 4, 3) := by decide +kernel
theorem dX6_named_106 : decode cX6_named 106 = .ok (.iload_n 3, 1) := by decide +kernel
theorem dX6_named_107 : decode cX6_named 107 = .ok (.ireturn, 1) := by decide +kernel
set_option maxRecDepth 20000 in
theorem ggX6_premium_X6_noSoul : GoodIn wsX6_premium wsX6_noSoul := goodIn_r _ [9, 2, 4, 10, 11, 8, 12, 20, 21, 22, 23, 24, 25, 26, 27, 28, 29, 30, 31, 32, 33, 34, 35, 36, 37, 38, 39] (by decide +kernel) (by decide +kernel)
set_option maxRecDepth 20000 in
theorem gX6_premium_X6_noSoul : GoodIn wsX6_premium (wsV RX6 146 RX6 yX6_noSoul wsX6_noSoul) := goodIn_app (goodIn_of _ (by decide +kernel)) ggX6_premium_X6_noSoul
set_option maxRecDepth 20000 in
theorem ggX6_premium_X6_outside : GoodIn wsX6_premium wsX6_outside := goodIn_r _ [12] (by decide +kernel) (by decide +kernel)
set_option maxRecDepth 20000 in
theorem gX6_premium_X6_outside : GoodIn wsX6_premium (va_wsS RX6 60 yX6_outside wsX6_outside) := goodIn_app (goodIn_of _ (by decide +kernel)) ggX6_premium_X6_outside
set_option maxRecDepth 20000 in
theorem ggX6_premium_X2_allRoofs : GoodIn wsX6_premium wsX2_allRoofs := goodIn_r _ [17, 18, 19, 30, 31, 32, 33, 34, 35, 36, 37, 38, 39] (by decide +kernel) (by decide +kernel)
set_option maxRecDepth 20000 in
theorem gX6_premium_X2_allRoofs : GoodIn wsX6_premium (wsV RX6 219 RX2 yX2_allRoofs wsX2_allRoofs) := goodIn_app (goodIn_of _ (by decide +kernel)) ggX6_premium_X2_allRoofs
theorem dX6_premium_0 : decode cX6_premium 0 = .ok (.aload_n 0, 1) := by decide +kernel
theorem dX6_premium_1 : decode cX6_premium 1 = .ok (.iload_n 1, 1) := by decide +kernel
theorem dX6_premium_2 : decode cX6_premium 2 = .ok (.invokevirtual 146, 3) := by decide +kernel
theorem dX6_premium_5 : decode cX6_premium 5 = .ok (.ifCond .ne 14, 3) := by decide +kernel
theorem dX6_premium_8 : decode cX6_premium 8 = .ok (.iload_n 2, 1) := by decide +kernel
theorem dX6_premium_9 : decode cX6_premium 9 = .ok (.iconst 0, 1) := by decide +kernel
theorem dX6_premium_10 : decode cX6_premium 10 = .ok (.sipush 999, 3) := by decide +kernel
theorem dX6_premium_13 : decode cX6_premium 13 = .ok (.invokestatic 60, 3) := by decide +kernel
theorem dX6_premium_16 : decode cX6_premium 16 = .ok (.ifCond .eq 6, 3) := by decide +kernel
theorem dX6_premium_19 : decode cX6_premium 19 = .ok (.ldc 64, 2) := by decide +kernel
theorem dX6_premium_21 : decode cX6_premium 21 = .ok (.ireturn, 1) := by decide +kernel
theorem dX6_premium_22 : decode cX6_premium 22 = .ok (.aload_n 0, 1) := by decide +kernel
theorem dX6_premium_23 : decode cX6_premium 23 = .ok (.getfield 26, 3) := by decide +kernel
theorem dX6_premium_26 : decode cX6_premium 26 = .ok (.invokevirtual 219, 3) := by decide +kernel
theorem dX6_premium_29 : decode cX6_premium 29 = .ok (.istore_n 3, 1) := by decide +kernel
theorem dX6_premium_30 : decode cX6_premium 30 = .ok (.iload_n 3, 1) := by decide +kernel
theorem dX6_premium_31 : decode cX6_premium 31 = .ok (.ifCond .eq 15, 3) := by decide +kernel
theorem dX6_premium_34 : decode cX6_premium 34 = .ok (.aload_n 0, 1) := by decide +kernel
theorem dX6_premium_35 : decode cX6_premium 35 = .ok (.getfield 26, 3) := by decide +kernel
theorem dX6_premium_38 : decode cX6_premium 38 = .ok (.getfield 154, 3) := by decide +kernel
theorem dX6_premium_41 : decode cX6_premium 41 = .ok (.iload_n 1, 1) := by decide +kernel
theorem dX6_premium_42 : decode cX6_premium 42 = .ok (.iaload, 1) := by decide +kernel
theorem dX6_premium_43 : decode cX6_premium 43 = .ok (.ifCond .ne 5, 3) := by decide +kernel
theorem dX6_premium_46 : decode cX6_premium 46 = .ok (.iconst 0, 1) := by decide +kernel
theorem dX6_premium_47 : decode cX6_premium 47 = .ok (.ireturn, 1) := by decide +kernel
theorem dX6_premium_48 : decode cX6_premium 48 = .ok (.iload_n 2, 1) := by decide +kernel
theorem dX6_premium_49 : decode cX6_premium 49 = .ok (.istore 4, 2) := by decide +kernel
theorem dX6_premium_51 : decode cX6_premium 51 = .ok (.iconst 0, 1) := by decide +kernel
theorem dX6_premium_52 : decode cX6_premium 52 = .ok (.istore 5, 2) := by decide +kernel
theorem dX6_premium_54 : decode cX6_premium 54 = .ok (.iconst 0, 1) := by decide +kernel
theorem dX6_premium_55 : decode cX6_premium 55 = .ok (.istore 6, 2) := by decide +kernel
theorem dX6_premium_57 : decode cX6_premium 57 = .ok (.iload 6, 2) := by decide +kernel
theorem dX6_premium_59 : decode cX6_premium 59 = .ok (.aload_n 0, 1) := by decide +kernel
theorem dX6_premium_60 : decode cX6_premium 60 = .ok (.getfield 26, 3) := by decide +kernel
theorem dX6_premium_63 : decode cX6_premium 63 = .ok (.getfield 127, 3) := by decide +kernel
theorem dX6_premium_66 : decode cX6_premium 66 = .ok (.if_icmp .ge 50, 3) := by decide +kernel
theorem dX6_premium_69 : decode cX6_premium 69 = .ok (.iload 4, 2) := by decide +kernel
theorem dX6_premium_71 : decode cX6_premium 71 = .ok (.iload_n 2, 1) := by decide +kernel

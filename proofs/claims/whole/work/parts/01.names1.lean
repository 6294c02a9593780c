set_option maxRecDepth 20000 in
theorem ggX0_init_X2_init : GoodIn wsX0_init wsX2_init := goodIn_r _ [9, 10, 2, 3, 11, 12, 13, 14, 18, 19, 20, 21, 22, 23, 24, 25, 26, 27] (by decide +kernel) (by decide +kernel)
set_option maxRecDepth 20000 in
theorem gX0_init_X2_init_n17 : GoodIn wsX0_init (wsX2_init) := ggX0_init_X2_init
theorem dX0_init_0 : decode cX0_init 0 = .ok (.aload_n 0, 1) := by decide +kernel
theorem dX0_init_1 : decode cX0_init 1 = .ok (.invokespecial 3, 3) := by decide +kernel
theorem dX0_init_4 : decode cX0_init 4 = .ok (.aload_n 0, 1) := by decide +kernel
theorem dX0_init_5 : decode cX0_init 5 = .ok (.bipush 24, 2) := by decide +kernel
theorem dX0_init_7 : decode cX0_init 7 = .ok (.anewarray 9, 3) := by decide +kernel
theorem dX0_init_10 : decode cX0_init 10 = .ok (.putfield 11, 3) := by decide +kernel
theorem dX0_init_13 : decode cX0_init 13 = .ok (.iconst 0, 1) := by decide +kernel
theorem dX0_init_14 : decode cX0_init 14 = .ok (.istore_n 1, 1) := by decide +kernel
theorem dX0_init_15 : decode cX0_init 15 = .ok (.iload_n 1, 1) := by decide +kernel
theorem dX0_init_16 : decode cX0_init 16 = .ok (.bipush 24, 2) := by decide +kernel
theorem dX0_init_18 : decode cX0_init 18 = .ok (.if_icmp .ge 22, 3) := by decide +kernel
theorem dX0_init_21 : decode cX0_init 21 = .ok (.aload_n 0, 1) := by decide +kernel
theorem dX0_init_22 : decode cX0_init 22 = .ok (.getfield 11, 3) := by decide +kernel
theorem dX0_init_25 : decode cX0_init 25 = .ok (.iload_n 1, 1) := by decide +kernel
theorem dX0_init_26 : decode cX0_init 26 = .ok (.new 9, 3) := by decide +kernel
theorem dX0_init_29 : decode cX0_init 29 = .ok (.dup, 1) := by decide +kernel
theorem dX0_init_30 : decode cX0_init 30 = .ok (.invokespecial 17, 3) := by decide +kernel
theorem dX0_init_33 : decode cX0_init 33 = .ok (.aastore, 1) := by decide +kernel
theorem dX0_init_34 : decode cX0_init 34 = .ok (.iinc 1 1, 3) := by decide +kernel
theorem dX0_init_37 : decode cX0_init 37 = .ok (.goto (-22), 3) := by decide +kernel
theorem dX0_init_40 : decode cX0_init 40 = .ok (.return_, 1) := by decide +kernel
set_option maxRecDepth 20000 in
theorem ggX0_keep_X2_take : GoodIn wsX0_keep wsX2_take := goodIn_r _ [12, 13, 14, 15, 16, 17, 18, 19, 20, 21, 22, 23, 24, 25, 26, 30, 31, 32, 33, 34, 35, 36, 37, 38, 39] (by decide +kernel) (by decide +kernel)
set_option maxRecDepth 20000 in
theorem gX0_keep_X2_take : GoodIn wsX0_keep (wsV RX0 22 RX2 yX2_take wsX2_take) := goodIn_app (goodIn_of _ (by decide +kernel)) ggX0_keep_X2_take
theorem dX0_keep_0 : decode cX0_keep 0 = .ok (.aload_n 0, 1) := by decide +kernel
theorem dX0_keep_1 : decode cX0_keep 1 = .ok (.getfield 11, 3) := by decide +kernel
theorem dX0_keep_4 : decode cX0_keep 4 = .ok (.aload_n 0, 1) := by decide +kernel
theorem dX0_keep_5 : decode cX0_keep 5 = .ok (.getfield 18, 3) := by decide +kernel
theorem dX0_keep_8 : decode cX0_keep 8 = .ok (.aaload, 1) := by decide +kernel
theorem dX0_keep_9 : decode cX0_keep 9 = .ok (.aload_n 1, 1) := by decide +kernel
theorem dX0_keep_10 : decode cX0_keep 10 = .ok (.invokevirtual 22, 3) := by decide +kernel
theorem dX0_keep_13 : decode cX0_keep 13 = .ok (.aload_n 0, 1) := by decide +kernel
theorem dX0_keep_14 : decode cX0_keep 14 = .ok (.aload_n 0, 1) := by decide +kernel
theorem dX0_keep_15 : decode cX0_keep 15 = .ok (.getfield 18, 3) := by decide +kernel
theorem dX0_keep_18 : decode cX0_keep 18 = .ok (.iconst 1, 1) := by decide +kernel
theorem dX0_keep_19 : decode cX0_keep 19 = .ok (.iadd, 1) := by decide +kernel
theorem dX0_keep_20 : decode cX0_keep 20 = .ok (.bipush 24, 2) := by decide +kernel
theorem dX0_keep_22 : decode cX0_keep 22 = .ok (.irem, 1) := by decide +kernel
theorem dX0_keep_23 : decode cX0_keep 23 = .ok (.putfield 18, 3) := by decide +kernel
theorem dX0_keep_26 : decode cX0_keep 26 = .ok (.aload_n 0, 1) := by decide +kernel
theorem dX0_keep_27 : decode cX0_keep 27 = .ok (.bipush 24, 2) := by decide +kernel
theorem dX0_keep_29 : decode cX0_keep 29 = .ok (.aload_n 0, 1) := by decide +kernel
theorem dX0_keep_30 : decode cX0_keep 30 = .ok (.getfield 26, 3) := by decide +kernel
theorem dX0_keep_33 : decode cX0_keep 33 = .ok (.iconst 1, 1) := by decide +kernel
theorem dX0_keep_34 : decode cX0_keep 34 = .ok (.iadd, 1) := by decide +kernel
theorem dX0_keep_35 : decode cX0_keep 35 = .ok (.invokestatic 29, 3) := by decide +kernel
theorem dX0_keep_38 : decode cX0_keep 38 = .ok (.putfield 26, 3) := by decide +kernel
theorem dX0_keep_41 : decode cX0_keep 41 = .ok (.return_, 1) := by decide +kernel
set_option maxRecDepth 20000 in
theorem ggX0_giveBack_X2_take : GoodIn wsX0_giveBack wsX2_take := goodIn_r _ [8, 9, 10, 11, 12, 13, 14, 15, 16, 17, 18, 19, 20, 21, 22, 26, 27, 28, 29, 30, 31, 32, 33, 34, 35] (by decide +kernel) (by decide +kernel)
set_option maxRecDepth 20000 in
theorem gX0_giveBack_X2_take : GoodIn wsX0_giveBack (wsV RX0 22 RX2 yX2_take wsX2_take) := goodIn_app (goodIn_of _ (by decide +kernel)) ggX0_giveBack_X2_take
theorem dX0_giveBack_0 : decode cX0_giveBack 0 = .ok (.aload_n 0, 1) := by decide +kernel
theorem dX0_giveBack_1 : decode cX0_giveBack 1 = .ok (.getfield 26, 3) := by decide +kernel
theorem dX0_giveBack_4 : decode cX0_giveBack 4 = .ok (.ifCond .ne 4, 3) := by decide +kernel
theorem dX0_giveBack_7 : decode cX0_giveBack 7 = .ok (.return_, 1) := by decide +kernel
theorem dX0_giveBack_8 : decode cX0_giveBack 8 = .ok (.aload_n 0, 1) := by decide +kernel
theorem dX0_giveBack_9 : decode cX0_giveBack 9 = .ok (.aload_n 0, 1) := by decide +kernel
theorem dX0_giveBack_10 : decode cX0_giveBack 10 = .ok (.getfield 18, 3) := by decide +kernel
theorem dX0_giveBack_13 : decode cX0_giveBack 13 = .ok (.bipush 24, 2) := by decide +kernel
theorem dX0_giveBack_15 : decode cX0_giveBack 15 = .ok (.iadd, 1) := by decide +kernel
theorem dX0_giveBack_16 : decode cX0_giveBack 16 = .ok (.iconst 1, 1) := by decide +kernel
theorem dX0_giveBack_17 : decode cX0_giveBack 17 = .ok (.isub, 1) := by decide +kernel
theorem dX0_giveBack_18 : decode cX0_giveBack 18 = .ok (.bipush 24, 2) := by decide +kernel
theorem dX0_giveBack_20 : decode cX0_giveBack 20 = .ok (.irem, 1) := by decide +kernel
theorem dX0_giveBack_21 : decode cX0_giveBack 21 = .ok (.putfield 18, 3) := by decide +kernel
theorem dX0_giveBack_24 : decode cX0_giveBack 24 = .ok (.aload_n 0, 1) := by decide +kernel
theorem dX0_giveBack_25 : decode cX0_giveBack 25 = .ok (.dup, 1) := by decide +kernel
theorem dX0_giveBack_26 : decode cX0_giveBack 26 = .ok (.getfield 26, 3) := by decide +kernel
theorem dX0_giveBack_29 : decode cX0_giveBack 29 = .ok (.iconst 1, 1) := by decide +kernel
theorem dX0_giveBack_30 : decode cX0_giveBack 30 = .ok (.isub, 1) := by decide +kernel
theorem dX0_giveBack_31 : decode cX0_giveBack 31 = .ok (.putfield 26, 3) := by decide +kernel
theorem dX0_giveBack_34 : decode cX0_giveBack 34 = .ok (.aload_n 1, 1) := by decide +kernel
theorem dX0_giveBack_35 : decode cX0_giveBack 35 = .ok (.aload_n 0, 1) := by decide +kernel
theorem dX0_giveBack_36 : decode cX0_giveBack 36 = .ok (.getfield 11, 3) := by decide +kernel
theorem dX0_giveBack_39 : decode cX0_giveBack 39 = .ok (.aload_n 0, 1) := by decide +kernel
theorem dX0_giveBack_40 : decode cX0_giveBack 40 = .ok (.getfield 18, 3) := by decide +kernel
theorem dX0_giveBack_43 : decode cX0_giveBack 43 = .ok (.aaload, 1) := by decide +kernel
theorem dX0_giveBack_44 : decode cX0_giveBack 44 = .ok (.invokevirtual 22, 3) := by decide +kernel
theorem dX0_giveBack_47 : decode cX0_giveBack 47 = .ok (.return_, 1) := by decide +kernel
theorem dX0_forget_0 : decode cX0_forget 0 = .ok (.aload_n 0, 1) := by decide +kernel
theorem dX0_forget_1 : decode cX0_forget 1 = .ok (.iconst 0, 1) := by decide +kernel
theorem dX0_forget_2 : decode cX0_forget 2 = .ok (.putfield 26, 3) := by decide +kernel
theorem dX0_forget_5 : decode cX0_forget 5 = .ok (.return_, 1) := by decide +kernel
theorem dX1_init_0 : decode cX1_init 0 = .ok (.aload_n 0, 1) := by decide +kernel
theorem dX1_init_1 : decode cX1_init 1 = .ok (.invokespecial 3, 3) := by decide +kernel
theorem dX1_init_4 : decode cX1_init 4 = .ok (.aload_n 0, 1) := by decide +kernel
theorem dX1_init_5 : decode cX1_init 5 = .ok (.bipush 16, 2) := by decide +kernel
theorem dX1_init_7 : decode cX1_init 7 = .ok (.newarray .int, 2) := by decide +kernel
theorem dX1_init_9 : decode cX1_init 9 = .ok (.putfield 9, 3) := by decide +kernel
theorem dX1_init_12 : decode cX1_init 12 = .ok (.return_, 1) := by decide +kernel
set_option maxRecDepth 20000 in
theorem ggX1_answer_X1_sizeBody : GoodIn wsX1_answer wsX1_sizeBody := goodIn_r _ [6] (by decide +kernel) (by decide +kernel)
set_option maxRecDepth 20000 in
theorem gX1_answer_X1_sizeBody : GoodIn wsX1_answer (va_wsS RX1 24 yX1_sizeBody wsX1_sizeBody) := goodIn_app (goodIn_of _ (by decide +kernel)) ggX1_answer_X1_sizeBody
set_option maxRecDepth 20000 in
theorem ggX1_answer_X1_markBody : GoodIn wsX1_answer wsX1_markBody := goodIn_r _ [9] (by decide +kernel) (by decide +kernel)
set_option maxRecDepth 20000 in
theorem gX1_answer_X1_markBody : GoodIn wsX1_answer (va_wsS RX1 28 yX1_markBody wsX1_markBody) := goodIn_app (goodIn_of _ (by decide +kernel)) ggX1_answer_X1_markBody
set_option maxRecDepth 20000 in
theorem ggX1_answer_X1_begin : GoodIn wsX1_answer wsX1_begin := goodIn_r _ [13, 14, 2, 15, 16, 17, 18, 5, 19, 1, 20, 10, 11, 12, 7, 8, 9, 3, 4, 6, 23, 24, 25, 26, 27, 28, 29, 30, 31, 32, 21, 22] (by decide +kernel) (by decide +kernel)
set_option maxRecDepth 20000 in
theorem gX1_answer_X1_begin : GoodIn wsX1_answer (wsV RX1 31 RX1 yX1_begin wsX1_begin) := goodIn_app (goodIn_of _ (by decide +kernel)) ggX1_answer_X1_begin
theorem dX1_answer_0 : decode cX1_answer 0 = .ok (.aload_n 0, 1) := by decide +kernel
theorem dX1_answer_1 : decode cX1_answer 1 = .ok (.iconst 0, 1) := by decide +kernel
theorem dX1_answer_2 : decode cX1_answer 2 = .ok (.putfield 15, 3) := by decide +kernel
theorem dX1_answer_5 : decode cX1_answer 5 = .ok (.aload_n 1, 1) := by decide +kernel
theorem dX1_answer_6 : decode cX1_answer 6 = .ok (.getfield 19, 3) := by decide +kernel
theorem dX1_answer_9 : decode cX1_answer 9 = .ok (.iload_n 2, 1) := by decide +kernel
theorem dX1_answer_10 : decode cX1_answer 10 = .ok (.iaload, 1) := by decide +kernel
theorem dX1_answer_11 : decode cX1_answer 11 = .ok (.istore 4, 2) := by decide +kernel
theorem dX1_answer_13 : decode cX1_answer 13 = .ok (.aload_n 0, 1) := by decide +kernel
theorem dX1_answer_14 : decode cX1_answer 14 = .ok (.iload_n 3, 1) := by decide +kernel
theorem dX1_answer_15 : decode cX1_answer 15 = .ok (.ifCond .ne 11, 3) := by decide +kernel
theorem dX1_answer_18 : decode cX1_answer 18 = .ok (.iload 4, 2) := by decide +kernel
theorem dX1_answer_20 : decode cX1_answer 20 = .ok (.invokestatic 24, 3) := by decide +kernel
theorem dX1_answer_23 : decode cX1_answer 23 = .ok (.goto 8, 3) := by decide +kernel
theorem dX1_answer_26 : decode cX1_answer 26 = .ok (.iload 4, 2) := by decide +kernel
theorem dX1_answer_28 : decode cX1_answer 28 = .ok (.invokestatic 28, 3) := by decide +kernel
theorem dX1_answer_31 : decode cX1_answer 31 = .ok (.aload_n 1, 1) := by decide +kernel
theorem dX1_answer_32 : decode cX1_answer 32 = .ok (.iload_n 2, 1) := by decide +kernel
theorem dX1_answer_33 : decode cX1_answer 33 = .ok (.iconst 0, 1) := by decide +kernel
theorem dX1_answer_34 : decode cX1_answer 34 = .ok (.invokevirtual 31, 3) := by decide +kernel
theorem dX1_answer_37 : decode cX1_answer 37 = .ok (.ireturn, 1) := by decide +kernel
set_option maxRecDepth 20000 in
theorem ggX1_begin_X1_leave : GoodIn wsX1_begin wsX1_leave := goodIn_r _ [8, 9, 10, 30, 31] (by decide +kernel) (by decide +kernel)
set_option maxRecDepth 20000 in
theorem gX1_begin_X1_leave : GoodIn wsX1_begin (wsV RX1 35 RX1 yX1_leave wsX1_leave) := goodIn_app (goodIn_of _ (by decide +kernel)) ggX1_begin_X1_leave
set_option maxRecDepth 20000 in
theorem ggX1_begin_X1_begin : GoodIn wsX1_begin wsX1_begin := goodIn_r _ [0, 1, 2, 3, 4, 5, 6, 7, 8, 9, 10, 11, 12, 13, 14, 15, 16, 17, 18, 19, 20, 21, 22, 23, 24, 25, 26, 27, 28, 29, 30, 31] (by decide +kernel) (by decide +kernel)
set_option maxRecDepth 20000 in
theorem gX1_begin_X1_begin : GoodIn wsX1_begin (wsV RX1 31 RX1 yX1_begin wsX1_begin) := goodIn_app (goodIn_of _ (by decide +kernel)) ggX1_begin_X1_begin
set_option maxRecDepth 20000 in
theorem ggX1_begin_X1_markBody : GoodIn wsX1_begin wsX1_markBody := goodIn_r _ [16] (by decide +kernel) (by decide +kernel)
set_option maxRecDepth 20000 in
theorem gX1_begin_X1_markBody : GoodIn wsX1_begin (va_wsS RX1 28 yX1_markBody wsX1_markBody) := goodIn_app (goodIn_of _ (by decide +kernel)) ggX1_begin_X1_markBody
set_option maxRecDepth 20000 in
theorem ggX1_begin_X1_sizeBody : GoodIn wsX1_begin wsX1_sizeBody := goodIn_r _ [19] (by decide +kernel) (by decide +kernel)
set_option maxRecDepth 20000 in
theorem gX1_begin_X1_sizeBody : GoodIn wsX1_begin (va_wsS RX1 24 yX1_sizeBody wsX1_sizeBody) := goodIn_app (goodIn_of _ (by decide +kernel)) ggX1_begin_X1_sizeBody
theorem dX1_begin_0 : decode cX1_begin 0 = .ok (.iload 4, 2) := by decide +kernel
theorem dX1_begin_2 : decode cX1_begin 2 = .ok (.bipush 12, 2) := by decide +kernel
theorem dX1_begin_4 : decode cX1_begin 4 = .ok (.if_icmp .le 5, 3) := by decide +kernel
theorem dX1_begin_7 : decode cX1_begin 7 = .ok (.iconst 0, 1) := by decide +kernel
theorem dX1_begin_8 : decode cX1_begin 8 = .ok (.ireturn, 1) := by decide +kernel
theorem dX1_begin_9 : decode cX1_begin 9 = .ok (.aload_n 0, 1) := by decide +kernel
theorem dX1_begin_10 : decode cX1_begin 10 = .ok (.iload_n 1, 1) := by decide +kernel
theorem dX1_begin_11 : decode cX1_begin 11 = .ok (.invokevirtual 35, 3) := by decide +kernel
theorem dX1_begin_14 : decode cX1_begin 14 = .ok (.iload 4, 2) := by decide +kernel
theorem dX1_begin_16 : decode cX1_begin 16 = .ok (.iconst 1, 1) := by decide +kernel
theorem dX1_begin_17 : decode cX1_begin 17 = .ok (.iadd, 1) := by decide +kernel
theorem dX1_begin_18 : decode cX1_begin 18 = .ok (.istore 5, 2) := by decide +kernel
theorem dX1_begin_20 : decode cX1_begin 20 = .ok (.iload_n 1, 1) := by decide +kernel
theorem dX1_begin_21 : decode cX1_begin 21 = .ok (.tableswitch 235 10 24 #[75, 82, 115, 127, 141, 235, 235, 235, 235, 235, 154, 156, 174, 189, 222], 75) := by decide +kernel
theorem dX1_begin_96 : decode cX1_begin 96 = .ok (.aload_n 2, 1) := by decide +kernel
theorem dX1_begin_97 : decode cX1_begin 97 = .ok (.getfield 39, 3) := by decide +kernel
theorem dX1_begin_100 : decode cX1_begin 100 = .ok (.iload_n 3, 1) := by decide +kernel
theorem dX1_begin_101 : decode cX1_begin 101 = .ok (.iaload, 1) := by decide +kernel
theorem dX1_begin_102 : decode cX1_begin 102 = .ok (.ireturn, 1) := by decide +kernel
theorem dX1_begin_103 : decode cX1_begin 103 = .ok (.aload_n 0, 1) := by decide +kernel
theorem dX1_begin_104 : decode cX1_begin 104 = .ok (.bipush 10, 2) := by decide +kernel
theorem dX1_begin_106 : decode cX1_begin 106 = .ok (.aload_n 2, 1) := by decide +kernel
theorem dX1_begin_107 : decode cX1_begin 107 = .ok (.iload_n 3, 1) := by decide +kernel
theorem dX1_begin_108 : decode cX1_begin 108 = .ok (.iload 5, 2) := by decide +kernel
theorem dX1_begin_110 : decode cX1_begin 110 = .ok (.invokevirtual 31, 3) := by decide +kernel
theorem dX1_begin_113 : decode cX1_begin 113 = .ok (.istore 6, 2) := by decide +kernel
theorem dX1_begin_115 : decode cX1_begin 115 = .ok (.iload 6, 2) := by decide +kernel
theorem dX1_begin_117 : decode cX1_begin 117 = .ok (.aload_n 0, 1) := by decide +kernel
theorem dX1_begin_118 : decode cX1_begin 118 = .ok (.aload_n 2, 1) := by decide +kernel
theorem dX1_begin_119 : decode cX1_begin 119 = .ok (.getfield 19, 3) := by decide +kernel
theorem dX1_begin_122 : decode cX1_begin 122 = .ok (.iload_n 3, 1) := by decide +kernel
theorem dX1_begin_123 : decode cX1_begin 123 = .ok (.iaload, 1) := by decide +kernel
theorem dX1_begin_124 : decode cX1_begin 124 = .ok (.invokestatic 28, 3) := by decide +kernel
theorem dX1_begin_127 : decode cX1_begin 127 = .ok (.aload_n 2, 1) := by decide +kernel
theorem dX1_begin_128 : decode cX1_begin 128 = .ok (.iload_n 3, 1) := by decide +kernel
theorem dX1_begin_129 : decode cX1_begin 129 = .ok (.iload 5, 2) := by decide +kernel
theorem dX1_begin_131 : decode cX1_begin 131 = .ok (.invokevirtual 31, 3) := by decide +kernel
theorem dX1_begin_134 : decode cX1_begin 134 = .ok (.iadd, 1) := by decide +kernel
theorem dX1_begin_135 : decode cX1_begin 135 = .ok (.ireturn, 1) := by decide +kernel
theorem dX1_begin_136 : decode cX1_begin 136 = .ok (.aload_n 0, 1) := by decide +kernel
theorem dX1_begin_137 : decode cX1_begin 137 = .ok (.bipush 11, 2) := by decide +kernel
theorem dX1_begin_139 : decode cX1_begin 139 = .ok (.aload_n 2, 1) := by decide +kernel
theorem dX1_begin_140 : decode cX1_begin 140 = .ok (.iload_n 3, 1) := by decide +kernel
theorem dX1_begin_141 : decode cX1_begin 141 = .ok (.iload 5, 2) := by decide +kernel
theorem dX1_begin_143 : decode cX1_begin 143 = .ok (.invokevirtual 31, 3) := by decide +kernel
theorem dX1_begin_146 : decode cX1_begin 146 = .ok (.ineg, 1) := by decide +kernel
theorem dX1_begin_147 : decode cX1_begin 147 = .ok (.ireturn, 1) := by decide +kernel
theorem dX1_begin_148 : decode cX1_begin 148 = .ok (.aload_n 0, 1) := by decide +kernel
theorem dX1_begin_149 : decode cX1_begin 149 = .ok (.bipush 10, 2) := by decide +kernel
theorem dX1_begin_151 : decode cX1_begin 151 = .ok (.aload_n 2, 1) := by decide +kernel
theorem dX1_begin_152 : decode cX1_begin 152 = .ok (.iload_n 3, 1) := by decide +kernel
theorem dX1_begin_153 : decode cX1_begin 153 = .ok (.iload 5, 2) := by decide +kernel
theorem dX1_begin_155 : decode cX1_begin 155 = .ok (.invokevirtual 31, 3) := by decide +kernel
theorem dX1_begin_158 : decode cX1_begin 158 = .ok (.bipush 100, 2) := by decide +kernel
theorem dX1_begin_160 : decode cX1_begin 160 = .ok (.isub, 1) := by decide +kernel
theorem dX1_begin_161 : decode cX1_begin 161 = .ok (.ireturn, 1) := by decide +kernel
theorem dX1_begin_162 : decode cX1_begin 162 = .ok (.iconst 2, 1) := by decide +kernel
theorem dX1_begin_163 : decode cX1_begin 163 = .ok (.aload_n 0, 1) := by decide +kernel
theorem dX1_begin_164 : decode cX1_begin 164 = .ok (.bipush 13, 2) := by decide +kernel
theorem dX1_begin_166 : decode cX1_begin 166 = .ok (.aload_n 2, 1) := by decide +kernel
theorem dX1_begin_167 : decode cX1_begin 167 = .ok (.iload_n 3, 1) := by decide +kernel
theorem dX1_begin_168 : decode cX1_begin 168 = .ok (.iload 5, 2) := by decide +kernel
theorem dX1_begin_170 : decode cX1_begin 170 = .ok (.invokevirtual 31, 3) := by decide +kernel
theorem dX1_begin_173 : decode cX1_begin 173 = .ok (.imul, 1) := by decide +kernel
theorem dX1_begin_174 : decode cX1_begin 174 = .ok (.ireturn, 1) := by decide +kernel
theorem dX1_begin_175 : decode cX1_begin 175 = .ok (.iload_n 3, 1) := by decide +kernel
theorem dX1_begin_176 : decode cX1_begin 176 = .ok (.ireturn, 1) := by decide +kernel
theorem dX1_begin_177 : decode cX1_begin 177 = .ok (.aload_n 0, 1) := by decide +kernel
theorem dX1_begin_178 : decode cX1_begin 178 = .ok (.bipush 20, 2) := by decide +kernel
theorem dX1_begin_180 : decode cX1_begin 180 = .ok (.aload_n 2, 1) := by decide +kernel
theorem dX1_begin_181 : decode cX1_begin 181 = .ok (.iload_n 3, 1) := by decide +kernel
theorem dX1_begin_182 : decode cX1_begin 182 = .ok (.iload 5, 2) := by decide +kernel
theorem dX1_begin_184 : decode cX1_begin 184 = .ok (.invokevirtual 31, 3) := by decide +kernel
theorem dX1_begin_187 : decode cX1_begin 187 = .ok (.aload_n 2, 1) := by decide +kernel
theorem dX1_begin_188 : decode cX1_begin 188 = .ok (.getfield 42, 3) := by decide +kernel
theorem dX1_begin_191 : decode cX1_begin 191 = .ok (.iload_n 3, 1) := by decide +kernel
theorem dX1_begin_192 : decode cX1_begin 192 = .ok (.iaload, 1) := by decide +kernel
theorem dX1_begin_193 : decode cX1_begin 193 = .ok (.iadd, 1) := by decide +kernel
theorem dX1_begin_194 : decode cX1_begin 194 = .ok (.ireturn, 1) := by decide +kernel
theorem dX1_begin_195 : decode cX1_begin 195 = .ok (.aload_n 0, 1) := by decide +kernel
theorem dX1_begin_196 : decode cX1_begin 196 = .ok (.bipush 21, 2) := by decide +kernel
theorem dX1_begin_198 : decode cX1_begin 198 = .ok (.aload_n 2, 1) := by decide +kernel
theorem dX1_begin_199 : decode cX1_begin 199 = .ok (.iload_n 3, 1) := by decide +kernel
theorem dX1_begin_200 : decode cX1_begin 200 = .ok (.iload 5, 2) := by decide +kernel
theorem dX1_begin_202 : decode cX1_begin 202 = .ok (.invokevirtual 31, 3) := by decide +kernel
theorem dX1_begin_205 : decode cX1_begin 205 = .ok (.sipush 1000, 3) := by decide +kernel
theorem dX1_begin_208 : decode cX1_begin 208 = .ok (.isub, 1) := by decide +kernel
theorem dX1_begin_209 : decode cX1_begin 209 = .ok (.ireturn, 1) := by decide +kernel
theorem dX1_begin_210 : decode cX1_begin 210 = .ok (.aload_n 0, 1) := by decide +kernel
theorem dX1_begin_211 : decode cX1_begin 211 = .ok (.bipush 20, 2) := by decide +kernel
theorem dX1_begin_213 : decode cX1_begin 213 = .ok (.aload_n 2, 1) := by decide +kernel
theorem dX1_begin_214 : decode cX1_begin 214 = .ok (.iload_n 3, 1) := by decide +kernel
theorem dX1_begin_215 : decode cX1_begin 215 = .ok (.iload 5, 2) := by decide +kernel
theorem dX1_begin_217 : decode cX1_begin 217 = .ok (.invokevirtual 31, 3) := by decide +kernel
theorem dX1_begin_220 : decode cX1_begin 220 = .ok (.istore 6, 2) := by decide +kernel
theorem dX1_begin_222 : decode cX1_begin 222 = .ok (.iload 6, 2) := by decide +kernel
theorem dX1_begin_224 : decode cX1_begin 224 = .ok (.aload_n 0, 1) := by decide +kernel
theorem dX1_begin_225 : decode cX1_begin 225 = .ok (.aload_n 2, 1) := by decide +kernel
theorem dX1_begin_226 : decode cX1_begin 226 = .ok (.getfield 19, 3) := by decide +kernel
theorem dX1_begin_229 : decode cX1_begin 229 = .ok (.iload_n 3, 1) := by decide +kernel
theorem dX1_begin_230 : decode cX1_begin 230 = .ok (.iaload, 1) := by decide +kernel
theorem dX1_begin_231 : decode cX1_begin 231 = .ok (.invokestatic 24, 3) := by decide +kernel
theorem dX1_begin_234 : decode cX1_begin 234 = .ok (.aload_n 2, 1) := by decide +kernel
theorem dX1_begin_235 : decode cX1_begin 235 = .ok (.iload_n 3, 1) := by decide +kernel
theorem dX1_begin_236 : decode cX1_begin 236 = .ok (.iload 5, 2) := by decide +kernel
theorem dX1_begin_238 : decode cX1_begin 238 = .ok (.invokevirtual 31, 3) := by decide +kernel
theorem dX1_begin_241 : decode cX1_begin 241 = .ok (.isub, 1) := by decide +kernel
theorem dX1_begin_242 : decode cX1_begin 242 = .ok (.ireturn, 1) := by decide +kernel
theorem dX1_begin_243 : decode cX1_begin 243 = .ok (.iconst 2, 1) := by decide +kernel
theorem dX1_begin_244 : decode cX1_begin 244 = .ok (.aload_n 0, 1) := by decide +kernel
theorem dX1_begin_245 : decode cX1_begin 245 = .ok (.bipush 21, 2) := by decide +kernel
theorem dX1_begin_247 : decode cX1_begin 247 = .ok (.aload_n 2, 1) := by decide +kernel
theorem dX1_begin_248 : decode cX1_begin 248 = .ok (.iload_n 3, 1) := by decide +kernel
theorem dX1_begin_249 : decode cX1_begin 249 = .ok (.iload 5, 2) := by decide +kernel
theorem dX1_begin_251 : decode cX1_begin 251 = .ok (.invokevirtual 31, 3) := by decide +kernel
theorem dX1_begin_254 : decode cX1_begin 254 = .ok (.imul, 1) := by decide +kernel
theorem dX1_begin_255 : decode cX1_begin 255 = .ok (.ireturn, 1) := by decide +kernel
theorem dX1_begin_256 : decode cX1_begin 256 = .ok (.iconst 0, 1) := by decide +kernel
theorem dX1_begin_257 : decode cX1_begin 257 = .ok (.ireturn, 1) := by decide +kernel
theorem dX1_leave_0 : decode cX1_leave 0 = .ok (.aload_n 0, 1) := by decide +kernel
theorem dX1_leave_1 : decode cX1_leave 1 = .ok (.getfield 15, 3) := by decide +kernel
theorem dX1_leave_4 : decode cX1_leave 4 = .ok (.bipush 16, 2) := by decide +kernel
theorem dX1_leave_6 : decode cX1_leave 6 = .ok (.if_icmp .ge 23, 3) := by decide +kernel
theorem dX1_leave_9 : decode cX1_leave 9 = .ok (.aload_n 0, 1) := by decide +kernel
theorem dX1_leave_10 : decode cX1_leave 10 = .ok (.getfield 9, 3) := by decide +kernel
theorem dX1_leave_13 : decode cX1_leave 13 = .ok (.aload_n 0, 1) := by decide +kernel
theorem dX1_leave_14 : decode cX1_leave 14 = .ok (.getfield 15, 3) := by decide +kernel
theorem dX1_leave_17 : decode cX1_leave 17 = .ok (.iload_n 1, 1) := by decide +kernel
theorem dX1_leave_18 : decode cX1_leave 18 = .ok (.iastore, 1) := by decide +kernel
theorem dX1_leave_19 : decode cX1_leave 19 = .ok (.aload_n 0, 1) := by decide +kernel
theorem dX1_leave_20 : decode cX1_leave 20 = .ok (.dup, 1) := by decide +kernel
theorem dX1_leave_21 : decode cX1_leave 21 = .ok (.getfield 15, 3) := by decide +kernel
theorem dX1_leave_24 : decode cX1_leave 24 = .ok (.iconst 1, 1) := by decide +kernel
theorem dX1_leave_25 : decode cX1_leave 25 = .ok (.iadd, 1) := by decide +kernel
theorem dX1_leave_26 : decode cX1_leave 26 = .ok (.putfield 15, 3) := by decide +kernel
theorem dX1_leave_29 : decode cX1_leave 29 = .ok (.return_, 1) := by decide +kernel
theorem dX1_sizeBody_0 : decode cX1_sizeBody 0 = .ok (.iload_n 0, 1) := by decide +kernel
theorem dX1_sizeBody_1 : decode cX1_sizeBody 1 = .ok (.tableswitch 47 1 5 #[35, 38, 35, 41, 44], 35) := by decide +kernel
theorem dX1_sizeBody_36 : decode cX1_sizeBody 36 = .ok (.bipush 11, 2) := by decide +kernel
theorem dX1_sizeBody_38 : decode cX1_sizeBody 38 = .ok (.ireturn, 1) := by decide +kernel
theorem dX1_sizeBody_39 : decode cX1_sizeBody 39 = .ok (.bipush 12, 2) := by decide +kernel
theorem dX1_sizeBody_41 : decode cX1_sizeBody 41 = .ok (.ireturn, 1) := by decide +kernel
theorem dX1_sizeBody_42 : decode cX1_sizeBody 42 = .ok (.bipush 13, 2) := by decide +kernel
theorem dX1_sizeBody_44 : decode cX1_sizeBody 44 = .ok (.ireturn, 1) := by decide +kernel
theorem dX1_sizeBody_45 : decode cX1_sizeBody 45 = .ok (.bipush 14, 2) := by decide +kernel
theorem dX1_sizeBody_47 : decode cX1_sizeBody 47 = .ok (.ireturn, 1) := by decide +kernel
theorem dX1_sizeBody_48 : decode cX1_sizeBody 48 = .ok (.bipush 10, 2) := by decide +kernel
theorem dX1_sizeBody_50 : decode cX1_sizeBody 50 = .ok (.ireturn, 1) := by decide +kernel
theorem dX1_markBody_0 : decode cX1_markBody 0 = .ok (.iload_n 0, 1) := by decide +kernel
theorem dX1_markBody_1 : decode cX1_markBody 1 = .ok (.tableswitch 47 1 5 #[35, 38, 41, 44, 44], 35) := by decide +kernel
theorem dX1_markBody_36 : decode cX1_markBody 36 = .ok (.bipush 21, 2) := by decide +kernel
theorem dX1_markBody_38 : decode cX1_markBody 38 = .ok (.ireturn, 1) := by decide +kernel
theorem dX1_markBody_39 : decode cX1_markBody 39 = .ok (.bipush 24, 2) := by decide +kernel
theorem dX1_markBody_41 : decode cX1_markBody 41 = .ok (.ireturn, 1) := by decide +kernel
theorem dX1_markBody_42 : decode cX1_markBody 42 = .ok (.bipush 22, 2) := by decide +kernel
theorem dX1_markBody_44 : decode cX1_markBody 44 = .ok (.ireturn, 1) := by decide +kernel
theorem dX1_markBody_45 : decode cX1_markBody 45 = .ok (.bipush 23, 2) := by decide +kernel
theorem dX1_markBody_47 : decode cX1_markBody 47 = .ok (.ireturn, 1) := by decide +kernel
theorem dX1_markBody_48 : decode cX1_markBody 48 = .ok (.bipush 20, 2) := by decide +kernel
theorem dX1_markBody_50 : decode cX1_markBody 50 = .ok (.ireturn, 1) := by decide +kernel
theorem dX2_init_0 : decode cX2_init 0 = .ok (.aload_n 0, 1) := by decide +kernel
theorem dX2_init_1 : decode cX2_init 1 = .ok (.invokespecial 3, 3) := by decide +kernel
theorem dX2_init_4 : decode cX2_init 4 = .ok (.aload_n 0, 1) := by decide +kernel
theorem dX2_init_5 : decode cX2_init 5 = .ok (.bipush 7, 2) := by decide +kernel
theorem dX2_init_7 : decode cX2_init 7 = .ok (.newarray .int, 2) := by decide +kernel
theorem dX2_init_9 : decode cX2_init 9 = .ok (.putfield 9, 3) := by decide +kernel
theorem dX2_init_12 : decode cX2_init 12 = .ok (.aload_n 0, 1) := by decide +kernel
theorem dX2_init_13 : decode cX2_init 13 = .ok (.bipush 7, 2) := by decide +kernel
theorem dX2_init_15 : decode cX2_init 15 = .ok (.newarray .int, 2) := by decide +kernel
theorem dX2_init_17 : decode cX2_init 17 = .ok (.putfield 15, 3) := by decide +kernel
theorem dX2_init_20 : decode cX2_init 20 = .ok (.aload_n 0, 1) := by decide +kernel
theorem dX2_init_21 : decode cX2_init 21 = .ok (.bipush 7, 2) := by decide +kernel
theorem dX2_init_23 : decode cX2_init 23 = .ok (.newarray .int, 2) := by decide +kernel
theorem dX2_init_25 : decode cX2_init 25 = .ok (.putfield 18, 3) := by decide +kernel
theorem dX2_init_28 : decode cX2_init 28 = .ok (.return_, 1) := by decide +kernel
theorem dX2_take_0 : decode cX2_take 0 = .ok (.aload_n 1, 1) := by decide +kernel
theorem dX2_take_1 : decode cX2_take 1 = .ok (.getfield 9, 3) := by decide +kernel
theorem dX2_take_4 : decode cX2_take 4 = .ok (.iconst 0, 1) := by decide +kernel
theorem dX2_take_5 : decode cX2_take 5 = .ok (.aload_n 0, 1) := by decide +kernel
theorem dX2_take_6 : decode cX2_take 6 = .ok (.getfield 9, 3) := by decide +kernel
theorem dX2_take_9 : decode cX2_take 9 = .ok (.iconst 0, 1) := by decide +kernel
theorem dX2_take_10 : decode cX2_take 10 = .ok (.bipush 7, 2) := by decide +kernel
theorem dX2_take_12 : decode cX2_take 12 = .ok (.invokestatic 21, 3) := by decide +kernel
theorem dX2_take_15 : decode cX2_take 15 = .ok (.aload_n 1, 1) := by decide +kernel
theorem dX2_take_16 : decode cX2_take 16 = .ok (.getfield 15, 3) := by decide +kernel
theorem dX2_take_19 : decode cX2_take 19 = .ok (.iconst 0, 1) := by decide +kernel
theorem dX2_take_20 : decode cX2_take 20 = .ok (.aload_n 0, 1) := by decide +kernel
theorem dX2_take_21 : decode cX2_take 21 = .ok (.getfield 15, 3) := by decide +kernel
theorem dX2_take_24 : decode cX2_take 24 = .ok (.iconst 0, 1) := by decide +kernel
theorem dX2_take_25 : decode cX2_take 25 = .ok (.bipush 7, 2) := by decide +kernel
theorem dX2_take_27 : decode cX2_take 27 = .ok (.invokestatic 21, 3) := by decide +kernel
theorem dX2_take_30 : decode cX2_take 30 = .ok (.aload_n 1, 1) := by decide +kernel
theorem dX2_take_31 : decode cX2_take 31 = .ok (.getfield 18, 3) := by decide +kernel
theorem dX2_take_34 : decode cX2_take 34 = .ok (.iconst 0, 1) := by decide +kernel
theorem dX2_take_35 : decode cX2_take 35 = .ok (.aload_n 0, 1) := by decide +kernel
theorem dX2_take_36 : decode cX2_take 36 = .ok (.getfield 18, 3) := by decide +kernel
theorem dX2_take_39 : decode cX2_take 39 = .ok (.iconst 0, 1) := by decide +kernel
theorem dX2_take_40 : decode cX2_take 40 = .ok (.bipush 7, 2) := by decide +kernel
theorem dX2_take_42 : decode cX2_take 42 = .ok (.invokestatic 21, 3) := by decide +kernel
theorem dX2_take_45 : decode cX2_take 45 = .ok (.aload_n 0, 1) := by decide +kernel
theorem dX2_take_46 : decode cX2_take 46 = .ok (.aload_n 1, 1) := by decide +kernel
theorem dX2_take_47 : decode cX2_take 47 = .ok (.getfield 27, 3) := by decide +kernel
theorem dX2_take_50 : decode cX2_take 50 = .ok (.putfield 27, 3) := by decide +kernel
theorem dX2_take_53 : decode cX2_take 53 = .ok (.aload_n 0, 1) := by decide +kernel
theorem dX2_take_54 : decode cX2_take 54 = .ok (.aload_n 1, 1) := by decide +kernel
theorem dX2_take_55 : decode cX2_take 55 = .ok (.getfield 31, 3) := by decide +kernel
theorem dX2_take_58 : decode cX2_take 58 = .ok (.putfield 31, 3) := by decide +kernel
theorem dX2_take_61 : decode cX2_take 61 = .ok (.aload_n 0, 1) := by decide +kernel
theorem dX2_take_62 : decode cX2_take 62 = .ok (.aload_n 1, 1) := by decide +kernel
theorem dX2_take_63 : decode cX2_take 63 = .ok (.getfield 34, 3) := by decide +kernel
theorem dX2_take_66 : decode cX2_take 66 = .ok (.putfield 34, 3) := by decide +kernel
theorem dX2_take_69 : decode cX2_take 69 = .ok (.aload_n 0, 1) := by decide +kernel
theorem dX2_take_70 : decode cX2_take 70 = .ok (.aload_n 1, 1) := by decide +kernel
theorem dX2_take_71 : decode cX2_take 71 = .ok (.getfield 37, 3) := by decide +kernel
theorem dX2_take_74 : decode cX2_take 74 = .ok (.putfield 37, 3) := by decide +kernel
theorem dX2_take_77 : decode cX2_take 77 = .ok (.aload_n 0, 1) := by decide +kernel
theorem dX2_take_78 : decode cX2_take 78 = .ok (.aload_n 1, 1) := by decide +kernel
theorem dX2_take_79 : decode cX2_take 79 = .ok (.getfield 40, 3) := by decide +kernel
theorem dX2_take_82 : decode cX2_take 82 = .ok (.putfield 40, 3) := by decide +kernel
theorem dX2_take_85 : decode cX2_take 85 = .ok (.aload_n 0, 1) := by decide +kernel
theorem dX2_take_86 : decode cX2_take 86 = .ok (.aload_n 1, 1) := by decide +kernel
theorem dX2_take_87 : decode cX2_take 87 = .ok (.getfield 43, 3) := by decide +kernel
theorem dX2_take_90 : decode cX2_take 90 = .ok (.putfield 43, 3) := by decide +kernel
theorem dX2_take_93 : decode cX2_take 93 = .ok (.aload_n 0, 1) := by decide +kernel
theorem dX2_take_94 : decode cX2_take 94 = .ok (.aload_n 1, 1) := by decide +kernel
theorem dX2_take_95 : decode cX2_take 95 = .ok (.getfield 46, 3) := by decide +kernel
theorem dX2_take_98 : decode cX2_take 98 = .ok (.putfield 46, 3) := by decide +kernel
theorem dX2_take_101 : decode cX2_take 101 = .ok (.return_, 1) := by decide +kernel
theorem dX2_begin_0 : decode cX2_begin 0 = .ok (.aload_n 0, 1) := by decide +kernel
theorem dX2_begin_1 : decode cX2_begin 1 = .ok (.iconst 0, 1) := by decide +kernel
theorem dX2_begin_2 : decode cX2_begin 2 = .ok (.putfield 27, 3) := by decide +kernel
theorem dX2_begin_5 : decode cX2_begin 5 = .ok (.aload_n 0, 1) := by decide +kernel
theorem dX2_begin_6 : decode cX2_begin 6 = .ok (.iload_n 1, 1) := by decide +kernel
theorem dX2_begin_7 : decode cX2_begin 7 = .ok (.putfield 31, 3) := by decide +kernel
theorem dX2_begin_10 : decode cX2_begin 10 = .ok (.aload_n 0, 1) := by decide +kernel
theorem dX2_begin_11 : decode cX2_begin 11 = .ok (.iload_n 2, 1) := by decide +kernel
theorem dX2_begin_12 : decode cX2_begin 12 = .ok (.putfield 34, 3) := by decide +kernel
theorem dX2_begin_15 : decode cX2_begin 15 = .ok (.aload_n 0, 1) := by decide +kernel
theorem dX2_begin_16 : decode cX2_begin 16 = .ok (.iconst 0, 1) := by decide +kernel
theorem dX2_begin_17 : decode cX2_begin 17 = .ok (.putfield 37, 3) := by decide +kernel
theorem dX2_begin_20 : decode cX2_begin 20 = .ok (.aload_n 0, 1) := by decide +kernel
theorem dX2_begin_21 : decode cX2_begin 21 = .ok (.iconst 0, 1) := by decide +kernel
theorem dX2_begin_22 : decode cX2_begin 22 = .ok (.putfield 40, 3) := by decide +kernel
theorem dX2_begin_25 : decode cX2_begin 25 = .ok (.aload_n 0, 1) := by decide +kernel
theorem dX2_begin_26 : decode cX2_begin 26 = .ok (.iconst 1, 1) := by decide +kernel
theorem dX2_begin_27 : decode cX2_begin 27 = .ok (.putfield 43, 3) := by decide +kernel
theorem dX2_begin_30 : decode cX2_begin 30 = .ok (.aload_n 0, 1) := by decide +kernel
theorem dX2_begin_31 : decode cX2_begin 31 = .ok (.iconst 0, 1) := by decide +kernel
theorem dX2_begin_32 : decode cX2_begin 32 = .ok (.putfield 46, 3) := by decide +kernel
theorem dX2_begin_35 : decode cX2_begin 35 = .ok (.return_, 1) := by decide +kernel
theorem dX2_addSoul_0 : decode cX2_addSoul 0 = .ok (.aload_n 0, 1) := by decide +kernel
theorem dX2_addSoul_1 : decode cX2_addSoul 1 = .ok (.getfield 27, 3) := by decide +kernel
theorem dX2_addSoul_4 : decode cX2_addSoul 4 = .ok (.bipush 7, 2) := by decide +kernel
theorem dX2_addSoul_6 : decode cX2_addSoul 6 = .ok (.if_icmp .lt 4, 3) := by decide +kernel
theorem dX2_addSoul_9 : decode cX2_addSoul 9 = .ok (.return_, 1) := by decide +kernel
theorem dX2_addSoul_10 : decode cX2_addSoul 10 = .ok (.aload_n 0, 1) := by decide +kernel
theorem dX2_addSoul_11 : decode cX2_addSoul 11 = .ok (.getfield 9, 3) := by decide +kernel
theorem dX2_addSoul_14 : decode cX2_addSoul 14 = .ok (.aload_n 0, 1) := by decide +kernel
theorem dX2_addSoul_15 : decode cX2_addSoul 15 = .ok (.getfield 27, 3) := by decide +kernel
theorem dX2_addSoul_18 : decode cX2_addSoul 18 = .ok (.iload_n 1, 1) := by decide +kernel
theorem dX2_addSoul_19 : decode cX2_addSoul 19 = .ok (.iastore, 1) := by decide +kernel
theorem dX2_addSoul_20 : decode cX2_addSoul 20 = .ok (.aload_n 0, 1) := by decide +kernel
theorem dX2_addSoul_21 : decode cX2_addSoul 21 = .ok (.getfield 15, 3) := by decide +kernel
theorem dX2_addSoul_24 : decode cX2_addSoul 24 = .ok (.aload_n 0, 1) := by decide +kernel
theorem dX2_addSoul_25 : decode cX2_addSoul 25 = .ok (.getfield 27, 3) := by decide +kernel
theorem dX2_addSoul_28 : decode cX2_addSoul 28 = .ok (.iload_n 2, 1) := by decide +kernel
theorem dX2_addSoul_29 : decode cX2_addSoul 29 = .ok (.iastore, 1) := by decide +kernel
theorem dX2_addSoul_30 : decode cX2_addSoul 30 = .ok (.aload_n 0, 1) := by decide +kernel
theorem dX2_addSoul_31 : decode cX2_addSoul 31 = .ok (.getfield 18, 3) := by decide +kernel
theorem dX2_addSoul_34 : decode cX2_addSoul 34 = .ok (.aload_n 0, 1) := by decide +kernel
theorem dX2_addSoul_35 : decode cX2_addSoul 35 = .ok (.getfield 27, 3) := by decide +kernel
theorem dX2_addSoul_38 : decode cX2_addSoul 38 = .ok (.iload_n 3, 1) := by decide +kernel
theorem dX2_addSoul_39 : decode cX2_addSoul 39 = .ok (.iastore, 1) := by decide +kernel
theorem dX2_addSoul_40 : decode cX2_addSoul 40 = .ok (.aload_n 0, 1) := by decide +kernel
theorem dX2_addSoul_41 : decode cX2_addSoul 41 = .ok (.dup, 1) := by decide +kernel
theorem dX2_addSoul_42 : decode cX2_addSoul 42 = .ok (.getfield 27, 3) := by decide +kernel
theorem dX2_addSoul_45 : decode cX2_addSoul 45 = .ok (.iconst 1, 1) := by decide +kernel
theorem dX2_addSoul_46 : decode cX2_addSoul 46 = .ok (.iadd, 1) := by decide +kernel
theorem dX2_addSoul_47 : decode cX2_addSoul 47 = .ok (.putfield 27, 3) := by decide +kernel
theorem dX2_addSoul_50 : decode cX2_addSoul 50 = .ok (.return_, 1) := by decide +kernel
theorem dX2_worth_0 : decode cX2_worth 0 = .ok (.iload_n 1, 1) := by decide +kernel
theorem dX2_worth_1 : decode cX2_worth 1 = .ok (.tableswitch 73 1 5 #[35, 37, 41, 55, 63], 35) := by decide +kernel
theorem dX2_worth_36 : decode cX2_worth 36 = .ok (.iload_n 2, 1) := by decide +kernel
theorem dX2_worth_37 : decode cX2_worth 37 = .ok (.ireturn, 1) := by decide +kernel
theorem dX2_worth_38 : decode cX2_worth 38 = .ok (.iload_n 2, 1) := by decide +kernel
theorem dX2_worth_39 : decode cX2_worth 39 = .ok (.iconst 2, 1) := by decide +kernel
theorem dX2_worth_40 : decode cX2_worth 40 = .ok (.idiv, 1) := by decide +kernel
theorem dX2_worth_41 : decode cX2_worth 41 = .ok (.ireturn, 1) := by decide +kernel
theorem dX2_worth_42 : decode cX2_worth 42 = .ok (.bipush 20, 2) := by decide +kernel
theorem dX2_worth_44 : decode cX2_worth 44 = .ok (.iload_n 2, 1) := by decide +kernel
theorem dX2_worth_45 : decode cX2_worth 45 = .ok (.aload_n 0, 1) := by decide +kernel
theorem dX2_worth_46 : decode cX2_worth 46 = .ok (.getfield 37, 3) := by decide +kernel
theorem dX2_worth_49 : decode cX2_worth 49 = .ok (.iconst 4, 1) := by decide +kernel
theorem dX2_worth_50 : decode cX2_worth 50 = .ok (.idiv, 1) := by decide +kernel
theorem dX2_worth_51 : decode cX2_worth 51 = .ok (.iadd, 1) := by decide +kernel
theorem dX2_worth_52 : decode cX2_worth 52 = .ok (.invokestatic 49, 3) := by decide +kernel
theorem dX2_worth_55 : decode cX2_worth 55 = .ok (.ireturn, 1) := by decide +kernel
theorem dX2_worth_56 : decode cX2_worth 56 = .ok (.iload_n 2, 1) := by decide +kernel
theorem dX2_worth_57 : decode cX2_worth 57 = .ok (.iconst 2, 1) := by decide +kernel
theorem dX2_worth_58 : decode cX2_worth 58 = .ok (.idiv, 1) := by decide +kernel
theorem dX2_worth_59 : decode cX2_worth 59 = .ok (.iload_n 3, 1) := by decide +kernel
theorem dX2_worth_60 : decode cX2_worth 60 = .ok (.iconst 4, 1) := by decide +kernel
theorem dX2_worth_61 : decode cX2_worth 61 = .ok (.idiv, 1) := by decide +kernel
theorem dX2_worth_62 : decode cX2_worth 62 = .ok (.iadd, 1) := by decide +kernel
theorem dX2_worth_63 : decode cX2_worth 63 = .ok (.ireturn, 1) := by decide +kernel
theorem dX2_worth_64 : decode cX2_worth 64 = .ok (.iload_n 2, 1) := by decide +kernel
theorem dX2_worth_65 : decode cX2_worth 65 = .ok (.iconst 2, 1) := by decide +kernel
theorem dX2_worth_66 : decode cX2_worth 66 = .ok (.idiv, 1) := by decide +kernel
theorem dX2_worth_67 : decode cX2_worth 67 = .ok (.iload_n 3, 1) := by decide +kernel
theorem dX2_worth_68 : decode cX2_worth 68 = .ok (.iconst 4, 1) := by decide +kernel
theorem dX2_worth_69 : decode cX2_worth 69 = .ok (.idiv, 1) := by decide +kernel
theorem dX2_worth_70 : decode cX2_worth 70 = .ok (.iadd, 1) := by decide +kernel
theorem dX2_worth_71 : decode cX2_worth 71 = .ok (.iconst 3, 1) := by decide +kernel
theorem dX2_worth_72 : decode cX2_worth 72 = .ok (.iadd, 1) := by decide +kernel
theorem dX2_worth_73 : decode cX2_worth 73 = .ok (.ireturn, 1) := by decide +kernel
theorem dX2_worth_74 : decode cX2_worth 74 = .ok (.iconst 0, 1) := by decide +kernel
theorem dX2_worth_75 : decode cX2_worth 75 = .ok (.ireturn, 1) := by decide +kernel
set_option maxRecDepth 20000 in
theorem ggX2_forceBy_X2_worth : GoodIn wsX2_forceBy wsX2_worth := goodIn_r _ [12, 13, 5, 6, 3, 7, 14, 15, 16, 17, 18, 19, 20, 21, 22, 23] (by decide +kernel) (by decide +kernel)
set_option maxRecDepth 20000 in
theorem gX2_forceBy_X2_worth : GoodIn wsX2_forceBy (wsV RX2 55 RX2 yX2_worth wsX2_worth) := goodIn_app (goodIn_of _ (by decide +kernel)) ggX2_forceBy_X2_worth
theorem dX2_forceBy_0 : decode cX2_forceBy 0 = .ok (.iload_n 2, 1) := by decide +kernel
theorem dX2_forceBy_1 : decode cX2_forceBy 1 = .ok (.iload_n 3, 1) := by decide +kernel
theorem dX2_forceBy_2 : decode cX2_forceBy 2 = .ok (.iconst 4, 1) := by decide +kernel
theorem dX2_forceBy_3 : decode cX2_forceBy 3 = .ok (.idiv, 1) := by decide +kernel
theorem dX2_forceBy_4 : decode cX2_forceBy 4 = .ok (.if_icmp .lt 17, 3) := by decide +kernel
theorem dX2_forceBy_7 : decode cX2_forceBy 7 = .ok (.iconst 0, 1) := by decide +kernel
theorem dX2_forceBy_8 : decode cX2_forceBy 8 = .ok (.iload_n 3, 1) := by decide +kernel
theorem dX2_forceBy_9 : decode cX2_forceBy 9 = .ok (.aload_n 0, 1) := by decide +kernel
theorem dX2_forceBy_10 : decode cX2_forceBy 10 = .ok (.iload_n 1, 1) := by decide +kernel
theorem dX2_forceBy_11 : decode cX2_forceBy 11 = .ok (.iload_n 2, 1) := by decide +kernel
theorem dX2_forceBy_12 : decode cX2_forceBy 12 = .ok (.iload_n 3, 1) := by decide +kernel
theorem dX2_forceBy_13 : decode cX2_forceBy 13 = .ok (.invokevirtual 55, 3) := by decide +kernel
theorem dX2_forceBy_16 : decode cX2_forceBy 16 = .ok (.isub, 1) := by decide +kernel
theorem dX2_forceBy_17 : decode cX2_forceBy 17 = .ok (.invokestatic 59, 3) := by decide +kernel
theorem dX2_forceBy_20 : decode cX2_forceBy 20 = .ok (.ireturn, 1) := by decide +kernel
theorem dX2_forceBy_21 : decode cX2_forceBy 21 = .ok (.bipush 60, 2) := by decide +kernel
theorem dX2_forceBy_23 : decode cX2_forceBy 23 = .ok (.iload_n 3, 1) := by decide +kernel
theorem dX2_forceBy_24 : decode cX2_forceBy 24 = .ok (.iconst 2, 1) := by decide +kernel
theorem dX2_forceBy_25 : decode cX2_forceBy 25 = .ok (.iadd, 1) := by decide +kernel
theorem dX2_forceBy_26 : decode cX2_forceBy 26 = .ok (.invokestatic 49, 3) := by decide +kernel
theorem dX2_forceBy_29 : decode cX2_forceBy 29 = .ok (.ireturn, 1) := by decide +kernel
set_option maxRecDepth 20000 in
theorem ggX2_fall_X2_forceBy : GoodIn wsX2_fall wsX2_forceBy := goodIn_r _ [6, 7, 8, 9, 10, 11, 12, 13, 14, 15, 16, 5, 17, 18, 19, 20, 21, 22, 23, 24, 25, 26, 27, 28] (by decide +kernel) (by decide +kernel)
set_option maxRecDepth 20000 in
theorem gX2_fall_X2_forceBy : GoodIn wsX2_fall (wsV RX2 62 RX2 yX2_forceBy wsX2_forceBy) := goodIn_app (goodIn_of _ (by decide +kernel)) ggX2_fall_X2_forceBy
theorem dX2_fall_0 : decode cX2_fall 0 = .ok (.aload_n 0, 1) := by decide +kernel
theorem dX2_fall_1 : decode cX2_fall 1 = .ok (.getfield 31, 3) := by decide +kernel
theorem dX2_fall_4 : decode cX2_fall 4 = .ok (.aload_n 0, 1) := by decide +kernel
theorem dX2_fall_5 : decode cX2_fall 5 = .ok (.iload_n 1, 1) := by decide +kernel
theorem dX2_fall_6 : decode cX2_fall 6 = .ok (.iload_n 2, 1) := by decide +kernel
theorem dX2_fall_7 : decode cX2_fall 7 = .ok (.aload_n 0, 1) := by decide +kernel
theorem dX2_fall_8 : decode cX2_fall 8 = .ok (.getfield 31, 3) := by decide +kernel
theorem dX2_fall_11 : decode cX2_fall 11 = .ok (.invokevirtual 62, 3) := by decide +kernel
theorem dX2_fall_14 : decode cX2_fall 14 = .ok (.isub, 1) := by decide +kernel
theorem dX2_fall_15 : decode cX2_fall 15 = .ok (.ireturn, 1) := by decide +kernel
set_option maxRecDepth 20000 in
theorem ggX2_forceBehind_X2_forceBy : GoodIn wsX2_forceBehind wsX2_forceBy := goodIn_r _ [7, 8, 9, 10, 11, 12, 13, 14, 15, 16, 17, 6, 18, 19, 20, 21, 22, 23, 24, 25, 26, 27, 28, 29] (by decide +kernel) (by decide +kernel)
set_option maxRecDepth 20000 in
theorem gX2_forceBehind_X2_forceBy : GoodIn wsX2_forceBehind (wsV RX2 62 RX2 yX2_forceBy wsX2_forceBy) := goodIn_app (goodIn_of _ (by decide +kernel)) ggX2_forceBehind_X2_forceBy
theorem dX2_forceBehind_0 : decode cX2_forceBehind 0 = .ok (.aload_n 0, 1) := by decide +kernel
theorem dX2_forceBehind_1 : decode cX2_forceBehind 1 = .ok (.aload_n 0, 1) := by decide +kernel
theorem dX2_forceBehind_2 : decode cX2_forceBehind 2 = .ok (.getfield 9, 3) := by decide +kernel
theorem dX2_forceBehind_5 : decode cX2_forceBehind 5 = .ok (.iload_n 1, 1) := by decide +kernel
theorem dX2_forceBehind_6 : decode cX2_forceBehind 6 = .ok (.iaload, 1) := by decide +kernel
theorem dX2_forceBehind_7 : decode cX2_forceBehind 7 = .ok (.aload_n 0, 1) := by decide +kernel
theorem dX2_forceBehind_8 : decode cX2_forceBehind 8 = .ok (.getfield 15, 3) := by decide +kernel
theorem dX2_forceBehind_11 : decode cX2_forceBehind 11 = .ok (.iload_n 1, 1) := by decide +kernel
theorem dX2_forceBehind_12 : decode cX2_forceBehind 12 = .ok (.iaload, 1) := by decide +kernel
theorem dX2_forceBehind_13 : decode cX2_forceBehind 13 = .ok (.iload_n 2, 1) := by decide +kernel
theorem dX2_forceBehind_14 : decode cX2_forceBehind 14 = .ok (.invokevirtual 62, 3) := by decide +kernel
theorem dX2_forceBehind_17 : decode cX2_forceBehind 17 = .ok (.ireturn, 1) := by decide +kernel
set_option maxRecDepth 20000 in
theorem ggX2_forceBehindAll_X2_forceBehind : GoodIn wsX2_forceBehindAll wsX2_forceBehind := goodIn_r _ [7, 8, 9, 10, 11, 12, 6, 13, 14, 15, 16, 17, 18, 19, 20, 21, 22, 23, 24, 25, 26, 27, 28, 29, 30, 31, 32, 33, 34, 35] (by decide +kernel) (by decide +kernel)
set_option maxRecDepth 20000 in
theorem gX2_forceBehindAll_X2_forceBehind : GoodIn wsX2_forceBehindAll (wsV RX2 65 RX2 yX2_forceBehind wsX2_forceBehind) := goodIn_app (goodIn_of _ (by decide +kernel)) ggX2_forceBehindAll_X2_forceBehind
theorem dX2_forceBehindAll_0 : decode cX2_forceBehindAll 0 = .ok (.aload_n 0, 1) := by decide +kernel
theorem dX2_forceBehindAll_1 : decode cX2_forceBehindAll 1 = .ok (.getfield 31, 3) := by decide +kernel
theorem dX2_forceBehindAll_4 : decode cX2_forceBehindAll 4 = .ok (.istore_n 2, 1) := by decide +kernel
theorem dX2_forceBehindAll_5 : decode cX2_forceBehindAll 5 = .ok (.iconst 0, 1) := by decide +kernel
theorem dX2_forceBehindAll_6 : decode cX2_forceBehindAll 6 = .ok (.istore_n 3, 1) := by decide +kernel
theorem dX2_forceBehindAll_7 : decode cX2_forceBehindAll 7 = .ok (.iload_n 3, 1) := by decide +kernel
theorem dX2_forceBehindAll_8 : decode cX2_forceBehindAll 8 = .ok (.aload_n 0, 1) := by decide +kernel
theorem dX2_forceBehindAll_9 : decode cX2_forceBehindAll 9 = .ok (.getfield 27, 3) := by decide +kernel
theorem dX2_forceBehindAll_12 : decode cX2_forceBehindAll 12 = .ok (.if_icmp .ge 24, 3) := by decide +kernel
theorem dX2_forceBehindAll_15 : decode cX2_forceBehindAll 15 = .ok (.iload_n 1, 1) := by decide +kernel
theorem dX2_forceBehindAll_16 : decode cX2_forceBehindAll 16 = .ok (.iload_n 3, 1) := by decide +kernel
theorem dX2_forceBehindAll_17 : decode cX2_forceBehindAll 17 = .ok (.ishr, 1) := by decide +kernel
theorem dX2_forceBehindAll_18 : decode cX2_forceBehindAll 18 = .ok (.iconst 1, 1) := by decide +kernel
theorem dX2_forceBehindAll_19 : decode cX2_forceBehindAll 19 = .ok (.iand, 1) := by decide +kernel
theorem dX2_forceBehindAll_20 : decode cX2_forceBehindAll 20 = .ok (.ifCond .eq 10, 3) := by decide +kernel
theorem dX2_forceBehindAll_23 : decode cX2_forceBehindAll 23 = .ok (.aload_n 0, 1) := by decide +kernel
theorem dX2_forceBehindAll_24 : decode cX2_forceBehindAll 24 = .ok (.iload_n 3, 1) := by decide +kernel
theorem dX2_forceBehindAll_25 : decode cX2_forceBehindAll 25 = .ok (.iload_n 2, 1) := by decide +kernel
theorem dX2_forceBehindAll_26 : decode cX2_forceBehindAll 26 = .ok (.invokevirtual 65, 3) := by decide +kernel
theorem dX2_forceBehindAll_29 : decode cX2_forceBehindAll 29 = .ok (.istore_n 2, 1) := by decide +kernel
theorem dX2_forceBehindAll_30 : decode cX2_forceBehindAll 30 = .ok (.iinc 3 1, 3) := by decide +kernel
theorem dX2_forceBehindAll_33 : decode cX2_forceBehindAll 33 = .ok (.goto (-26), 3) := by decide +kernel
theorem dX2_forceBehindAll_36 : decode cX2_forceBehindAll 36 = .ok (.iload_n 2, 1) := by decide +kernel
theorem dX2_forceBehindAll_37 : decode cX2_forceBehindAll 37 = .ok (.ireturn, 1) := by decide +kernel
set_option maxRecDepth 20000 in
theorem ggX2_ownUp_X2_forceBehind : GoodIn wsX2_ownUp wsX2_forceBehind := goodIn_r _ [7, 8, 2, 9, 10, 11, 6, 12, 13, 14, 15, 16, 17, 18, 19, 20, 21, 22, 23, 24, 25, 26, 27, 28, 29, 30, 31, 32, 33, 34] (by decide +kernel) (by decide +kernel)
set_option maxRecDepth 20000 in
theorem gX2_ownUp_X2_forceBehind : GoodIn wsX2_ownUp (wsV RX2 65 RX2 yX2_forceBehind wsX2_forceBehind) := goodIn_app (goodIn_of _ (by decide +kernel)) ggX2_ownUp_X2_forceBehind
theorem dX2_ownUp_0 : decode cX2_ownUp 0 = .ok (.aload_n 0, 1) := by decide +kernel
theorem dX2_ownUp_1 : decode cX2_ownUp 1 = .ok (.aload_n 0, 1) := by decide +kernel
theorem dX2_ownUp_2 : decode cX2_ownUp 2 = .ok (.iload_n 1, 1) := by decide +kernel
theorem dX2_ownUp_3 : decode cX2_ownUp 3 = .ok (.aload_n 0, 1) := by decide +kernel
theorem dX2_ownUp_4 : decode cX2_ownUp 4 = .ok (.getfield 31, 3) := by decide +kernel
theorem dX2_ownUp_7 : decode cX2_ownUp 7 = .ok (.invokevirtual 65, 3) := by decide +kernel
theorem dX2_ownUp_10 : decode cX2_ownUp 10 = .ok (.putfield 31, 3) := by decide +kernel
theorem dX2_ownUp_13 : decode cX2_ownUp 13 = .ok (.aload_n 0, 1) := by decide +kernel
theorem dX2_ownUp_14 : decode cX2_ownUp 14 = .ok (.getfield 15, 3) := by decide +kernel
theorem dX2_ownUp_17 : decode cX2_ownUp 17 = .ok (.iload_n 1, 1) := by decide +kernel
theorem dX2_ownUp_18 : decode cX2_ownUp 18 = .ok (.aload_n 0, 1) := by decide +kernel
theorem dX2_ownUp_19 : decode cX2_ownUp 19 = .ok (.getfield 15, 3) := by decide +kernel
theorem dX2_ownUp_22 : decode cX2_ownUp 22 = .ok (.iload_n 1, 1) := by decide +kernel
theorem dX2_ownUp_23 : decode cX2_ownUp 23 = .ok (.iaload, 1) := by decide +kernel
theorem dX2_ownUp_24 : decode cX2_ownUp 24 = .ok (.iconst 2, 1) := by decide +kernel
theorem dX2_ownUp_25 : decode cX2_ownUp 25 = .ok (.idiv, 1) := by decide +kernel
theorem dX2_ownUp_26 : decode cX2_ownUp 26 = .ok (.iastore, 1) := by decide +kernel
theorem dX2_ownUp_27 : decode cX2_ownUp 27 = .ok (.return_, 1) := by decide +kernel
theorem dX2_passHour_0 : decode cX2_passHour 0 = .ok (.aload_n 0, 1) := by decide +kernel
theorem dX2_passHour_1 : decode cX2_passHour 1 = .ok (.getfield 31, 3) := by decide +kernel
theorem dX2_passHour_4 : decode cX2_passHour 4 = .ok (.iconst 5, 1) := by decide +kernel
theorem dX2_passHour_5 : decode cX2_passHour 5 = .ok (.idiv, 1) := by decide +kernel
theorem dX2_passHour_6 : decode cX2_passHour 6 = .ok (.aload_n 0, 1) := by decide +kernel
theorem dX2_passHour_7 : decode cX2_passHour 7 = .ok (.getfield 18, 3) := by decide +kernel
theorem dX2_passHour_10 : decode cX2_passHour 10 = .ok (.aload_n 0, 1) := by decide +kernel
theorem dX2_passHour_11 : decode cX2_passHour 11 = .ok (.getfield 40, 3) := by decide +kernel
theorem dX2_passHour_14 : decode cX2_passHour 14 = .ok (.iaload, 1) := by decide +kernel
theorem dX2_passHour_15 : decode cX2_passHour 15 = .ok (.invokestatic 49, 3) := by decide +kernel
theorem dX2_passHour_18 : decode cX2_passHour 18 = .ok (.istore_n 1, 1) := by decide +kernel
theorem dX2_passHour_19 : decode cX2_passHour 19 = .ok (.aload_n 0, 1) := by decide +kernel
theorem dX2_passHour_20 : decode cX2_passHour 20 = .ok (.getfield 18, 3) := by decide +kernel
theorem dX2_passHour_23 : decode cX2_passHour 23 = .ok (.aload_n 0, 1) := by decide +kernel
theorem dX2_passHour_24 : decode cX2_passHour 24 = .ok (.getfield 40, 3) := by decide +kernel
theorem dX2_passHour_27 : decode cX2_passHour 27 = .ok (.dup2, 1) := by decide +kernel
theorem dX2_passHour_28 : decode cX2_passHour 28 = .ok (.iaload, 1) := by decide +kernel
theorem dX2_passHour_29 : decode cX2_passHour 29 = .ok (.iload_n 1, 1) := by decide +kernel
theorem dX2_passHour_30 : decode cX2_passHour 30 = .ok (.isub, 1) := by decide +kernel
theorem dX2_passHour_31 : decode cX2_passHour 31 = .ok (.iastore, 1) := by decide +kernel
theorem dX2_passHour_32 : decode cX2_passHour 32 = .ok (.aload_n 0, 1) := by decide +kernel
theorem dX2_passHour_33 : decode cX2_passHour 33 = .ok (.ldc 68, 2) := by decide +kernel
theorem dX2_passHour_35 : decode cX2_passHour 35 = .ok (.aload_n 0, 1) := by decide +kernel
theorem dX2_passHour_36 : decode cX2_passHour 36 = .ok (.getfield 46, 3) := by decide +kernel
theorem dX2_passHour_39 : decode cX2_passHour 39 = .ok (.iload_n 1, 1) := by decide +kernel
theorem dX2_passHour_40 : decode cX2_passHour 40 = .ok (.iadd, 1) := by decide +kernel
theorem dX2_passHour_41 : decode cX2_passHour 41 = .ok (.invokestatic 49, 3) := by decide +kernel
theorem dX2_passHour_44 : decode cX2_passHour 44 = .ok (.putfield 46, 3) := by decide +kernel
theorem dX2_passHour_47 : decode cX2_passHour 47 = .ok (.aload_n 0, 1) := by decide +kernel
theorem dX2_passHour_48 : decode cX2_passHour 48 = .ok (.getfield 43, 3) := by decide +kernel
theorem dX2_passHour_51 : decode cX2_passHour 51 = .ok (.iconst 1, 1) := by decide +kernel
theorem dX2_passHour_52 : decode cX2_passHour 52 = .ok (.if_icmp .ne 12, 3) := by decide +kernel
theorem dX2_passHour_55 : decode cX2_passHour 55 = .ok (.aload_n 0, 1) := by decide +kernel
theorem dX2_passHour_56 : decode cX2_passHour 56 = .ok (.getfield 40, 3) := by decide +kernel
theorem dX2_passHour_59 : decode cX2_passHour 59 = .ok (.iconst 1, 1) := by decide +kernel
theorem dX2_passHour_60 : decode cX2_passHour 60 = .ok (.iadd, 1) := by decide +kernel
theorem dX2_passHour_61 : decode cX2_passHour 61 = .ok (.goto 9, 3) := by decide +kernel
theorem dX2_passHour_64 : decode cX2_passHour 64 = .ok (.aload_n 0, 1) := by decide +kernel
theorem dX2_passHour_65 : decode cX2_passHour 65 = .ok (.getfield 40, 3) := by decide +kernel
theorem dX2_passHour_68 : decode cX2_passHour 68 = .ok (.iconst 1, 1) := by decide +kernel
theorem dX2_passHour_69 : decode cX2_passHour 69 = .ok (.isub, 1) := by decide +kernel
theorem dX2_passHour_70 : decode cX2_passHour 70 = .ok (.istore_n 2, 1) := by decide +kernel
theorem dX2_passHour_71 : decode cX2_passHour 71 = .ok (.iload_n 2, 1) := by decide +kernel
theorem dX2_passHour_72 : decode cX2_passHour 72 = .ok (.ifCond .lt 11, 3) := by decide +kernel
theorem dX2_passHour_75 : decode cX2_passHour 75 = .ok (.iload_n 2, 1) := by decide +kernel
theorem dX2_passHour_76 : decode cX2_passHour 76 = .ok (.aload_n 0, 1) := by decide +kernel
theorem dX2_passHour_77 : decode cX2_passHour 77 = .ok (.getfield 27, 3) := by decide +kernel
theorem dX2_passHour_80 : decode cX2_passHour 80 = .ok (.if_icmp .lt 16, 3) := by decide +kernel
theorem dX2_passHour_83 : decode cX2_passHour 83 = .ok (.aload_n 0, 1) := by decide +kernel
theorem dX2_passHour_84 : decode cX2_passHour 84 = .ok (.iconst 1, 1) := by decide +kernel
theorem dX2_passHour_85 : decode cX2_passHour 85 = .ok (.aload_n 0, 1) := by decide +kernel
theorem dX2_passHour_86 : decode cX2_passHour 86 = .ok (.getfield 43, 3) := by decide +kernel
theorem dX2_passHour_89 : decode cX2_passHour 89 = .ok (.isub, 1) := by decide +kernel
theorem dX2_passHour_90 : decode cX2_passHour 90 = .ok (.putfield 43, 3) := by decide +kernel
theorem dX2_passHour_93 : decode cX2_passHour 93 = .ok (.goto 8, 3) := by decide +kernel
theorem dX2_passHour_96 : decode cX2_passHour 96 = .ok (.aload_n 0, 1) := by decide +kernel
theorem dX2_passHour_97 : decode cX2_passHour 97 = .ok (.iload_n 2, 1) := by decide +kernel
theorem dX2_passHour_98 : decode cX2_passHour 98 = .ok (.putfield 40, 3) := by decide +kernel
theorem dX2_passHour_101 : decode cX2_passHour 101 = .ok (.aload_n 0, 1) := by decide +kernel
theorem dX2_passHour_102 : decode cX2_passHour 102 = .ok (.iconst 0, 1) := by decide +kernel
theorem dX2_passHour_103 : decode cX2_passHour 103 = .ok (.aload_n 0, 1) := by decide +kernel
theorem dX2_passHour_104 : decode cX2_passHour 104 = .ok (.getfield 31, 3) := by decide +kernel
theorem dX2_passHour_107 : decode cX2_passHour 107 = .ok (.aload_n 0, 1) := by decide +kernel
theorem dX2_passHour_108 : decode cX2_passHour 108 = .ok (.getfield 34, 3) := by decide +kernel
theorem dX2_passHour_111 : decode cX2_passHour 111 = .ok (.isub, 1) := by decide +kernel
theorem dX2_passHour_112 : decode cX2_passHour 112 = .ok (.invokestatic 59, 3) := by decide +kernel
theorem dX2_passHour_115 : decode cX2_passHour 115 = .ok (.putfield 31, 3) := by decide +kernel
theorem dX2_passHour_118 : decode cX2_passHour 118 = .ok (.aload_n 0, 1) := by decide +kernel
theorem dX2_passHour_119 : decode cX2_passHour 119 = .ok (.dup, 1) := by decide +kernel
theorem dX2_passHour_120 : decode cX2_passHour 120 = .ok (.getfield 37, 3) := by decide +kernel
theorem dX2_passHour_123 : decode cX2_passHour 123 = .ok (.iconst 1, 1) := by decide +kernel
theorem dX2_passHour_124 : decode cX2_passHour 124 = .ok (.iadd, 1) := by decide +kernel
theorem dX2_passHour_125 : decode cX2_passHour 125 = .ok (.putfield 37, 3) := by decide +kernel
theorem dX2_passHour_128 : decode cX2_passHour 128 = .ok (.return_, 1) := by decide +kernel
set_option maxRecDepth 20000 in
theorem ggX2_meet_X2_ownUp : GoodIn wsX2_meet wsX2_ownUp := goodIn_r _ [8, 2, 9, 10, 11, 12, 7, 13, 14, 15, 16, 17, 18, 19, 20, 21, 22, 23, 24, 25, 26, 27, 28, 29, 30, 31, 32, 33, 34, 35, 36, 37, 38, 39, 40] (by decide +kernel) (by decide +kernel)
set_option maxRecDepth 20000 in
theorem gX2_meet_X2_ownUp : GoodIn wsX2_meet (wsV RX2 69 RX2 yX2_ownUp wsX2_ownUp) := goodIn_app (goodIn_of _ (by decide +kernel)) ggX2_meet_X2_ownUp
theorem dX2_meet_0 : decode cX2_meet 0 = .ok (.aload_n 0, 1) := by decide +kernel
theorem dX2_meet_1 : decode cX2_meet 1 = .ok (.getfield 27, 3) := by decide +kernel
theorem dX2_meet_4 : decode cX2_meet 4 = .ok (.ifCond .ne 4, 3) := by decide +kernel
theorem dX2_meet_7 : decode cX2_meet 7 = .ok (.return_, 1) := by decide +kernel
theorem dX2_meet_8 : decode cX2_meet 8 = .ok (.aload_n 0, 1) := by decide +kernel
theorem dX2_meet_9 : decode cX2_meet 9 = .ok (.getfield 31, 3) := by decide +kernel
theorem dX2_meet_12 : decode cX2_meet 12 = .ok (.ifCond .ne 24, 3) := by decide +kernel
theorem dX2_meet_15 : decode cX2_meet 15 = .ok (.aload_n 0, 1) := by decide +kernel
theorem dX2_meet_16 : decode cX2_meet 16 = .ok (.iload_n 1, 1) := by decide +kernel
theorem dX2_meet_17 : decode cX2_meet 17 = .ok (.bipush 61, 2) := by decide +kernel
theorem dX2_meet_19 : decode cX2_meet 19 = .ok (.irem, 1) := by decide +kernel
theorem dX2_meet_20 : decode cX2_meet 20 = .ok (.putfield 31, 3) := by decide +kernel
theorem dX2_meet_23 : decode cX2_meet 23 = .ok (.aload_n 0, 1) := by decide +kernel
theorem dX2_meet_24 : decode cX2_meet 24 = .ok (.iload_n 1, 1) := by decide +kernel
theorem dX2_meet_25 : decode cX2_meet 25 = .ok (.aload_n 0, 1) := by decide +kernel
theorem dX2_meet_26 : decode cX2_meet 26 = .ok (.getfield 27, 3) := by decide +kernel
theorem dX2_meet_29 : decode cX2_meet 29 = .ok (.irem, 1) := by decide +kernel
theorem dX2_meet_30 : decode cX2_meet 30 = .ok (.putfield 40, 3) := by decide +kernel
theorem dX2_meet_33 : decode cX2_meet 33 = .ok (.goto 19, 3) := by decide +kernel
theorem dX2_meet_36 : decode cX2_meet 36 = .ok (.iload_n 1, 1) := by decide +kernel
theorem dX2_meet_37 : decode cX2_meet 37 = .ok (.iconst 3, 1) := by decide +kernel
theorem dX2_meet_38 : decode cX2_meet 38 = .ok (.irem, 1) := by decide +kernel
theorem dX2_meet_39 : decode cX2_meet 39 = .ok (.ifCond .ne 13, 3) := by decide +kernel
theorem dX2_meet_42 : decode cX2_meet 42 = .ok (.aload_n 0, 1) := by decide +kernel
theorem dX2_meet_43 : decode cX2_meet 43 = .ok (.iload_n 1, 1) := by decide +kernel
theorem dX2_meet_44 : decode cX2_meet 44 = .ok (.aload_n 0, 1) := by decide +kernel
theorem dX2_meet_45 : decode cX2_meet 45 = .ok (.getfield 27, 3) := by decide +kernel
theorem dX2_meet_48 : decode cX2_meet 48 = .ok (.irem, 1) := by decide +kernel
theorem dX2_meet_49 : decode cX2_meet 49 = .ok (.invokevirtual 69, 3) := by decide +kernel
theorem dX2_meet_52 : decode cX2_meet 52 = .ok (.return_, 1) := by decide +kernel
theorem dX2_firstBare_0 : decode cX2_firstBare 0 = .ok (.iconst 0, 1) := by decide +kernel
theorem dX2_firstBare_1 : decode cX2_firstBare 1 = .ok (.istore_n 1, 1) := by decide +kernel
theorem dX2_firstBare_2 : decode cX2_firstBare 2 = .ok (.iload_n 1, 1) := by decide +kernel
theorem dX2_firstBare_3 : decode cX2_firstBare 3 = .ok (.aload_n 0, 1) := by decide +kernel
theorem dX2_firstBare_4 : decode cX2_firstBare 4 = .ok (.getfield 27, 3) := by decide +kernel
theorem dX2_firstBare_7 : decode cX2_firstBare 7 = .ok (.if_icmp .ge 20, 3) := by decide +kernel
theorem dX2_firstBare_10 : decode cX2_firstBare 10 = .ok (.aload_n 0, 1) := by decide +kernel
theorem dX2_firstBare_11 : decode cX2_firstBare 11 = .ok (.getfield 18, 3) := by decide +kernel
theorem dX2_firstBare_14 : decode cX2_firstBare 14 = .ok (.iload_n 1, 1) := by decide +kernel
theorem dX2_firstBare_15 : decode cX2_firstBare 15 = .ok (.iaload, 1) := by decide +kernel
theorem dX2_firstBare_16 : decode cX2_firstBare 16 = .ok (.ifCond .ne 5, 3) := by decide +kernel
theorem dX2_firstBare_19 : decode cX2_firstBare 19 = .ok (.iload_n 1, 1) := by decide +kernel
theorem dX2_firstBare_20 : decode cX2_firstBare 20 = .ok (.ireturn, 1) := by decide +kernel
theorem dX2_firstBare_21 : decode cX2_firstBare 21 = .ok (.iinc 1 1, 3) := by decide +kernel
theorem dX2_firstBare_24 : decode cX2_firstBare 24 = .ok (.goto (-22), 3) := by decide +kernel
theorem dX2_firstBare_27 : decode cX2_firstBare 27 = .ok (.ldc 73, 2) := by decide +kernel
theorem dX2_firstBare_29 : decode cX2_firstBare 29 = .ok (.ireturn, 1) := by decide +kernel
theorem dX2_allBare_0 : decode cX2_allBare 0 = .ok (.iconst 0, 1) := by decide +kernel
theorem dX2_allBare_1 : decode cX2_allBare 1 = .ok (.istore_n 1, 1) := by decide +kernel
theorem dX2_allBare_2 : decode cX2_allBare 2 = .ok (.iconst 0, 1) := by decide +kernel
theorem dX2_allBare_3 : decode cX2_allBare 3 = .ok (.istore_n 2, 1) := by decide +kernel
theorem dX2_allBare_4 : decode cX2_allBare 4 = .ok (.iload_n 2, 1) := by decide +kernel
theorem dX2_allBare_5 : decode cX2_allBare 5 = .ok (.aload_n 0, 1) := by decide +kernel
theorem dX2_allBare_6 : decode cX2_allBare 6 = .ok (.getfield 27, 3) := by decide +kernel
theorem dX2_allBare_9 : decode cX2_allBare 9 = .ok (.if_icmp .ge 26, 3) := by decide +kernel
theorem dX2_allBare_12 : decode cX2_allBare 12 = .ok (.iload_n 1, 1) := by decide +kernel
theorem dX2_allBare_13 : decode cX2_allBare 13 = .ok (.aload_n 0, 1) := by decide +kernel
theorem dX2_allBare_14 : decode cX2_allBare 14 = .ok (.getfield 18, 3) := by decide +kernel
theorem dX2_allBare_17 : decode cX2_allBare 17 = .ok (.iload_n 2, 1) := by decide +kernel
theorem dX2_allBare_18 : decode cX2_allBare 18 = .ok (.iaload, 1) := by decide +kernel
theorem dX2_allBare_19 : decode cX2_allBare 19 = .ok (.ifCond .ne 7, 3) := by decide +kernel
theorem dX2_allBare_22 : decode cX2_allBare 22 = .ok (.iconst 1, 1) := by decide +kernel
theorem dX2_allBare_23 : decode cX2_allBare 23 = .ok (.goto 4, 3) := by decide +kernel
theorem dX2_allBare_26 : decode cX2_allBare 26 = .ok (.iconst 0, 1) := by decide +kernel
theorem dX2_allBare_27 : decode cX2_allBare 27 = .ok (.iadd, 1) := by decide +kernel
theorem dX2_allBare_28 : decode cX2_allBare 28 = .ok (.istore_n 1, 1) := by decide +kernel
theorem dX2_allBare_29 : decode cX2_allBare 29 = .ok (.iinc 2 1, 3) := by decide +kernel
theorem dX2_allBare_32 : decode cX2_allBare 32 = .ok (.goto (-28), 3) := by decide +kernel
theorem dX2_allBare_35 : decode cX2_allBare 35 = .ok (.iload_n 1, 1) := by decide +kernel
theorem dX2_allBare_36 : decode cX2_allBare 36 = .ok (.ireturn, 1) := by decide +kernel
theorem dX2_allRoofs_0 : decode cX2_allRoofs 0 = .ok (.iconst 0, 1) := by decide +kernel
theorem dX2_allRoofs_1 : decode cX2_allRoofs 1 = .ok (.istore_n 1, 1) := by decide +kernel
theorem dX2_allRoofs_2 : decode cX2_allRoofs 2 = .ok (.iconst 0, 1) := by decide +kernel
theorem dX2_allRoofs_3 : decode cX2_allRoofs 3 = .ok (.istore_n 2, 1) := by decide +kernel
theorem dX2_allRoofs_4 : decode cX2_allRoofs 4 = .ok (.iload_n 2, 1) := by decide +kernel
theorem dX2_allRoofs_5 : decode cX2_allRoofs 5 = .ok (.aload_n 0, 1) := by decide +kernel
theorem dX2_allRoofs_6 : decode cX2_allRoofs 6 = .ok (.getfield 27, 3) := by decide +kernel
theorem dX2_allRoofs_9 : decode cX2_allRoofs 9 = .ok (.if_icmp .ge 18, 3) := by decide +kernel
theorem dX2_allRoofs_12 : decode cX2_allRoofs 12 = .ok (.iload_n 1, 1) := by decide +kernel
theorem dX2_allRoofs_13 : decode cX2_allRoofs 13 = .ok (.aload_n 0, 1) := by decide +kernel
theorem dX2_allRoofs_14 : decode cX2_allRoofs 14 = .ok (.getfield 18, 3) := by decide +kernel
theorem dX2_allRoofs_17 : decode cX2_allRoofs 17 = .ok (.iload_n 2, 1) := by decide +kernel
theorem dX2_allRoofs_18 : decode cX2_allRoofs 18 = .ok (.iaload, 1) := by decide +kernel
theorem dX2_allRoofs_19 : decode cX2_allRoofs 19 = .ok (.iadd, 1) := by decide +kernel
theorem dX2_allRoofs_20 : decode cX2_allRoofs 20 = .ok (.istore_n 1, 1) := by decide +kernel
theorem dX2_allRoofs_21 : decode cX2_allRoofs 21 = .ok (.iinc 2 1, 3) := by decide +kernel
theorem dX2_allRoofs_24 : decode cX2_allRoofs 24 = .ok (.goto (-20), 3) := by decide +kernel
theorem dX2_allRoofs_27 : decode cX2_allRoofs 27 = .ok (.iload_n 1, 1) := by decide +kernel
theorem dX2_allRoofs_28 : decode cX2_allRoofs 28 = .ok (.ireturn, 1) := by decide +kernel
theorem dX3_init_0 : decode cX3_init 0 = .ok (.aload_n 0, 1) := by decide +kernel
theorem dX3_init_1 : decode cX3_init 1 = .ok (.invokespecial 3, 3) := by decide +kernel
theorem dX3_init_4 : decode cX3_init 4 = .ok (.aload_n 0, 1) := by decide +kernel
theorem dX3_init_5 : decode cX3_init 5 = .ok (.bipush 7, 2) := by decide +kernel
theorem dX3_init_7 : decode cX3_init 7 = .ok (.newarray .int, 2) := by decide +kernel
theorem dX3_init_9 : decode cX3_init 9 = .ok (.putfield 9, 3) := by decide +kernel
theorem dX3_init_12 : decode cX3_init 12 = .ok (.aload_n 0, 1) := by decide +kernel
theorem dX3_init_13 : decode cX3_init 13 = .ok (.sipush 128, 3) := by decide +kernel
theorem dX3_init_16 : decode cX3_init 16 = .ok (.newarray .long, 2) := by decide +kernel
theorem dX3_init_18 : decode cX3_init 18 = .ok (.putfield 15, 3) := by decide +kernel
theorem dX3_init_21 : decode cX3_init 21 = .ok (.aload_n 0, 1) := by decide +kernel
theorem dX3_init_22 : decode cX3_init 22 = .ok (.bipush 7, 2) := by decide +kernel
theorem dX3_init_24 : decode cX3_init 24 = .ok (.newarray .int, 2) := by decide +kernel
theorem dX3_init_26 : decode cX3_init 26 = .ok (.putfield 19, 3) := by decide +kernel
theorem dX3_init_29 : decode cX3_init 29 = .ok (.return_, 1) := by decide +kernel
set_option maxRecDepth 20000 in
theorem ggX3_seek_J7_fill_d0a16 : GoodIn wsX3_seek wsJ7_fill_d0a16 := goodIn_r _ [8] (by decide +kernel) (by decide +kernel)
set_option maxRecDepth 20000 in
theorem gX3_seek_J7_fill_d0a16 : GoodIn wsX3_seek (va_wsS RX3 22 yJ7_fill_d0a16 wsJ7_fill_d0a16) := goodIn_app (goodIn_of _ (by decide +kernel)) ggX3_seek_J7_fill_d0a16
set_option maxRecDepth 20000 in
theorem ggX3_seek_X3_goOn : GoodIn wsX3_seek wsX3_goOn := goodIn_r _ [13, 14, 15, 16, 17, 18, 12, 19, 1, 20, 21, 22, 23, 24, 25, 26, 27, 28, 29, 30, 31, 32, 33, 34, 35, 36, 37, 38, 39, 40, 41, 42, 43, 44, 45, 46, 4, 2, 47, 48, 49, 50, 51, 9, 10, 11, 57, 58, 59, 60, 61, 62, 63, 64, 65, 66, 52, 53, 54, 55, 56] (by decide +kernel) (by decide +kernel)
set_option maxRecDepth 20000 in
theorem gX3_seek_X3_goOn : GoodIn wsX3_seek (wsV RX3 40 RX3 yX3_goOn wsX3_goOn) := goodIn_app (goodIn_of _ (by decide +kernel)) ggX3_seek_X3_goOn
theorem dX3_seek_0 : decode cX3_seek 0 = .ok (.aload_n 0, 1) := by decide +kernel
theorem dX3_seek_1 : decode cX3_seek 1 = .ok (.getfield 15, 3) := by decide +kernel
theorem dX3_seek_4 : decode cX3_seek 4 = .ok (.lconst 0, 1) := by decide +kernel
theorem dX3_seek_5 : decode cX3_seek 5 = .ok (.invokestatic 22, 3) := by decide +kernel
theorem dX3_seek_8 : decode cX3_seek 8 = .ok (.aload_n 0, 1) := by decide +kernel
theorem dX3_seek_9 : decode cX3_seek 9 = .ok (.iconst 0, 1) := by decide +kernel
theorem dX3_seek_10 : decode cX3_seek 10 = .ok (.putfield 28, 3) := by decide +kernel
theorem dX3_seek_13 : decode cX3_seek 13 = .ok (.aload_n 0, 1) := by decide +kernel
theorem dX3_seek_14 : decode cX3_seek 14 = .ok (.aload_n 1, 1) := by decide +kernel
theorem dX3_seek_15 : decode cX3_seek 15 = .ok (.getfield 32, 3) := by decide +kernel
theorem dX3_seek_18 : decode cX3_seek 18 = .ok (.putfield 37, 3) := by decide +kernel
theorem dX3_seek_21 : decode cX3_seek 21 = .ok (.aload_n 0, 1) := by decide +kernel
theorem dX3_seek_22 : decode cX3_seek 22 = .ok (.aload_n 1, 1) := by decide +kernel
theorem dX3_seek_23 : decode cX3_seek 23 = .ok (.aload_n 1, 1) := by decide +kernel
theorem dX3_seek_24 : decode cX3_seek 24 = .ok (.getfield 32, 3) := by decide +kernel
theorem dX3_seek_27 : decode cX3_seek 27 = .ok (.iconst 0, 1) := by decide +kernel
theorem dX3_seek_28 : decode cX3_seek 28 = .ok (.iconst 0, 1) := by decide +kernel
theorem dX3_seek_29 : decode cX3_seek 29 = .ok (.invokevirtual 40, 3) := by decide +kernel
theorem dX3_seek_32 : decode cX3_seek 32 = .ok (.return_, 1) := by decide +kernel
set_option maxRecDepth 20000 in
theorem ggX3_goOn_X3_isOld : GoodIn wsX3_goOn wsX3_isOld := goodIn_r _ [7, 8, 56, 57, 58, 59, 60] (by decide +kernel) (by decide +kernel)
set_option maxRecDepth 20000 in
theorem gX3_goOn_X3_isOld : GoodIn wsX3_goOn (wsV RX3 47 RX3 yX3_isOld wsX3_isOld) := goodIn_app (goodIn_of _ (by decide +kernel)) ggX3_goOn_X3_isOld
set_option maxRecDepth 20000 in
theorem ggX3_goOn_X2_forceBehind : GoodIn wsX3_goOn wsX2_forceBehind := goodIn_r _ [13, 14, 15, 16, 17, 18, 12, 19, 20, 21, 22, 23, 24, 25, 26, 27, 28, 29, 30, 31, 46, 47, 48, 49, 50, 51, 52, 53, 54, 55] (by decide +kernel) (by decide +kernel)
set_option maxRecDepth 20000 in
theorem gX3_goOn_X2_forceBehind : GoodIn wsX3_goOn (wsV RX3 51 RX2 yX2_forceBehind wsX2_forceBehind) := goodIn_app (goodIn_of _ (by decide +kernel)) ggX3_goOn_X2_forceBehind
set_option maxRecDepth 20000 in
theorem ggX3_goOn_X3_judge : GoodIn wsX3_goOn wsX3_judge := goodIn_r _ [35, 36, 37, 2, 38, 39, 40, 41, 42, 56, 57, 58, 59, 60] (by decide +kernel) (by decide +kernel)
set_option maxRecDepth 20000 in
theorem gX3_goOn_X3_judge : GoodIn wsX3_goOn (wsV RX3 55 RX3 yX3_judge wsX3_judge) := goodIn_app (goodIn_of _ (by decide +kernel)) ggX3_goOn_X3_judge
set_option maxRecDepth 20000 in
theorem ggX3_goOn_X3_goOn : GoodIn wsX3_goOn wsX3_goOn := goodIn_r _ [0, 1, 2, 3, 4, 5, 6, 7, 8, 9, 10, 11, 12, 13, 14, 15, 16, 17, 18, 19, 20, 21, 22, 23, 24, 25, 26, 27, 28, 29, 30, 31, 32, 33, 34, 35, 36, 37, 38, 39, 40, 41, 42, 43, 44, 45, 46, 47, 48, 49, 50, 51, 52, 53, 54, 55, 56, 57, 58, 59, 60] (by decide +kernel) (by decide +kernel)
set_option maxRecDepth 20000 in
theorem gX3_goOn_X3_goOn : GoodIn wsX3_goOn (wsV RX3 40 RX3 yX3_goOn wsX3_goOn) := goodIn_app (goodIn_of _ (by decide +kernel)) ggX3_goOn_X3_goOn
theorem dX3_goOn_0 : decode cX3_goOn 0 = .ok (.iload 4, 2) := by decide +kernel
theorem dX3_goOn_2 : decode cX3_goOn 2 = .ok (.aload_n 1, 1) := by decide +kernel
theorem dX3_goOn_3 : decode cX3_goOn 3 = .ok (.getfield 44, 3) := by decide +kernel
theorem dX3_goOn_6 : decode cX3_goOn 6 = .ok (.if_icmp .ge 19, 3) := by decide +kernel
theorem dX3_goOn_9 : decode cX3_goOn 9 = .ok (.iload 4, 2) := by decide +kernel
theorem dX3_goOn_11 : decode cX3_goOn 11 = .ok (.bipush 7, 2) := by decide +kernel
theorem dX3_goOn_13 : decode cX3_goOn 13 = .ok (.if_icmp .ge 12, 3) := by decide +kernel
theorem dX3_goOn_16 : decode cX3_goOn 16 = .ok (.aload_n 0, 1) := by decide +kernel
theorem dX3_goOn_17 : decode cX3_goOn 17 = .ok (.iload_n 3, 1) := by decide +kernel
theorem dX3_goOn_18 : decode cX3_goOn 18 = .ok (.iload_n 2, 1) := by decide +kernel
theorem dX3_goOn_19 : decode cX3_goOn 19 = .ok (.invokevirtual 47, 3) := by decide +kernel
theorem dX3_goOn_22 : decode cX3_goOn 22 = .ok (.ifCond .eq 4, 3) := by decide +kernel
theorem dX3_goOn_25 : decode cX3_goOn 25 = .ok (.return_, 1) := by decide +kernel
theorem dX3_goOn_26 : decode cX3_goOn 26 = .ok (.iconst 0, 1) := by decide +kernel
theorem dX3_goOn_27 : decode cX3_goOn 27 = .ok (.istore 5, 2) := by decide +kernel
theorem dX3_goOn_29 : decode cX3_goOn 29 = .ok (.iload 5, 2) := by decide +kernel
theorem dX3_goOn_31 : decode cX3_goOn 31 = .ok (.aload_n 1, 1) := by decide +kernel
theorem dX3_goOn_32 : decode cX3_goOn 32 = .ok (.getfield 44, 3) := by decide +kernel
theorem dX3_goOn_35 : decode cX3_goOn 35 = .ok (.if_icmp .ge 63, 3) := by decide +kernel
theorem dX3_goOn_38 : decode cX3_goOn 38 = .ok (.iload_n 3, 1) := by decide +kernel
theorem dX3_goOn_39 : decode cX3_goOn 39 = .ok (.iload 5, 2) := by decide +kernel
theorem dX3_goOn_41 : decode cX3_goOn 41 = .ok (.ishr, 1) := by decide +kernel
theorem dX3_goOn_42 : decode cX3_goOn 42 = .ok (.iconst 1, 1) := by decide +kernel
theorem dX3_goOn_43 : decode cX3_goOn 43 = .ok (.iand, 1) := by decide +kernel
theorem dX3_goOn_44 : decode cX3_goOn 44 = .ok (.ifCond .ne 48, 3) := by decide +kernel
theorem dX3_goOn_47 : decode cX3_goOn 47 = .ok (.aload_n 0, 1) := by decide +kernel
theorem dX3_goOn_48 : decode cX3_goOn 48 = .ok (.getfield 9, 3) := by decide +kernel
theorem dX3_goOn_51 : decode cX3_goOn 51 = .ok (.iload 4, 2) := by decide +kernel
theorem dX3_goOn_53 : decode cX3_goOn 53 = .ok (.iload 5, 2) := by decide +kernel
theorem dX3_goOn_55 : decode cX3_goOn 55 = .ok (.iastore, 1) := by decide +kernel
theorem dX3_goOn_56 : decode cX3_goOn 56 = .ok (.aload_n 1, 1) := by decide +kernel
theorem dX3_goOn_57 : decode cX3_goOn 57 = .ok (.iload 5, 2) := by decide +kernel
theorem dX3_goOn_59 : decode cX3_goOn 59 = .ok (.iload_n 2, 1) := by decide +kernel
theorem dX3_goOn_60 : decode cX3_goOn 60 = .ok (.invokevirtual 51, 3) := by decide +kernel
theorem dX3_goOn_63 : decode cX3_goOn 63 = .ok (.istore 6, 2) := by decide +kernel
theorem dX3_goOn_65 : decode cX3_goOn 65 = .ok (.aload_n 0, 1) := by decide +kernel
theorem dX3_goOn_66 : decode cX3_goOn 66 = .ok (.iload 6, 2) := by decide +kernel
theorem dX3_goOn_68 : decode cX3_goOn 68 = .ok (.iload 4, 2) := by decide +kernel
theorem dX3_goOn_70 : decode cX3_goOn 70 = .ok (.iconst 1, 1) := by decide +kernel
theorem dX3_goOn_71 : decode cX3_goOn 71 = .ok (.iadd, 1) := by decide +kernel
theorem dX3_goOn_72 : decode cX3_goOn 72 = .ok (.invokevirtual 55, 3) := by decide +kernel
theorem dX3_goOn_75 : decode cX3_goOn 75 = .ok (.aload_n 0, 1) := by decide +kernel
theorem dX3_goOn_76 : decode cX3_goOn 76 = .ok (.aload_n 1, 1) := by decide +kernel
theorem dX3_goOn_77 : decode cX3_goOn 77 = .ok (.iload 6, 2) := by decide +kernel
theorem dX3_goOn_79 : decode cX3_goOn 79 = .ok (.iload_n 3, 1) := by decide +kernel
theorem dX3_goOn_80 : decode cX3_goOn 80 = .ok (.iconst 1, 1) := by decide +kernel
theorem dX3_goOn_81 : decode cX3_goOn 81 = .ok (.iload 5, 2) := by decide +kernel
theorem dX3_goOn_83 : decode cX3_goOn 83 = .ok (.ishl, 1) := by decide +kernel
theorem dX3_goOn_84 : decode cX3_goOn 84 = .ok (.ior, 1) := by decide +kernel
theorem dX3_goOn_85 : decode cX3_goOn 85 = .ok (.iload 4, 2) := by decide +kernel
theorem dX3_goOn_87 : decode cX3_goOn 87 = .ok (.iconst 1, 1) := by decide +kernel
theorem dX3_goOn_88 : decode cX3_goOn 88 = .ok (.iadd, 1) := by decide +kernel
theorem dX3_goOn_89 : decode cX3_goOn 89 = .ok (.invokevirtual 40, 3) := by decide +kernel
theorem dX3_goOn_92 : decode cX3_goOn 92 = .ok (.iinc 5 1, 3) := by decide +kernel
theorem dX3_goOn_95 : decode cX3_goOn 95 = .ok (.goto (-66), 3) := by decide +kernel
theorem dX3_goOn_98 : decode cX3_goOn 98 = .ok (.return_, 1) := by decide +kernel
theorem dX3_isOld_0 : decode cX3_isOld 0 = .ok (.aload_n 0, 1) := by decide +kernel
theorem dX3_isOld_1 : decode cX3_isOld 1 = .ok (.getfield 15, 3) := by decide +kernel
theorem dX3_isOld_4 : decode cX3_isOld 4 = .ok (.iload_n 1, 1) := by decide +kernel
theorem dX3_isOld_5 : decode cX3_isOld 5 = .ok (.laload, 1) := by decide +kernel
theorem dX3_isOld_6 : decode cX3_isOld 6 = .ok (.iload_n 2, 1) := by decide +kernel
theorem dX3_isOld_7 : decode cX3_isOld 7 = .ok (.lshr, 1) := by decide +kernel
theorem dX3_isOld_8 : decode cX3_isOld 8 = .ok (.lconst 1, 1) := by decide +kernel
theorem dX3_isOld_9 : decode cX3_isOld 9 = .ok (.land, 1) := by decide +kernel
theorem dX3_isOld_10 : decode cX3_isOld 10 = .ok (.lconst 0, 1) := by decide +kernel
theorem dX3_isOld_11 : decode cX3_isOld 11 = .ok (.lcmp, 1) := by decide +kernel
theorem dX3_isOld_12 : decode cX3_isOld 12 = .ok (.ifCond .eq 7, 3) := by decide +kernel
theorem dX3_isOld_15 : decode cX3_isOld 15 = .ok (.iconst 1, 1) := by decide +kernel
theorem dX3_isOld_16 : decode cX3_isOld 16 = .ok (.goto 4, 3) := by decide +kernel
theorem dX3_isOld_19 : decode cX3_isOld 19 = .ok (.iconst 0, 1) := by decide +kernel
theorem dX3_isOld_20 : decode cX3_isOld 20 = .ok (.istore_n 3, 1) := by decide +kernel
theorem dX3_isOld_21 : decode cX3_isOld 21 = .ok (.aload_n 0, 1) := by decide +kernel
theorem dX3_isOld_22 : decode cX3_isOld 22 = .ok (.getfield 15, 3) := by decide +kernel
theorem dX3_isOld_25 : decode cX3_isOld 25 = .ok (.iload_n 1, 1) := by decide +kernel
theorem dX3_isOld_26 : decode cX3_isOld 26 = .ok (.dup2, 1) := by decide +kernel
theorem dX3_isOld_27 : decode cX3_isOld 27 = .ok (.laload, 1) := by decide +kernel
theorem dX3_isOld_28 : decode cX3_isOld 28 = .ok (.lconst 1, 1) := by decide +kernel
theorem dX3_isOld_29 : decode cX3_isOld 29 = .ok (.iload_n 2, 1) := by decide +kernel
theorem dX3_isOld_30 : decode cX3_isOld 30 = .ok (.lshl, 1) := by decide +kernel
theorem dX3_isOld_31 : decode cX3_isOld 31 = .ok (.lor, 1) := by decide +kernel
theorem dX3_isOld_32 : decode cX3_isOld 32 = .ok (.lastore, 1) := by decide +kernel
theorem dX3_isOld_33 : decode cX3_isOld 33 = .ok (.iload_n 3, 1) := by decide +kernel
theorem dX3_isOld_34 : decode cX3_isOld 34 = .ok (.ireturn, 1) := by decide +kernel
theorem dX3_judge_0 : decode cX3_judge 0 = .ok (.iload_n 1, 1) := by decide +kernel
theorem dX3_judge_1 : decode cX3_judge 1 = .ok (.aload_n 0, 1) := by decide +kernel
theorem dX3_judge_2 : decode cX3_judge 2 = .ok (.getfield 37, 3) := by decide +kernel
theorem dX3_judge_5 : decode cX3_judge 5 = .ok (.if_icmp .lt 19, 3) := by decide +kernel
theorem dX3_judge_8 : decode cX3_judge 8 = .ok (.iload_n 1, 1) := by decide +kernel
theorem dX3_judge_9 : decode cX3_judge 9 = .ok (.aload_n 0, 1) := by decide +kernel
theorem dX3_judge_10 : decode cX3_judge 10 = .ok (.getfield 37, 3) := by decide +kernel
theorem dX3_judge_13 : decode cX3_judge 13 = .ok (.if_icmp .ne 35, 3) := by decide +kernel
theorem dX3_judge_16 : decode cX3_judge 16 = .ok (.iload_n 2, 1) := by decide +kernel
theorem dX3_judge_17 : decode cX3_judge 17 = .ok (.aload_n 0, 1) := by decide +kernel
theorem dX3_judge_18 : decode cX3_judge 18 = .ok (.getfield 28, 3) := by decide +kernel
theorem dX3_judge_21 : decode cX3_judge 21 = .ok (.if_icmp .ge 27, 3) := by decide +kernel
theorem dX3_judge_24 : decode cX3_judge 24 = .ok (.aload_n 0, 1) := by decide +kernel
theorem dX3_judge_25 : decode cX3_judge 25 = .ok (.iload_n 1, 1) := by decide +kernel
theorem dX3_judge_26 : decode cX3_judge 26 = .ok (.putfield 37, 3) := by decide +kernel
theorem dX3_judge_29 : decode cX3_judge 29 = .ok (.aload_n 0, 1) := by decide +kernel
theorem dX3_judge_30 : decode cX3_judge 30 = .ok (.iload_n 2, 1) := by decide +kernel
theorem dX3_judge_31 : decode cX3_judge 31 = .ok (.putfield 28, 3) := by decide +kernel
theorem dX3_judge_34 : decode cX3_judge 34 = .ok (.aload_n 0, 1) := by decide +kernel
theorem dX3_judge_35 : decode cX3_judge 35 = .ok (.getfield 9, 3) := by decide +kernel
theorem dX3_judge_38 : decode cX3_judge 38 = .ok (.iconst 0, 1) := by decide +kernel
theorem dX3_judge_39 : decode cX3_judge 39 = .ok (.aload_n 0, 1) := by decide +kernel
theorem dX3_judge_40 : decode cX3_judge 40 = .ok (.getfield 19, 3) := by decide +kernel
theorem dX3_judge_43 : decode cX3_judge 43 = .ok (.iconst 0, 1) := by decide +kernel
theorem dX3_judge_44 : decode cX3_judge 44 = .ok (.iload_n 2, 1) := by decide +kernel
theorem dX3_judge_45 : decode cX3_judge 45 = .ok (.invokestatic 59, 3) := by decide +kernel
theorem dX3_judge_48 : decode cX3_judge 48 = .ok (.return_, 1) := by decide +kernel
theorem dX4_init_0 : decode cX4_init 0 = .ok (.aload_n 0, 1) := by decide +kernel
theorem dX4_init_1 : decode cX4_init 1 = .ok (.invokespecial 3, 3) := by decide +kernel
theorem dX4_init_4 : decode cX4_init 4 = .ok (.aload_n 0, 1) := by decide +kernel
theorem dX4_init_5 : decode cX4_init 5 = .ok (.bipush 8, 2) := by decide +kernel
theorem dX4_init_7 : decode cX4_init 7 = .ok (.newarray .boolean, 2) := by decide +kernel
theorem dX4_init_9 : decode cX4_init 9 = .ok (.putfield 9, 3) := by decide +kernel
theorem dX4_init_12 : decode cX4_init 12 = .ok (.aload_n 0, 1) := by decide +kernel
theorem dX4_init_13 : decode cX4_init 13 = .ok (.bipush 8, 2) := by decide +kernel
theorem dX4_init_15 : decode cX4_init 15 = .ok (.newarray .int, 2) := by decide +kernel
theorem dX4_init_17 : decode cX4_init 17 = .ok (.putfield 15, 3) := by decide +kernel
theorem dX4_init_20 : decode cX4_init 20 = .ok (.aload_n 0, 1) := by decide +kernel
theorem dX4_init_21 : decode cX4_init 21 = .ok (.bipush 8, 2) := by decide +kernel
theorem dX4_init_23 : decode cX4_init 23 = .ok (.newarray .int, 2) := by decide +kernel
theorem dX4_init_25 : decode cX4_init 25 = .ok (.putfield 19, 3) := by decide +kernel
theorem dX4_init_28 : decode cX4_init 28 = .ok (.aload_n 0, 1) := by decide +kernel
theorem dX4_init_29 : decode cX4_init 29 = .ok (.bipush 8, 2) := by decide +kernel
theorem dX4_init_31 : decode cX4_init 31 = .ok (.bipush 40, 2) := by decide +kernel
theorem dX4_init_33 : decode cX4_init 33 = .ok (.multianewarray 22 2, 4) := by decide +kernel
theorem dX4_init_37 : decode cX4_init 37 = .ok (.putfield 24, 3) := by decide +kernel
theorem dX4_init_40 : decode cX4_init 40 = .ok (.return_, 1) := by decide +kernel
set_option maxRecDepth 20000 in
theorem ggX4_begin_J7_fill_53178 : GoodIn wsX4_begin wsJ7_fill_53178 := goodIn_r _ [8] (by decide +kernel) (by decide +kernel)
set_option maxRecDepth 20000 in
theorem gX4_begin_J7_fill_53178 : GoodIn wsX4_begin (va_wsS RX4 27 yJ7_fill_53178 wsJ7_fill_53178) := goodIn_app (goodIn_of _ (by decide +kernel)) ggX4_begin_J7_fill_53178
theorem dX4_begin_0 : decode cX4_begin 0 = .ok (.aload_n 0, 1) := by decide +kernel
theorem dX4_begin_1 : decode cX4_begin 1 = .ok (.getfield 9, 3) := by decide +kernel
theorem dX4_begin_4 : decode cX4_begin 4 = .ok (.iload_n 1, 1) := by decide +kernel
theorem dX4_begin_5 : decode cX4_begin 5 = .ok (.iconst 1, 1) := by decide +kernel
theorem dX4_begin_6 : decode cX4_begin 6 = .ok (.bastore, 1) := by decide +kernel
theorem dX4_begin_7 : decode cX4_begin 7 = .ok (.aload_n 0, 1) := by decide +kernel
theorem dX4_begin_8 : decode cX4_begin 8 = .ok (.getfield 15, 3) := by decide +kernel
theorem dX4_begin_11 : decode cX4_begin 11 = .ok (.iload_n 1, 1) := by decide +kernel
theorem dX4_begin_12 : decode cX4_begin 12 = .ok (.iload_n 2, 1) := by decide +kernel
theorem dX4_begin_13 : decode cX4_begin 13 = .ok (.iastore, 1) := by decide +kernel
theorem dX4_begin_14 : decode cX4_begin 14 = .ok (.aload_n 0, 1) := by decide +kernel
theorem dX4_begin_15 : decode cX4_begin 15 = .ok (.getfield 19, 3) := by decide +kernel
theorem dX4_begin_18 : decode cX4_begin 18 = .ok (.iload_n 1, 1) := by decide +kernel
theorem dX4_begin_19 : decode cX4_begin 19 = .ok (.iload_n 3, 1) := by decide +kernel
theorem dX4_begin_20 : decode cX4_begin 20 = .ok (.iastore, 1) := by decide +kernel
theorem dX4_begin_21 : decode cX4_begin 21 = .ok (.aload_n 0, 1) := by decide +kernel
theorem dX4_begin_22 : decode cX4_begin 22 = .ok (.getfield 24, 3) := by decide +kernel
theorem dX4_begin_25 : decode cX4_begin 25 = .ok (.iload_n 1, 1) := by decide +kernel
theorem dX4_begin_26 : decode cX4_begin 26 = .ok (.aaload, 1) := by decide +kernel
theorem dX4_begin_27 : decode cX4_begin 27 = .ok (.iconst 0, 1) := by decide +kernel
theorem dX4_begin_28 : decode cX4_begin 28 = .ok (.invokestatic 27, 3) := by decide +kernel
theorem dX4_begin_31 : decode cX4_begin 31 = .ok (.return_, 1) := by decide +kernel
theorem dX4_spans_0 : decode cX4_spans 0 = .ok (.iload_n 2, 1) := by decide +kernel
theorem dX4_spans_1 : decode cX4_spans 1 = .ok (.ifCond .lt 33, 3) := by decide +kernel
theorem dX4_spans_4 : decode cX4_spans 4 = .ok (.iload_n 3, 1) := by decide +kernel
theorem dX4_spans_5 : decode cX4_spans 5 = .ok (.ifCond .lt 29, 3) := by decide +kernel
theorem dX4_spans_8 : decode cX4_spans 8 = .ok (.iload_n 2, 1) := by decide +kernel
theorem dX4_spans_9 : decode cX4_spans 9 = .ok (.aload_n 0, 1) := by decide +kernel
theorem dX4_spans_10 : decode cX4_spans 10 = .ok (.getfield 19, 3) := by decide +kernel
theorem dX4_spans_13 : decode cX4_spans 13 = .ok (.iload_n 1, 1) := by decide +kernel
theorem dX4_spans_14 : decode cX4_spans 14 = .ok (.iaload, 1) := by decide +kernel
theorem dX4_spans_15 : decode cX4_spans 15 = .ok (.if_icmp .gt 19, 3) := by decide +kernel
theorem dX4_spans_18 : decode cX4_spans 18 = .ok (.iload_n 3, 1) := by decide +kernel
theorem dX4_spans_19 : decode cX4_spans 19 = .ok (.aload_n 0, 1) := by decide +kernel
theorem dX4_spans_20 : decode cX4_spans 20 = .ok (.getfield 19, 3) := by decide +kernel
theorem dX4_spans_23 : decode cX4_spans 23 = .ok (.iload_n 1, 1) := by decide +kernel
theorem dX4_spans_24 : decode cX4_spans 24 = .ok (.iaload, 1) := by decide +kernel
theorem dX4_spans_25 : decode cX4_spans 25 = .ok (.iload_n 2, 1) := by decide +kernel
theorem dX4_spans_26 : decode cX4_spans 26 = .ok (.isub, 1) := by decide +kernel
theorem dX4_spans_27 : decode cX4_spans 27 = .ok (.if_icmp .gt 7, 3) := by decide +kernel
theorem dX4_spans_30 : decode cX4_spans 30 = .ok (.iconst 1, 1) := by decide +kernel
theorem dX4_spans_31 : decode cX4_spans 31 = .ok (.goto 4, 3) := by decide +kernel
theorem dX4_spans_34 : decode cX4_spans 34 = .ok (.iconst 0, 1) := by decide +kernel
theorem dX4_spans_35 : decode cX4_spans 35 = .ok (.ireturn, 1) := by decide +kernel
theorem dX4_cut_0 : decode cX4_cut 0 = .ok (.aload_n 0, 1) := by decide +kernel
theorem dX4_cut_1 : decode cX4_cut 1 = .ok (.getfield 15, 3) := by decide +kernel
theorem dX4_cut_4 : decode cX4_cut 4 = .ok (.iload_n 1, 1) := by decide +kernel
theorem dX4_cut_5 : decode cX4_cut 5 = .ok (.iaload, 1) := by decide +kernel
theorem dX4_cut_6 : decode cX4_cut 6 = .ok (.ifCond .ne 6, 3) := by decide +kernel
theorem dX4_cut_9 : decode cX4_cut 9 = .ok (.iload_n 2, 1) := by decide +kernel
theorem dX4_cut_10 : decode cX4_cut 10 = .ok (.i2b, 1) := by decide +kernel
theorem dX4_cut_11 : decode cX4_cut 11 = .ok (.ireturn, 1) := by decide +kernel
theorem dX4_cut_12 : decode cX4_cut 12 = .ok (.aload_n 0, 1) := by decide +kernel
theorem dX4_cut_13 : decode cX4_cut 13 = .ok (.getfield 15, 3) := by decide +kernel
theorem dX4_cut_16 : decode cX4_cut 16 = .ok (.iload_n 1, 1) := by decide +kernel
theorem dX4_cut_17 : decode cX4_cut 17 = .ok (.iaload, 1) := by decide +kernel
theorem dX4_cut_18 : decode cX4_cut 18 = .ok (.iconst 1, 1) := by decide +kernel
theorem dX4_cut_19 : decode cX4_cut 19 = .ok (.if_icmp .ne 8, 3) := by decide +kernel
theorem dX4_cut_22 : decode cX4_cut 22 = .ok (.iload_n 2, 1) := by decide +kernel
theorem dX4_cut_23 : decode cX4_cut 23 = .ok (.i2s, 1) := by decide +kernel
theorem dX4_cut_24 : decode cX4_cut 24 = .ok (.goto 4, 3) := by decide +kernel
theorem dX4_cut_27 : decode cX4_cut 27 = .ok (.iload_n 2, 1) := by decide +kernel
theorem dX4_cut_28 : decode cX4_cut 28 = .ok (.ireturn, 1) := by decide +kernel
theorem dX4_many_0 : decode cX4_many 0 = .ok (.iconst 0, 1) := by decide +kernel
theorem dX4_many_1 : decode cX4_many 1 = .ok (.istore_n 1, 1) := by decide +kernel
theorem dX4_many_2 : decode cX4_many 2 = .ok (.iconst 0, 1) := by decide +kernel
theorem dX4_many_3 : decode cX4_many 3 = .ok (.istore_n 2, 1) := by decide +kernel
theorem dX4_many_4 : decode cX4_many 4 = .ok (.iload_n 2, 1) := by decide +kernel
theorem dX4_many_5 : decode cX4_many 5 = .ok (.bipush 8, 2) := by decide +kernel
theorem dX4_many_7 : decode cX4_many 7 = .ok (.if_icmp .ge 26, 3) := by decide +kernel
theorem dX4_many_10 : decode cX4_many 10 = .ok (.iload_n 1, 1) := by decide +kernel
theorem dX4_many_11 : decode cX4_many 11 = .ok (.aload_n 0, 1) := by decide +kernel
theorem dX4_many_12 : decode cX4_many 12 = .ok (.getfield 9, 3) := by decide +kernel
theorem dX4_many_15 : decode cX4_many 15 = .ok (.iload_n 2, 1) := by decide +kernel
theorem dX4_many_16 : decode cX4_many 16 = .ok (.baload, 1) := by decide +kernel
theorem dX4_many_17 : decode cX4_many 17 = .ok (.ifCond .eq 7, 3) := by decide +kernel
theorem dX4_many_20 : decode cX4_many 20 = .ok (.iconst 1, 1) := by decide +kernel
theorem dX4_many_21 : decode cX4_many 21 = .ok (.goto 4, 3) := by decide +kernel
theorem dX4_many_24 : decode cX4_many 24 = .ok (.iconst 0, 1) := by decide +kernel
theorem dX4_many_25 : decode cX4_many 25 = .ok (.iadd, 1) := by decide +kernel
theorem dX4_many_26 : decode cX4_many 26 = .ok (.istore_n 1, 1) := by decide +kernel
theorem dX4_many_27 : decode cX4_many 27 = .ok (.iinc 2 1, 3) := by decide +kernel
theorem dX4_many_30 : decode cX4_many 30 = .ok (.goto (-26), 3) := by decide +kernel
theorem dX4_many_33 : decode cX4_many 33 = .ok (.iload_n 1, 1) := by decide +kernel
theorem dX4_many_34 : decode cX4_many 34 = .ok (.ireturn, 1) := by decide +kernel
theorem dX5_init_0 : decode cX5_init 0 = .ok (.aload_n 0, 1) := by decide +kernel
theorem dX5_init_1 : decode cX5_init 1 = .ok (.invokespecial 3, 3) := by decide +kernel
theorem dX5_init_4 : decode cX5_init 4 = .ok (.aload_n 0, 1) := by decide +kernel
theorem dX5_init_5 : decode cX5_init 5 = .ok (.bipush 100, 2) := by decide +kernel
theorem dX5_init_7 : decode cX5_init 7 = .ok (.newarray .int, 2) := by decide +kernel
theorem dX5_init_9 : decode cX5_init 9 = .ok (.putfield 9, 3) := by decide +kernel
theorem dX5_init_12 : decode cX5_init 12 = .ok (.return_, 1) := by decide +kernel
theorem dX5_add_0 : decode cX5_add 0 = .ok (.aload_n 0, 1) := by decide +kernel
theorem dX5_add_1 : decode cX5_add 1 = .ok (.getfield 15, 3) := by decide +kernel
theorem dX5_add_4 : decode cX5_add 4 = .ok (.bipush 100, 2) := by decide +kernel
theorem dX5_add_6 : decode cX5_add 6 = .ok (.if_icmp .ge 23, 3) := by decide +kernel
theorem dX5_add_9 : decode cX5_add 9 = .ok (.aload_n 0, 1) := by decide +kernel
theorem dX5_add_10 : decode cX5_add 10 = .ok (.getfield 9, 3) := by decide +kernel
theorem dX5_add_13 : decode cX5_add 13 = .ok (.aload_n 0, 1) := by decide +kernel
theorem dX5_add_14 : decode cX5_add 14 = .ok (.getfield 15, 3) := by decide +kernel
theorem dX5_add_17 : decode cX5_add 17 = .ok (.iload_n 1, 1) := by decide +kernel
theorem dX5_add_18 : decode cX5_add 18 = .ok (.iastore, 1) := by decide +kernel
theorem dX5_add_19 : decode cX5_add 19 = .ok (.aload_n 0, 1) := by decide +kernel
theorem dX5_add_20 : decode cX5_add 20 = .ok (.dup, 1) := by decide +kernel
theorem dX5_add_21 : decode cX5_add 21 = .ok (.getfield 15, 3) := by decide +kernel
theorem dX5_add_24 : decode cX5_add 24 = .ok (.iconst 1, 1) := by decide +kernel
theorem dX5_add_25 : decode cX5_add 25 = .ok (.iadd, 1) := by decide +kernel
theorem dX5_add_26 : decode cX5_add 26 = .ok (.putfield 15, 3) := by decide +kernel
theorem dX5_add_29 : decode cX5_add 29 = .ok (.aload_n 0, 1) := by decide +kernel
theorem dX5_add_30 : decode cX5_add 30 = .ok (.getfield 15, 3) := by decide +kernel
theorem dX5_add_33 : decode cX5_add 33 = .ok (.ireturn, 1) := by decide +kernel
set_option maxRecDepth 20000 in
theorem ggX5_readInto_X5_readLaw : GoodIn wsX5_readInto wsX5_readLaw := goodIn_r _ [7, 8, 9, 10, 11, 6, 12, 1, 13, 14, 15, 16, 2, 17, 18, 19, 20, 21, 22, 23, 24, 25, 26, 27, 28, 29, 30, 31, 32, 33, 34, 35, 36, 37, 38, 39, 40, 41, 57, 58, 59, 60, 61, 62, 63, 64, 65, 66, 67, 68, 69, 70] (by decide +kernel) (by decide +kernel)
set_option maxRecDepth 20000 in
theorem gX5_readInto_X5_readLaw : GoodIn wsX5_readInto (wsV RX5 22 RX5 yX5_readLaw wsX5_readLaw) := goodIn_app (goodIn_of _ (by decide +kernel)) ggX5_readInto_X5_readLaw
set_option maxRecDepth 20000 in
theorem ggX5_readInto_X5_readSoul : GoodIn wsX5_readInto wsX5_readSoul := goodIn_r _ [45, 46, 1, 8, 13, 14, 15, 6, 16, 2, 17, 47, 48, 49, 18, 19, 20, 21, 22, 23, 24, 25, 26, 27, 28, 29, 9, 10, 11, 12, 50, 51, 52, 33, 53, 35, 54, 55, 56, 61, 62, 63, 64, 65, 66, 67, 68, 69, 70, 57, 58, 59, 60] (by decide +kernel) (by decide +kernel)
set_option maxRecDepth 20000 in
theorem gX5_readInto_X5_readSoul : GoodIn wsX5_readInto (wsV RX5 26 RX5 yX5_readSoul wsX5_readSoul) := goodIn_app (goodIn_of _ (by decide +kernel)) ggX5_readInto_X5_readSoul
set_option maxRecDepth 20000 in
theorem ggX5_readInto_X5_wrong : GoodIn wsX5_readInto wsX5_wrong := goodIn_r _ [21, 22, 57, 58, 59, 60] (by decide +kernel) (by decide +kernel)
set_option maxRecDepth 20000 in
theorem gX5_readInto_X5_wrong : GoodIn wsX5_readInto (wsV RX5 29 RX5 yX5_wrong wsX5_wrong) := goodIn_app (goodIn_of _ (by decide +kernel)) ggX5_readInto_X5_wrong
theorem dX5_readInto_0 : decode cX5_readInto 0 = .ok (.aload_n 0, 1) := by decide +kernel
theorem dX5_readInto_1 : decode cX5_readInto 1 = .ok (.iconst 0, 1) := by decide +kernel
theorem dX5_readInto_2 : decode cX5_readInto 2 = .ok (.putfield 19, 3) := by decide +kernel
theorem dX5_readInto_5 : decode cX5_readInto 5 = .ok (.aload_n 0, 1) := by decide +kernel
theorem dX5_readInto_6 : decode cX5_readInto 6 = .ok (.aload_n 1, 1) := by decide +kernel
theorem dX5_readInto_7 : decode cX5_readInto 7 = .ok (.invokevirtual 22, 3) := by decide +kernel
theorem dX5_readInto_10 : decode cX5_readInto 10 = .ok (.ifCond .ne 5, 3) := by decide +kernel
theorem dX5_readInto_13 : decode cX5_readInto 13 = .ok (.iconst 0, 1) := by decide +kernel
theorem dX5_readInto_14 : decode cX5_readInto 14 = .ok (.ireturn, 1) := by decide +kernel
theorem dX5_readInto_15 : decode cX5_readInto 15 = .ok (.iconst 0, 1) := by decide +kernel
theorem dX5_readInto_16 : decode cX5_readInto 16 = .ok (.istore_n 2, 1) := by decide +kernel
theorem dX5_readInto_17 : decode cX5_readInto 17 = .ok (.iload_n 2, 1) := by decide +kernel
theorem dX5_readInto_18 : decode cX5_readInto 18 = .ok (.bipush 7, 2) := by decide +kernel
theorem dX5_readInto_20 : decode cX5_readInto 20 = .ok (.if_icmp .gt 32, 3) := by decide +kernel
theorem dX5_readInto_23 : decode cX5_readInto 23 = .ok (.aload_n 0, 1) := by decide +kernel
theorem dX5_readInto_24 : decode cX5_readInto 24 = .ok (.aload_n 1, 1) := by decide +kernel
theorem dX5_readInto_25 : decode cX5_readInto 25 = .ok (.invokevirtual 26, 3) := by decide +kernel
theorem dX5_readInto_28 : decode cX5_readInto 28 = .ok (.ifCond .ne 5, 3) := by decide +kernel
theorem dX5_readInto_31 : decode cX5_readInto 31 = .ok (.iconst 0, 1) := by decide +kernel
theorem dX5_readInto_32 : decode cX5_readInto 32 = .ok (.ireturn, 1) := by decide +kernel
theorem dX5_readInto_33 : decode cX5_readInto 33 = .ok (.aload_n 0, 1) := by decide +kernel
theorem dX5_readInto_34 : decode cX5_readInto 34 = .ok (.getfield 19, 3) := by decide +kernel
theorem dX5_readInto_37 : decode cX5_readInto 37 = .ok (.aload_n 0, 1) := by decide +kernel
theorem dX5_readInto_38 : decode cX5_readInto 38 = .ok (.getfield 15, 3) := by decide +kernel
theorem dX5_readInto_41 : decode cX5_readInto 41 = .ok (.if_icmp .lt 5, 3) := by decide +kernel
theorem dX5_readInto_44 : decode cX5_readInto 44 = .ok (.iconst 1, 1) := by decide +kernel
theorem dX5_readInto_45 : decode cX5_readInto 45 = .ok (.ireturn, 1) := by decide +kernel
theorem dX5_readInto_46 : decode cX5_readInto 46 = .ok (.iinc 2 1, 3) := by decide +kernel
theorem dX5_readInto_49 : decode cX5_readInto 49 = .ok (.goto (-32), 3) := by decide +kernel
theorem dX5_readInto_52 : decode cX5_readInto 52 = .ok (.aload_n 0, 1) := by decide +kernel
theorem dX5_readInto_53 : decode cX5_readInto 53 = .ok (.iconst 3, 1) := by decide +kernel
theorem dX5_readInto_54 : decode cX5_readInto 54 = .ok (.invokevirtual 29, 3) := by decide +kernel
theorem dX5_readInto_57 : decode cX5_readInto 57 = .ok (.ireturn, 1) := by decide +kernel
set_option maxRecDepth 20000 in
theorem ggX5_readLaw_X5_readSign : GoodIn wsX5_readLaw wsX5_readSign := goodIn_r _ [6, 7, 8, 9, 10, 5, 11, 12, 13, 1, 14, 15, 16, 17, 18, 38, 39, 40, 41] (by decide +kernel) (by decide +kernel)
set_option maxRecDepth 20000 in
theorem gX5_readLaw_X5_readSign : GoodIn wsX5_readLaw (wsV RX5 33 RX5 yX5_readSign wsX5_readSign) := goodIn_app (goodIn_of _ (by decide +kernel)) ggX5_readLaw_X5_readSign
set_option maxRecDepth 20000 in
theorem ggX5_readLaw_X5_readNumber : GoodIn wsX5_readLaw wsX5_readNumber := goodIn_r _ [22, 7, 12, 13, 1, 23, 24, 5, 25, 14, 15, 16, 17, 18, 38, 39, 40, 41] (by decide +kernel) (by decide +kernel)
set_option maxRecDepth 20000 in
theorem gX5_readLaw_X5_readNumber : GoodIn wsX5_readLaw (wsV RX5 36 RX5 yX5_readNumber wsX5_readNumber) := goodIn_app (goodIn_of _ (by decide +kernel)) ggX5_readLaw_X5_readNumber
set_option maxRecDepth 20000 in
theorem ggX5_readLaw_X2_begin : GoodIn wsX5_readLaw wsX2_begin := goodIn_r _ [30, 31, 32, 33, 34, 35, 36, 37, 42, 43, 44, 45, 46, 47, 48, 49, 50, 51] (by decide +kernel) (by decide +kernel)
set_option maxRecDepth 20000 in
theorem gX5_readLaw_X2_begin : GoodIn wsX5_readLaw (wsV RX5 41 RX2 yX2_begin wsX2_begin) := goodIn_app (goodIn_of _ (by decide +kernel)) ggX5_readLaw_X2_begin
theorem dX5_readLaw_0 : decode cX5_readLaw 0 = .ok (.aload_n 0, 1) := by decide +kernel
theorem dX5_readLaw_1 : decode cX5_readLaw 1 = .ok (.bipush 115, 2) := by decide +kernel
theorem dX5_readLaw_3 : decode cX5_readLaw 3 = .ok (.invokevirtual 33, 3) := by decide +kernel
theorem dX5_readLaw_6 : decode cX5_readLaw 6 = .ok (.ifCond .ne 5, 3) := by decide +kernel
theorem dX5_readLaw_9 : decode cX5_readLaw 9 = .ok (.iconst 0, 1) := by decide +kernel
theorem dX5_readLaw_10 : decode cX5_readLaw 10 = .ok (.ireturn, 1) := by decide +kernel
theorem dX5_readLaw_11 : decode cX5_readLaw 11 = .ok (.aload_n 0, 1) := by decide +kernel
theorem dX5_readLaw_12 : decode cX5_readLaw 12 = .ok (.bipush 60, 2) := by decide +kernel
theorem dX5_readLaw_14 : decode cX5_readLaw 14 = .ok (.invokevirtual 36, 3) := by decide +kernel
theorem dX5_readLaw_17 : decode cX5_readLaw 17 = .ok (.istore_n 2, 1) := by decide +kernel
theorem dX5_readLaw_18 : decode cX5_readLaw 18 = .ok (.iload_n 2, 1) := by decide +kernel
theorem dX5_readLaw_19 : decode cX5_readLaw 19 = .ok (.ldc 40, 2) := by decide +kernel
theorem dX5_readLaw_21 : decode cX5_readLaw 21 = .ok (.if_icmp .eq 12, 3) := by decide +kernel
theorem dX5_readLaw_24 : decode cX5_readLaw 24 = .ok (.aload_n 0, 1) := by decide +kernel
theorem dX5_readLaw_25 : decode cX5_readLaw 25 = .ok (.bipush 44, 2) := by decide +kernel
theorem dX5_readLaw_27 : decode cX5_readLaw 27 = .ok (.invokevirtual 33, 3) := by decide +kernel
theorem dX5_readLaw_30 : decode cX5_readLaw 30 = .ok (.ifCond .ne 5, 3) := by decide +kernel
theorem dX5_readLaw_33 : decode cX5_readLaw 33 = .ok (.iconst 0, 1) := by decide +kernel
theorem dX5_readLaw_34 : decode cX5_readLaw 34 = .ok (.ireturn, 1) := by decide +kernel
theorem dX5_readLaw_35 : decode cX5_readLaw 35 = .ok (.aload_n 0, 1) := by decide +kernel
theorem dX5_readLaw_36 : decode cX5_readLaw 36 = .ok (.iconst 5, 1) := by decide +kernel
theorem dX5_readLaw_37 : decode cX5_readLaw 37 = .ok (.invokevirtual 36, 3) := by decide +kernel
theorem dX5_readLaw_40 : decode cX5_readLaw 40 = .ok (.istore_n 3, 1) := by decide +kernel
theorem dX5_readLaw_41 : decode cX5_readLaw 41 = .ok (.iload_n 3, 1) := by decide +kernel
theorem dX5_readLaw_42 : decode cX5_readLaw 42 = .ok (.ldc 40, 2) := by decide +kernel
theorem dX5_readLaw_44 : decode cX5_readLaw 44 = .ok (.if_icmp .eq 12, 3) := by decide +kernel
theorem dX5_readLaw_47 : decode cX5_readLaw 47 = .ok (.aload_n 0, 1) := by decide +kernel
theorem dX5_readLaw_48 : decode cX5_readLaw 48 = .ok (.bipush 59, 2) := by decide +kernel
theorem dX5_readLaw_50 : decode cX5_readLaw 50 = .ok (.invokevirtual 33, 3) := by decide +kernel
theorem dX5_readLaw_53 : decode cX5_readLaw 53 = .ok (.ifCond .ne 5, 3) := by decide +kernel
theorem dX5_readLaw_56 : decode cX5_readLaw 56 = .ok (.iconst 0, 1) := by decide +kernel
theorem dX5_readLaw_57 : decode cX5_readLaw 57 = .ok (.ireturn, 1) := by decide +kernel
theorem dX5_readLaw_58 : decode cX5_readLaw 58 = .ok (.aload_n 1, 1) := by decide +kernel
theorem dX5_readLaw_59 : decode cX5_readLaw 59 = .ok (.iload_n 2, 1) := by decide +kernel
theorem dX5_readLaw_60 : decode cX5_readLaw 60 = .ok (.iload_n 3, 1) := by decide +kernel
theorem dX5_readLaw_61 : decode cX5_readLaw 61 = .ok (.invokevirtual 41, 3) := by decide +kernel
theorem dX5_readLaw_64 : decode cX5_readLaw 64 = .ok (.iconst 1, 1) := by decide +kernel
theorem dX5_readLaw_65 : decode cX5_readLaw 65 = .ok (.ireturn, 1) := by decide +kernel
set_option maxRecDepth 20000 in
theorem ggX5_readSoul_X5_here : GoodIn wsX5_readSoul wsX5_here := goodIn_r _ [8, 2, 9, 10, 3, 49, 50, 51, 52] (by decide +kernel) (by decide +kernel)
set_option maxRecDepth 20000 in
theorem gX5_readSoul_X5_here : GoodIn wsX5_readSoul (wsV RX5 47 RX5 yX5_here wsX5_here) := goodIn_app (goodIn_of _ (by decide +kernel)) ggX5_readSoul_X5_here
set_option maxRecDepth 20000 in
theorem ggX5_readSoul_X5_kindOf : GoodIn wsX5_readSoul wsX5_kindOf := goodIn_r _ [13] (by decide +kernel) (by decide +kernel)
set_option maxRecDepth 20000 in
theorem gX5_readSoul_X5_kindOf : GoodIn wsX5_readSoul (va_wsS RX5 51 yX5_kindOf wsX5_kindOf) := goodIn_app (goodIn_of _ (by decide +kernel)) ggX5_readSoul_X5_kindOf
set_option maxRecDepth 20000 in
theorem ggX5_readSoul_X5_wrong : GoodIn wsX5_readSoul wsX5_wrong := goodIn_r _ [17, 18, 49, 50, 51, 52] (by decide +kernel) (by decide +kernel)
set_option maxRecDepth 20000 in
theorem gX5_readSoul_X5_wrong : GoodIn wsX5_readSoul (wsV RX5 29 RX5 yX5_wrong wsX5_wrong) := goodIn_app (goodIn_of _ (by decide +kernel)) ggX5_readSoul_X5_wrong
set_option maxRecDepth 20000 in
theorem ggX5_readSoul_X5_readNumber : GoodIn wsX5_readSoul wsX5_readNumber := goodIn_r _ [22, 2, 9, 10, 3, 23, 24, 7, 25, 14, 15, 16, 17, 18, 49, 50, 51, 52] (by decide +kernel) (by decide +kernel)
set_option maxRecDepth 20000 in
theorem gX5_readSoul_X5_readNumber : GoodIn wsX5_readSoul (wsV RX5 36 RX5 yX5_readNumber wsX5_readNumber) := goodIn_app (goodIn_of _ (by decide +kernel)) ggX5_readSoul_X5_readNumber
set_option maxRecDepth 20000 in
theorem ggX5_readSoul_X5_readSign : GoodIn wsX5_readSoul wsX5_readSign := goodIn_r _ [29, 2, 4, 5, 6, 7, 8, 9, 10, 3, 14, 15, 16, 17, 18, 49, 50, 51, 52] (by decide +kernel) (by decide +kernel)
set_option maxRecDepth 20000 in
theorem gX5_readSoul_X5_readSign : GoodIn wsX5_readSoul (wsV RX5 33 RX5 yX5_readSign wsX5_readSign) := goodIn_app (goodIn_of _ (by decide +kernel)) ggX5_readSoul_X5_readSign
set_option maxRecDepth 20000 in
theorem ggX5_readSoul_X2_addSoul : GoodIn wsX5_readSoul wsX2_addSoul := goodIn_r _ [34, 35, 36, 37, 38, 39, 40, 41, 42, 43, 44, 45, 46, 47, 48] (by decide +kernel) (by decide +kernel)
set_option maxRecDepth 20000 in
theorem gX5_readSoul_X2_addSoul : GoodIn wsX5_readSoul (wsV RX5 57 RX2 yX2_addSoul wsX2_addSoul) := goodIn_app (goodIn_of _ (by decide +kernel)) ggX5_readSoul_X2_addSoul
theorem dX5_readSoul_0 : decode cX5_readSoul 0 = .ok (.aload_n 0, 1) := by decide +kernel
theorem dX5_readSoul_1 : decode cX5_readSoul 1 = .ok (.invokevirtual 47, 3) := by decide +kernel
theorem dX5_readSoul_4 : decode cX5_readSoul 4 = .ok (.invokestatic 51, 3) := by decide +kernel
theorem dX5_readSoul_7 : decode cX5_readSoul 7 = .ok (.istore_n 2, 1) := by decide +kernel
theorem dX5_readSoul_8 : decode cX5_readSoul 8 = .ok (.iload_n 2, 1) := by decide +kernel
theorem dX5_readSoul_9 : decode cX5_readSoul 9 = .ok (.ifCond .ne 9, 3) := by decide +kernel
theorem dX5_readSoul_12 : decode cX5_readSoul 12 = .ok (.aload_n 0, 1) := by decide +kernel
theorem dX5_readSoul_13 : decode cX5_readSoul 13 = .ok (.iconst 1, 1) := by decide +kernel
theorem dX5_readSoul_14 : decode cX5_readSoul 14 = .ok (.invokevirtual 29, 3) := by decide +kernel
theorem dX5_readSoul_17 : decode cX5_readSoul 17 = .ok (.ireturn, 1) := by decide +kernel
theorem dX5_readSoul_18 : decode cX5_readSoul 18 = .ok (.aload_n 1, 1) := by decide +kernel
theorem dX5_readSoul_19 : decode cX5_readSoul 19 = .ok (.getfield 54, 3) := by decide +kernel
theorem dX5_readSoul_22 : decode cX5_readSoul 22 = .ok (.bipush 7, 2) := by decide +kernel
theorem dX5_readSoul_24 : decode cX5_readSoul 24 = .ok (.if_icmp .lt 9, 3) := by decide +kernel
theorem dX5_readSoul_27 : decode cX5_readSoul 27 = .ok (.aload_n 0, 1) := by decide +kernel
theorem dX5_readSoul_28 : decode cX5_readSoul 28 = .ok (.iconst 3, 1) := by decide +kernel
theorem dX5_readSoul_29 : decode cX5_readSoul 29 = .ok (.invokevirtual 29, 3) := by decide +kernel
theorem dX5_readSoul_32 : decode cX5_readSoul 32 = .ok (.ireturn, 1) := by decide +kernel
theorem dX5_readSoul_33 : decode cX5_readSoul 33 = .ok (.aload_n 0, 1) := by decide +kernel
theorem dX5_readSoul_34 : decode cX5_readSoul 34 = .ok (.dup, 1) := by decide +kernel
theorem dX5_readSoul_35 : decode cX5_readSoul 35 = .ok (.getfield 19, 3) := by decide +kernel
theorem dX5_readSoul_38 : decode cX5_readSoul 38 = .ok (.iconst 1, 1) := by decide +kernel
theorem dX5_readSoul_39 : decode cX5_readSoul 39 = .ok (.iadd, 1) := by decide +kernel
theorem dX5_readSoul_40 : decode cX5_readSoul 40 = .ok (.putfield 19, 3) := by decide +kernel
theorem dX5_readSoul_43 : decode cX5_readSoul 43 = .ok (.aload_n 0, 1) := by decide +kernel
theorem dX5_readSoul_44 : decode cX5_readSoul 44 = .ok (.bipush 20, 2) := by decide +kernel
theorem dX5_readSoul_46 : decode cX5_readSoul 46 = .ok (.invokevirtual 36, 3) := by decide +kernel
theorem dX5_readSoul_49 : decode cX5_readSoul 49 = .ok (.istore_n 3, 1) := by decide +kernel
theorem dX5_readSoul_50 : decode cX5_readSoul 50 = .ok (.iload_n 3, 1) := by decide +kernel
